/- X8_saved -/

set_option maxRecDepth 100000 in
set_option maxHeartbeats 4000000 in
theorem t_X8_saved_54 {g : zF} (hl0 : g.2.2.2.1.stackTraces = false) {Q : zR × zS → Prop} (r18 : Int → Int → Int → Int → zS → zFn) (hr18 : ∀ b0 b1 b2 b3 τ, zo (r18 b0 b1 b2 b3 τ) Q → zw g Y_X8_saved R_X8_saved 18 [(0, (4, b0)), (1, (0, b1)), (2, (0, b2)), (3, (0, b3))] [] τ 0 0 Q) {a0 a1 a3 s0 s1 : Int} {σ : zS} (h : zo (f_X8_saved_54 r18 a0 a1 a3 s0 s1 σ) Q) : zw g Y_X8_saved R_X8_saved 54 [(0, (4, a0)), (1, (0, a1)), (3, (0, a3))] [(0, s1), (0, s0)] σ 0 0 Q := by
  unfold f_X8_saved_54 at h
  refine r_iadd dX8_saved_54 ?_
  refine r_istore_n (L' := [(2, (0, (w32 (s0 + s1)))), (0, (4, a0)), (1, (0, a1)), (3, (0, a3))]) dX8_saved_55 (by decide) rfl ?_
  refine r_iinc (L' := [(3, (0, (w32 (a3 + 1)))), (2, (0, (w32 (s0 + s1)))), (0, (4, a0)), (1, (0, a1))]) 3 dX8_saved_56 rfl (by decide) rfl ?_
  refine r_goto 18 dX8_saved_59 (by decide) ?_
  refine r_weak (L' := [(0, (4, a0)), (1, (0, a1)), (2, (0, (w32 (s0 + s1)))), (3, (0, (w32 (a3 + 1))))]) [2, 3, 1, 0] rfl ?_
  exact hr18 _ _ _ _ _ h

set_option maxRecDepth 100000 in
set_option maxHeartbeats 4000000 in
theorem t_X8_saved_53 {g : zF} (hl0 : g.2.2.2.1.stackTraces = false) {Q : zR × zS → Prop} (r18 : Int → Int → Int → Int → zS → zFn) (hr18 : ∀ b0 b1 b2 b3 τ, zo (r18 b0 b1 b2 b3 τ) Q → zw g Y_X8_saved R_X8_saved 18 [(0, (4, b0)), (1, (0, b1)), (2, (0, b2)), (3, (0, b3))] [] τ 0 0 Q) {a0 a1 a3 s0 : Int} {σ : zS} (h : zo (f_X8_saved_53 r18 a0 a1 a3 s0 σ) Q) : zw g Y_X8_saved R_X8_saved 53 [(0, (4, a0)), (1, (0, a1)), (3, (0, a3))] [(0, s0)] σ 0 0 Q := by
  unfold f_X8_saved_53 at h
  refine r_iconst (v := 0) dX8_saved_53 rfl rfl ?_
  exact t_X8_saved_54 hl0 r18 hr18 h

set_option maxRecDepth 100000 in
set_option maxHeartbeats 4000000 in
theorem t_X8_saved_18 {g : zF} (hl0 : g.2.2.2.1.stackTraces = false) {Q : zR × zS → Prop}   : ∀ (n : Nat) (a0 a1 a2 a3 : Int) (σ : zS), zo (f_X8_saved_18  n a0 a1 a2 a3 σ) Q → zw g Y_X8_saved R_X8_saved 18 [(0, (4, a0)), (1, (0, a1)), (2, (0, a2)), (3, (0, a3))] [] σ 0 0 Q := by
  intro n
  induction n with
  | zero => intro a0 a1 a2 a3 σ h; obtain ⟨r, h, -⟩ := h; cases h
  | succ n ih =>
    intro a0 a1 a2 a3 σ h
    unfold f_X8_saved_18 at h
    refine r_iload_n 3 dX8_saved_18 rfl ?_
    refine r_aload_n 0 dX8_saved_19 rfl ?_
    refine r_callV (K' := Y_X8_ways) (R' := R_X8_ways) (idx := 74) (n := 0) (b := a0) (as := []) (rest := [(0, a3)]) (C' := 0) (D' := 0) (cn := 8) rfl k0_X8_ways kV_X8_ways kl_X8_74 ⟨by decide, by decide⟩ dX8_saved_20 rfl rfl (Nat.le_of_ble_eq_true rfl) (by decide) (by decide) rfl h (fun r hr => m_X8_ways hl0 ⟨r, hr, hr⟩) (fun x1 τ2 _ h => ?_)
    refine r_icmp_ge 62 dX8_saved_23 (by decide) h (fun h => ?_) (fun h => ?_)
    · refine r_iload_n 2 dX8_saved_62 rfl ?_
      exact r_iret rfl dX8_saved_63 h
    · refine r_iload_n 2 dX8_saved_26 rfl ?_
      refine r_aload_n 0 dX8_saved_27 rfl ?_
      refine r_iload_n 1 dX8_saved_28 rfl ?_
      refine r_iload_n 3 dX8_saved_29 rfl ?_
      refine r_callV (K' := Y_X8_ownOf) (R' := R_X8_ownOf) (idx := 169) (n := 2) (b := a0) (as := [(0, a1), (0, a3)]) (rest := [(0, a2)]) (C' := 0) (D' := 0) (cn := 8) rfl k0_X8_ownOf kV_X8_ownOf kl_X8_169 ⟨by decide, by decide⟩ dX8_saved_30 rfl rfl (Nat.le_of_ble_eq_true rfl) (by decide) (by decide) rfl h (fun r hr => m_X8_ownOf hl0 ⟨r, hr, hr⟩) (fun x3 τ4 _ h => ?_)
      refine r_iconst (v := (-1)) dX8_saved_33 rfl rfl ?_
      refine r_icmp_ne 53 dX8_saved_34 (by decide) h (fun h => ?_) (fun h => ?_)
      · refine r_weak (L' := [(0, (4, a0)), (1, (0, a1)), (3, (0, a3))]) [0, 1, 3] rfl ?_
        exact t_X8_saved_53 hl0 (f_X8_saved_18  n) (fun b0 b1 b2 b3 τ h => ih b0 b1 b2 b3 τ h) h
      · refine r_aload_n 0 dX8_saved_37 rfl ?_
        refine r_iload_n 1 dX8_saved_38 rfl ?_
        refine r_iload_n 3 dX8_saved_39 rfl ?_
        refine r_callV (K' := Y_X8_widthOf) (R' := R_X8_widthOf) (idx := 395) (n := 2) (b := a0) (as := [(0, a1), (0, a3)]) (rest := [(0, a2)]) (C' := 0) (D' := 0) (cn := 8) rfl k0_X8_widthOf kV_X8_widthOf kl_X8_395 ⟨by decide, by decide⟩ dX8_saved_40 rfl rfl (Nat.le_of_ble_eq_true rfl) (by decide) (by decide) rfl h (fun r hr => m_X8_widthOf hl0 ⟨r, hr, hr⟩) (fun x5 τ6 _ h => ?_)
        refine r_sipush (v := 999) dX8_saved_43 rfl rfl ?_
        refine r_icmp_ge 53 dX8_saved_46 (by decide) h (fun h => ?_) (fun h => ?_)
        · refine r_weak (L' := [(0, (4, a0)), (1, (0, a1)), (3, (0, a3))]) [0, 1, 3] rfl ?_
          exact t_X8_saved_53 hl0 (f_X8_saved_18  n) (fun b0 b1 b2 b3 τ h => ih b0 b1 b2 b3 τ h) h
        · refine r_iconst (v := 1) dX8_saved_49 rfl rfl ?_
          refine r_goto 54 dX8_saved_50 (by decide) ?_
          refine r_weak (L' := [(0, (4, a0)), (1, (0, a1)), (3, (0, a3))]) [0, 1, 3] rfl ?_
          exact t_X8_saved_54 hl0 (f_X8_saved_18  n) (fun b0 b1 b2 b3 τ h => ih b0 b1 b2 b3 τ h) h

set_option maxRecDepth 100000 in
set_option maxHeartbeats 4000000 in
theorem t_X8_saved {g : zF} (hl0 : g.2.2.2.1.stackTraces = false) {Q : zR × zS → Prop}   {a0 a1 : Int} {σ : zS} (h : zo (f_X8_saved  a0 a1 σ) Q) : zw g Y_X8_saved R_X8_saved 0 [(0, (4, a0)), (1, (0, a1))] [] σ 0 0 Q := by
  unfold f_X8_saved at h
  refine r_aload_n 0 dX8_saved_0 rfl ?_
  refine r_aload_n 0 dX8_saved_1 rfl ?_
  refine r_iload_n 1 dX8_saved_2 rfl ?_
  refine r_callV (K' := Y_X8_isAgent) (R' := R_X8_isAgent) (idx := 88) (n := 1) (b := a0) (as := [(0, a1)]) (rest := [(4, a0)]) (C' := 0) (D' := 0) (cn := 8) rfl k0_X8_isAgent kV_X8_isAgent kl_X8_88 ⟨by decide, by decide⟩ dX8_saved_3 rfl rfl (Nat.le_of_ble_eq_true rfl) (by decide) (by decide) rfl h (fun r hr => m_X8_isAgent hl0 ⟨r, hr, hr⟩) (fun x1 τ2 _ h => ?_)
  refine r_callV (K' := Y_X8_passes) (R' := R_X8_passes) (idx := 215) (n := 1) (b := a0) (as := [(0, x1)]) (rest := []) (C' := 0) (D' := 0) (cn := 8) rfl k0_X8_passes kV_X8_passes kl_X8_215 ⟨by decide, by decide⟩ dX8_saved_6 rfl rfl (Nat.le_of_ble_eq_true rfl) (by decide) (by decide) rfl h (fun r hr => m_X8_passes hl0 ⟨r, hr, hr⟩) (fun x3 τ4 _ h => ?_)
  refine r_if_ne 14 dX8_saved_9 (by decide) h (fun h => ?_) (fun h => ?_)
  · refine r_iconst (v := 0) dX8_saved_14 rfl rfl ?_
    refine r_istore_n (L' := [(2, (0, 0)), (0, (4, a0)), (1, (0, a1))]) dX8_saved_15 (by decide) rfl ?_
    refine r_iconst (v := 0) dX8_saved_16 rfl rfl ?_
    refine r_istore_n (L' := [(3, (0, 0)), (2, (0, 0)), (0, (4, a0)), (1, (0, a1))]) dX8_saved_17 (by decide) rfl ?_
    refine r_weak (L' := [(0, (4, a0)), (1, (0, a1)), (2, (0, 0)), (3, (0, 0))]) [2, 3, 1, 0] rfl ?_
    exact t_X8_saved_18 hl0   zFU _ _ _ _ _ h
  · refine r_iconst (v := 0) dX8_saved_12 rfl rfl ?_
    exact r_iret rfl dX8_saved_13 h
theorem m_X8_saved {g : zF} (hl0 : g.2.2.2.1.stackTraces = false) {Q : zR × zS → Prop} {a0 a1 : Int} {σ : zS} (h : zo (f_X8_saved a0 a1 σ) Q) : zm g Y_X8_saved R_X8_saved [(4, a0), (0, a1)] σ Q := zm_of (by decide) rfl (Nat.le_of_ble_eq_true rfl) (t_X8_saved hl0 h)


/- X8_agreeing -/

set_option maxRecDepth 100000 in
set_option maxHeartbeats 4000000 in
theorem t_X8_agreeing_80 {g : zF} (hl0 : g.2.2.2.1.stackTraces = false) {Q : zR × zS → Prop} (r20 : Int → Int → Int → Int → Int → zS → zFn) (hr20 : ∀ b0 b1 b2 b3 b4 τ, zo (r20 b0 b1 b2 b3 b4 τ) Q → zw g Y_X8_agreeing R_X8_agreeing 20 [(0, (4, b0)), (1, (0, b1)), (2, (0, b2)), (3, (0, b3)), (4, (0, b4))] [] τ 0 0 Q) {a0 a1 a2 a4 s0 s1 : Int} {σ : zS} (h : zo (f_X8_agreeing_80 r20 a0 a1 a2 a4 s0 s1 σ) Q) : zw g Y_X8_agreeing R_X8_agreeing 80 [(0, (4, a0)), (1, (0, a1)), (2, (0, a2)), (4, (0, a4))] [(0, s1), (0, s0)] σ 0 0 Q := by
  unfold f_X8_agreeing_80 at h
  refine r_iadd dX8_agreeing_80 ?_
  refine r_istore_n (L' := [(3, (0, (w32 (s0 + s1)))), (0, (4, a0)), (1, (0, a1)), (2, (0, a2)), (4, (0, a4))]) dX8_agreeing_81 (by decide) rfl ?_
  refine r_iinc (L' := [(4, (0, (w32 (a4 + 1)))), (3, (0, (w32 (s0 + s1)))), (0, (4, a0)), (1, (0, a1)), (2, (0, a2))]) 4 dX8_agreeing_82 rfl (by decide) rfl ?_
  refine r_goto 20 dX8_agreeing_85 (by decide) ?_
  refine r_weak (L' := [(0, (4, a0)), (1, (0, a1)), (2, (0, a2)), (3, (0, (w32 (s0 + s1)))), (4, (0, (w32 (a4 + 1))))]) [2, 3, 4, 1, 0] rfl ?_
  exact hr20 _ _ _ _ _ _ h

set_option maxRecDepth 100000 in
set_option maxHeartbeats 4000000 in
theorem t_X8_agreeing_20 {g : zF} (hl0 : g.2.2.2.1.stackTraces = false) {Q : zR × zS → Prop}   : ∀ (n : Nat) (a0 a1 a2 a3 a4 : Int) (σ : zS), zo (f_X8_agreeing_20  n a0 a1 a2 a3 a4 σ) Q → zw g Y_X8_agreeing R_X8_agreeing 20 [(0, (4, a0)), (1, (0, a1)), (2, (0, a2)), (3, (0, a3)), (4, (0, a4))] [] σ 0 0 Q := by
  intro n
  induction n with
  | zero => intro a0 a1 a2 a3 a4 σ h; obtain ⟨r, h, -⟩ := h; cases h
  | succ n ih =>
    intro a0 a1 a2 a3 a4 σ h
    unfold f_X8_agreeing_20 at h
    refine r_iload 4 dX8_agreeing_20 rfl ?_
    refine r_aload_n 0 dX8_agreeing_22 rfl ?_
    refine r_callV (K' := Y_X8_ways) (R' := R_X8_ways) (idx := 74) (n := 0) (b := a0) (as := []) (rest := [(0, a4)]) (C' := 0) (D' := 0) (cn := 8) rfl k0_X8_ways kV_X8_ways kl_X8_74 ⟨by decide, by decide⟩ dX8_agreeing_23 rfl rfl (Nat.le_of_ble_eq_true rfl) (by decide) (by decide) rfl h (fun r hr => m_X8_ways hl0 ⟨r, hr, hr⟩) (fun x1 τ2 _ h => ?_)
    refine r_icmp_ge 88 dX8_agreeing_26 (by decide) h (fun h => ?_) (fun h => ?_)
    · refine r_iload_n 3 dX8_agreeing_88 rfl ?_
      exact r_iret rfl dX8_agreeing_89 h
    · refine r_aload_n 0 dX8_agreeing_29 rfl ?_
      refine r_iload_n 1 dX8_agreeing_30 rfl ?_
      refine r_iload 4 dX8_agreeing_31 rfl ?_
      refine r_iconst (v := 0) dX8_agreeing_33 rfl rfl ?_
      refine r_callV (K' := Y_X8_boundOf) (R' := R_X8_boundOf) (idx := 384) (n := 3) (b := a0) (as := [(0, a1), (0, a4), (0, 0)]) (rest := []) (C' := 0) (D' := 0) (cn := 8) rfl k0_X8_boundOf kV_X8_boundOf kl_X8_384 ⟨by decide, by decide⟩ dX8_agreeing_34 rfl rfl (Nat.le_of_ble_eq_true rfl) (by decide) (by decide) rfl h (fun r hr => m_X8_boundOf hl0 ⟨r, hr, hr⟩) (fun x3 τ4 _ h => ?_)
      refine r_aload_n 0 dX8_agreeing_37 rfl ?_
      refine r_iload_n 2 dX8_agreeing_38 rfl ?_
      refine r_iload 4 dX8_agreeing_39 rfl ?_
      refine r_iconst (v := 0) dX8_agreeing_41 rfl rfl ?_
      refine r_callV (K' := Y_X8_boundOf) (R' := R_X8_boundOf) (idx := 384) (n := 3) (b := a0) (as := [(0, a2), (0, a4), (0, 0)]) (rest := [(0, x3)]) (C' := 0) (D' := 0) (cn := 8) rfl k0_X8_boundOf kV_X8_boundOf kl_X8_384 ⟨by decide, by decide⟩ dX8_agreeing_42 rfl rfl (Nat.le_of_ble_eq_true rfl) (by decide) (by decide) rfl h (fun r hr => m_X8_boundOf hl0 ⟨r, hr, hr⟩) (fun x5 τ6 _ h => ?_)
      refine r_mmax mq_X8_102 ⟨by decide, Nat.le_of_ble_eq_true rfl⟩ rfl dX8_agreeing_45 ?_
      refine r_istore (L' := [(5, (0, (max x3 x5))), (0, (4, a0)), (1, (0, a1)), (2, (0, a2)), (3, (0, a3)), (4, (0, a4))]) dX8_agreeing_48 (by decide) rfl ?_
      refine r_iload_n 4 dX8_agreeing_50 rfl ?_
      refine r_iload 0 dX8_agreeing_51 rfl ?_
      refine r_aload_n 1 dX8_agreeing_53 rfl ?_
      refine r_iload_n 2 dX8_agreeing_54 rfl ?_
      refine r_iload 5 dX8_agreeing_55 rfl ?_
      refine r_iconst (v := 1) dX8_agreeing_57 rfl rfl ?_
      refine r_callV (K' := Y_X8_boundOf) (R' := R_X8_boundOf) (idx := 384) (n := 3) (b := a0) (as := [(0, a1), (0, a4), (0, 1)]) (rest := [(0, (max x3 x5)), (0, a3)]) (C' := 0) (D' := 0) (cn := 8) rfl k0_X8_boundOf kV_X8_boundOf kl_X8_384 ⟨by decide, by decide⟩ dX8_agreeing_58 rfl rfl (Nat.le_of_ble_eq_true rfl) (by decide) (by decide) rfl h (fun r hr => m_X8_boundOf hl0 ⟨r, hr, hr⟩) (fun x7 τ8 _ h => ?_)
      refine r_aload_n 1 dX8_agreeing_61 rfl ?_
      refine r_iload_n 3 dX8_agreeing_62 rfl ?_
      refine r_iload 5 dX8_agreeing_63 rfl ?_
      refine r_iconst (v := 1) dX8_agreeing_65 rfl rfl ?_
      refine r_callV (K' := Y_X8_boundOf) (R' := R_X8_boundOf) (idx := 384) (n := 3) (b := a0) (as := [(0, a2), (0, a4), (0, 1)]) (rest := [(0, x7), (0, (max x3 x5)), (0, a3)]) (C' := 0) (D' := 0) (cn := 8) rfl k0_X8_boundOf kV_X8_boundOf kl_X8_384 ⟨by decide, by decide⟩ dX8_agreeing_66 rfl rfl (Nat.le_of_ble_eq_true rfl) (by decide) (by decide) rfl h (fun r hr => m_X8_boundOf hl0 ⟨r, hr, hr⟩) (fun x9 τ10 _ h => ?_)
      refine r_mmin mq_X8_107 ⟨by decide, Nat.le_of_ble_eq_true rfl⟩ rfl dX8_agreeing_69 ?_
      refine r_icmp_gt 79 dX8_agreeing_72 (by decide) h (fun h => ?_) (fun h => ?_)
      · refine r_iconst (v := 0) dX8_agreeing_79 rfl rfl ?_
        refine r_weak (L' := [(0, (4, a0)), (1, (0, a1)), (2, (0, a2)), (4, (0, a4))]) [1, 2, 3, 5] rfl ?_
        exact t_X8_agreeing_80 hl0 (f_X8_agreeing_20  n) (fun b0 b1 b2 b3 b4 τ h => ih b0 b1 b2 b3 b4 τ h) h
      · refine r_iconst (v := 1) dX8_agreeing_75 rfl rfl ?_
        refine r_goto 80 dX8_agreeing_76 (by decide) ?_
        refine r_weak (L' := [(0, (4, a0)), (1, (0, a1)), (2, (0, a2)), (4, (0, a4))]) [1, 2, 3, 5] rfl ?_
        exact t_X8_agreeing_80 hl0 (f_X8_agreeing_20  n) (fun b0 b1 b2 b3 b4 τ h => ih b0 b1 b2 b3 b4 τ h) h

set_option maxRecDepth 100000 in
set_option maxHeartbeats 4000000 in
theorem t_X8_agreeing {g : zF} (hl0 : g.2.2.2.1.stackTraces = false) {Q : zR × zS → Prop}   {a0 a1 a2 : Int} {σ : zS} (h : zo (f_X8_agreeing  a0 a1 a2 σ) Q) : zw g Y_X8_agreeing R_X8_agreeing 0 [(0, (4, a0)), (1, (0, a1)), (2, (0, a2))] [] σ 0 0 Q := by
  unfold f_X8_agreeing at h
  refine r_aload_n 0 dX8_agreeing_0 rfl ?_
  refine r_aload_n 0 dX8_agreeing_1 rfl ?_
  refine r_iload_n 1 dX8_agreeing_2 rfl ?_
  refine r_iload_n 2 dX8_agreeing_3 rfl ?_
  refine r_callV (K' := Y_X8_areAgents) (R' := R_X8_areAgents) (idx := 363) (n := 2) (b := a0) (as := [(0, a1), (0, a2)]) (rest := [(4, a0)]) (C' := 0) (D' := 0) (cn := 8) rfl k0_X8_areAgents kV_X8_areAgents kl_X8_363 ⟨by decide, by decide⟩ dX8_agreeing_4 rfl rfl (Nat.le_of_ble_eq_true rfl) (by decide) (by decide) rfl h (fun r hr => m_X8_areAgents hl0 ⟨r, hr, hr⟩) (fun x1 τ2 _ h => ?_)
  refine r_callV (K' := Y_X8_passes) (R' := R_X8_passes) (idx := 215) (n := 1) (b := a0) (as := [(0, x1)]) (rest := []) (C' := 0) (D' := 0) (cn := 8) rfl k0_X8_passes kV_X8_passes kl_X8_215 ⟨by decide, by decide⟩ dX8_agreeing_7 rfl rfl (Nat.le_of_ble_eq_true rfl) (by decide) (by decide) rfl h (fun r hr => m_X8_passes hl0 ⟨r, hr, hr⟩) (fun x3 τ4 _ h => ?_)
  refine r_if_ne 15 dX8_agreeing_10 (by decide) h (fun h => ?_) (fun h => ?_)
  · refine r_iconst (v := 0) dX8_agreeing_15 rfl rfl ?_
    refine r_istore_n (L' := [(3, (0, 0)), (0, (4, a0)), (1, (0, a1)), (2, (0, a2))]) dX8_agreeing_16 (by decide) rfl ?_
    refine r_iconst (v := 0) dX8_agreeing_17 rfl rfl ?_
    refine r_istore (L' := [(4, (0, 0)), (3, (0, 0)), (0, (4, a0)), (1, (0, a1)), (2, (0, a2))]) dX8_agreeing_18 (by decide) rfl ?_
    refine r_weak (L' := [(0, (4, a0)), (1, (0, a1)), (2, (0, a2)), (3, (0, 0)), (4, (0, 0))]) [2, 3, 4, 1, 0] rfl ?_
    exact t_X8_agreeing_20 hl0   zFU _ _ _ _ _ _ h
  · refine r_iconst (v := 0) dX8_agreeing_13 rfl rfl ?_
    exact r_iret rfl dX8_agreeing_14 h
theorem m_X8_agreeing {g : zF} (hl0 : g.2.2.2.1.stackTraces = false) {Q : zR × zS → Prop} {a0 a1 a2 : Int} {σ : zS} (h : zo (f_X8_agreeing a0 a1 a2 σ) Q) : zm g Y_X8_agreeing R_X8_agreeing [(4, a0), (0, a1), (0, a2)] σ Q := zm_of (by decide) rfl (Nat.le_of_ble_eq_true rfl) (t_X8_agreeing hl0 h)


/- X8_common -/

set_option maxRecDepth 100000 in
set_option maxHeartbeats 4000000 in
theorem t_X8_common_114 {g : zF} (hl0 : g.2.2.2.1.stackTraces = false) {Q : zR × zS → Prop}   {a2 a3 a4 a5 : Int} {σ : zS} (h : zo (f_X8_common_114  a2 a3 a4 a5 σ) Q) : zw g Y_X8_common R_X8_common 114 [(2, (0, a2)), (3, (0, a3)), (4, (0, a4)), (5, (0, a5))] [] σ 0 0 Q := by
  unfold f_X8_common_114 at h
  refine r_iload 3 dX8_common_114 rfl ?_
  refine r_if_eq 125 dX8_common_116 (by decide) h (fun h => ?_) (fun h => ?_)
  · refine r_iconst (v := (-1)) dX8_common_125 rfl rfl ?_
    refine r_goto 139 dX8_common_126 (by decide) ?_
    exact r_iret rfl dX8_common_139 h
  · refine r_iload_n 1 dX8_common_119 rfl ?_
    refine r_iload 2 dX8_common_120 rfl ?_
    refine r_icmp_le 129 dX8_common_122 (by decide) h (fun h => ?_) (fun h => ?_)
    · refine r_iload_n 0 dX8_common_129 rfl ?_
      refine r_if_ne 137 dX8_common_130 (by decide) h (fun h => ?_) (fun h => ?_)
      · refine r_iload 2 dX8_common_137 rfl ?_
        exact r_iret rfl dX8_common_139 h
      · refine r_iload_n 1 dX8_common_133 rfl ?_
        refine r_goto 139 dX8_common_134 (by decide) ?_
        exact r_iret rfl dX8_common_139 h
    · refine r_iconst (v := (-1)) dX8_common_125 rfl rfl ?_
      refine r_goto 139 dX8_common_126 (by decide) ?_
      exact r_iret rfl dX8_common_139 h

set_option maxRecDepth 100000 in
set_option maxHeartbeats 4000000 in
theorem t_X8_common_108 {g : zF} (hl0 : g.2.2.2.1.stackTraces = false) {Q : zR × zS → Prop} (r34 : Int → Int → Int → Int → Int → Int → Int → zS → zFn) (hr34 : ∀ b0 b1 b2 b3 b4 b5 b6 τ, zo (r34 b0 b1 b2 b3 b4 b5 b6 τ) Q → zw g Y_X8_common R_X8_common 34 [(0, (4, b0)), (1, (0, b1)), (2, (0, b2)), (3, (0, b3)), (4, (0, b4)), (5, (0, b5)), (6, (0, b6))] [] τ 0 0 Q) {a0 a1 a2 a3 a4 a5 a6 : Int} {σ : zS} (h : zo (f_X8_common_108 r34 a0 a1 a2 a3 a4 a5 a6 σ) Q) : zw g Y_X8_common R_X8_common 108 [(0, (4, a0)), (1, (0, a1)), (2, (0, a2)), (3, (0, a3)), (4, (0, a4)), (5, (0, a5)), (6, (0, a6))] [] σ 0 0 Q := by
  unfold f_X8_common_108 at h
  refine r_iinc (L' := [(6, (0, (w32 (a6 + 1)))), (0, (4, a0)), (1, (0, a1)), (2, (0, a2)), (3, (0, a3)), (4, (0, a4)), (5, (0, a5))]) 6 dX8_common_108 rfl (by decide) rfl ?_
  refine r_goto 34 dX8_common_111 (by decide) ?_
  refine r_weak (L' := [(0, (4, a0)), (1, (0, a1)), (2, (0, a2)), (3, (0, a3)), (4, (0, a4)), (5, (0, a5)), (6, (0, (w32 (a6 + 1))))]) [1, 2, 3, 4, 5, 6, 0] rfl ?_
  exact hr34 _ _ _ _ _ _ _ _ h

set_option maxRecDepth 100000 in
set_option maxHeartbeats 4000000 in
theorem t_X8_common_34 {g : zF} (hl0 : g.2.2.2.1.stackTraces = false) {Q : zR × zS → Prop}   : ∀ (n : Nat) (a0 a1 a2 a3 a4 a5 a6 : Int) (σ : zS), zo (f_X8_common_34  n a0 a1 a2 a3 a4 a5 a6 σ) Q → zw g Y_X8_common R_X8_common 34 [(0, (4, a0)), (1, (0, a1)), (2, (0, a2)), (3, (0, a3)), (4, (0, a4)), (5, (0, a5)), (6, (0, a6))] [] σ 0 0 Q := by
  intro n
  induction n with
  | zero => intro a0 a1 a2 a3 a4 a5 a6 σ h; obtain ⟨r, h, -⟩ := h; cases h
  | succ n ih =>
    intro a0 a1 a2 a3 a4 a5 a6 σ h
    unfold f_X8_common_34 at h
    refine r_iload 6 dX8_common_34 rfl ?_
    refine r_aload_n 0 dX8_common_36 rfl ?_
    refine r_callV (K' := Y_X8_agents) (R' := R_X8_agents) (idx := 66) (n := 0) (b := a0) (as := []) (rest := [(0, a6)]) (C' := 0) (D' := 0) (cn := 8) rfl k0_X8_agents kV_X8_agents kl_X8_66 ⟨by decide, by decide⟩ dX8_common_37 rfl rfl (Nat.le_of_ble_eq_true rfl) (by decide) (by decide) rfl h (fun r hr => m_X8_agents hl0 ⟨r, hr, hr⟩) (fun x1 τ2 _ h => ?_)
    refine r_icmp_ge 114 dX8_common_40 (by decide) h (fun h => ?_) (fun h => ?_)
    · refine r_weak (L' := [(2, (0, a2)), (3, (0, a3)), (4, (0, a4)), (5, (0, a5))]) [2, 3, 4, 5] rfl ?_
      exact t_X8_common_114 hl0   h
    · refine r_aload_n 0 dX8_common_43 rfl ?_
      refine r_iload 6 dX8_common_44 rfl ?_
      refine r_iload_n 1 dX8_common_46 rfl ?_
      refine r_callV (K' := Y_X8_ownOf) (R' := R_X8_ownOf) (idx := 169) (n := 2) (b := a0) (as := [(0, a6), (0, a1)]) (rest := []) (C' := 0) (D' := 0) (cn := 8) rfl k0_X8_ownOf kV_X8_ownOf kl_X8_169 ⟨by decide, by decide⟩ dX8_common_47 rfl rfl (Nat.le_of_ble_eq_true rfl) (by decide) (by decide) rfl h (fun r hr => m_X8_ownOf hl0 ⟨r, hr, hr⟩) (fun x3 τ4 _ h => ?_)
      refine r_istore (L' := [(7, (0, x3)), (0, (4, a0)), (1, (0, a1)), (2, (0, a2)), (3, (0, a3)), (4, (0, a4)), (5, (0, a5)), (6, (0, a6))]) dX8_common_50 (by decide) rfl ?_
      refine r_iload 0 dX8_common_52 rfl ?_
      refine r_iconst (v := (-1)) dX8_common_54 rfl rfl ?_
      refine r_icmp_ne 61 dX8_common_55 (by decide) h (fun h => ?_) (fun h => ?_)
      · refine r_iconst (v := 1) dX8_common_61 rfl rfl ?_
        refine r_istore (L' := [(5, (0, 1)), (7, (0, x3)), (0, (4, a0)), (1, (0, a1)), (2, (0, a2)), (3, (0, a3)), (4, (0, a4)), (6, (0, a6))]) dX8_common_62 (by decide) rfl ?_
        refine r_iload_n 5 dX8_common_64 rfl ?_
        refine r_aload_n 2 dX8_common_65 rfl ?_
        refine r_iload 7 dX8_common_66 rfl ?_
        refine r_iload 1 dX8_common_68 rfl ?_
        refine r_aload_n 2 dX8_common_70 rfl ?_
        refine r_iload 7 dX8_common_71 rfl ?_
        refine r_iload 1 dX8_common_73 rfl ?_
        refine r_callV (K' := Y_X8_driftOf) (R' := R_X8_driftOf) (idx := 122) (n := 2) (b := a0) (as := [(0, a6), (0, x3)]) (rest := [(0, x3), (0, a6), (4, a0), (0, a3)]) (C' := 0) (D' := 0) (cn := 8) rfl k0_X8_driftOf kV_X8_driftOf kl_X8_122 ⟨by decide, by decide⟩ dX8_common_75 rfl rfl (Nat.le_of_ble_eq_true rfl) (by decide) (by decide) rfl h (fun r hr => m_X8_driftOf hl0 ⟨r, hr, hr⟩) (fun x5 τ6 _ h => ?_)
        refine r_callV (K' := Y_X8_lowBy) (R' := R_X8_lowBy) (idx := 125) (n := 3) (b := a0) (as := [(0, a6), (0, x3), (0, x5)]) (rest := [(0, a3)]) (C' := 0) (D' := 0) (cn := 8) rfl k0_X8_lowBy kV_X8_lowBy kl_X8_125 ⟨by decide, by decide⟩ dX8_common_78 rfl rfl (Nat.le_of_ble_eq_true rfl) (by decide) (by decide) rfl h (fun r hr => m_X8_lowBy hl0 ⟨r, hr, hr⟩) (fun x7 τ8 _ h => ?_)
        refine r_mmax mq_X8_102 ⟨by decide, Nat.le_of_ble_eq_true rfl⟩ rfl dX8_common_81 ?_
        refine r_istore_n (L' := [(3, (0, (max a3 x7))), (5, (0, 1)), (7, (0, x3)), (0, (4, a0)), (1, (0, a1)), (2, (0, a2)), (4, (0, a4)), (6, (0, a6))]) dX8_common_84 (by decide) rfl ?_
        refine r_iload 6 dX8_common_85 rfl ?_
        refine r_aload_n 3 dX8_common_87 rfl ?_
        refine r_iload 7 dX8_common_88 rfl ?_
        refine r_iload 2 dX8_common_90 rfl ?_
        refine r_aload_n 3 dX8_common_92 rfl ?_
        refine r_iload 7 dX8_common_93 rfl ?_
        refine r_iload 2 dX8_common_95 rfl ?_
        refine r_callV (K' := Y_X8_driftOf) (R' := R_X8_driftOf) (idx := 122) (n := 2) (b := a0) (as := [(0, a6), (0, x3)]) (rest := [(0, x3), (0, a6), (4, a0), (0, a4)]) (C' := 0) (D' := 0) (cn := 8) rfl k0_X8_driftOf kV_X8_driftOf kl_X8_122 ⟨by decide, by decide⟩ dX8_common_97 rfl rfl (Nat.le_of_ble_eq_true rfl) (by decide) (by decide) rfl h (fun r hr => m_X8_driftOf hl0 ⟨r, hr, hr⟩) (fun x9 τ10 _ h => ?_)
        refine r_callV (K' := Y_X8_topBy) (R' := R_X8_topBy) (idx := 128) (n := 3) (b := a0) (as := [(0, a6), (0, x3), (0, x9)]) (rest := [(0, a4)]) (C' := 0) (D' := 0) (cn := 8) rfl k0_X8_topBy kV_X8_topBy kl_X8_128 ⟨by decide, by decide⟩ dX8_common_100 rfl rfl (Nat.le_of_ble_eq_true rfl) (by decide) (by decide) rfl h (fun r hr => m_X8_topBy hl0 ⟨r, hr, hr⟩) (fun x11 τ12 _ h => ?_)
        refine r_mmin mq_X8_107 ⟨by decide, Nat.le_of_ble_eq_true rfl⟩ rfl dX8_common_103 ?_
        refine r_istore (L' := [(4, (0, (min a4 x11))), (3, (0, (max a3 x7))), (5, (0, 1)), (7, (0, x3)), (0, (4, a0)), (1, (0, a1)), (2, (0, a2)), (6, (0, a6))]) dX8_common_106 (by decide) rfl ?_
        refine r_weak (L' := [(0, (4, a0)), (1, (0, a1)), (2, (0, a2)), (3, (0, (max a3 x7))), (4, (0, (min a4 x11))), (5, (0, 1)), (6, (0, a6))]) [4, 5, 6, 1, 0, 2, 7] rfl ?_
        exact t_X8_common_108 hl0 (f_X8_common_34  n) (fun b0 b1 b2 b3 b4 b5 b6 τ h => ih b0 b1 b2 b3 b4 b5 b6 τ h) h
      · refine r_goto 108 dX8_common_58 (by decide) ?_
        refine r_weak (L' := [(0, (4, a0)), (1, (0, a1)), (2, (0, a2)), (3, (0, a3)), (4, (0, a4)), (5, (0, a5)), (6, (0, a6))]) [1, 2, 3, 4, 5, 6, 7] rfl ?_
        exact t_X8_common_108 hl0 (f_X8_common_34  n) (fun b0 b1 b2 b3 b4 b5 b6 τ h => ih b0 b1 b2 b3 b4 b5 b6 τ h) h

set_option maxRecDepth 100000 in
set_option maxHeartbeats 4000000 in
theorem t_X8_common {g : zF} (hl0 : g.2.2.2.1.stackTraces = false) {Q : zR × zS → Prop}   {a0 a1 a2 : Int} {σ : zS} (h : zo (f_X8_common  a0 a1 a2 σ) Q) : zw g Y_X8_common R_X8_common 0 [(0, (4, a0)), (1, (0, a1)), (2, (0, a2))] [] σ 0 0 Q := by
  unfold f_X8_common at h
  refine r_aload_n 0 dX8_common_0 rfl ?_
  refine r_aload_n 0 dX8_common_1 rfl ?_
  refine r_iload_n 1 dX8_common_2 rfl ?_
  refine r_callV (K' := Y_X8_isWay) (R' := R_X8_isWay) (idx := 378) (n := 1) (b := a0) (as := [(0, a1)]) (rest := [(4, a0)]) (C' := 0) (D' := 0) (cn := 8) rfl k0_X8_isWay kV_X8_isWay kl_X8_378 ⟨by decide, by decide⟩ dX8_common_3 rfl rfl (Nat.le_of_ble_eq_true rfl) (by decide) (by decide) rfl h (fun r hr => m_X8_isWay hl0 ⟨r, hr, hr⟩) (fun x1 τ2 _ h => ?_)
  refine r_iload_n 2 dX8_common_6 rfl ?_
  refine r_i2l dX8_common_7 ?_
  refine r_lconst dX8_common_8 ?_
  refine r_lconst dX8_common_9 ?_
  refine r_callS (K' := Y_X8_in) (R' := R_X8_in) (idx := 70) (n := 3) (as := [(1, a2), (1, 0), (1, 1)]) (rest := [(0, x1), (4, a0)]) (C' := 0) (D' := 0) rfl k0_X8_in wd_1562 kl_X8_70 ⟨by decide, by decide⟩ dX8_common_10 rfl rfl (Nat.le_of_ble_eq_true rfl) (by decide) (by decide) h (fun r hr => m_X8_in hl0 ⟨r, hr, hr⟩) (fun x3 τ4 _ h => ?_)
  refine r_callV (K' := Y_X8_passes2) (R' := R_X8_passes2) (idx := 368) (n := 2) (b := a0) (as := [(0, x1), (0, x3)]) (rest := []) (C' := 0) (D' := 0) (cn := 8) rfl k0_X8_passes2 kV_X8_passes2 kl_X8_368 ⟨by decide, by decide⟩ dX8_common_13 rfl rfl (Nat.le_of_ble_eq_true rfl) (by decide) (by decide) rfl h (fun r hr => m_X8_passes2 hl0 ⟨r, hr, hr⟩) (fun x5 τ6 _ h => ?_)
  refine r_if_ne 21 dX8_common_16 (by decide) h (fun h => ?_) (fun h => ?_)
  · refine r_iconst (v := 0) dX8_common_21 rfl rfl ?_
    refine r_istore_n (L' := [(3, (0, 0)), (0, (4, a0)), (1, (0, a1)), (2, (0, a2))]) dX8_common_22 (by decide) rfl ?_
    refine r_sipush (v := 999) dX8_common_23 rfl rfl ?_
    refine r_istore (L' := [(4, (0, 999)), (3, (0, 0)), (0, (4, a0)), (1, (0, a1)), (2, (0, a2))]) dX8_common_26 (by decide) rfl ?_
    refine r_iconst (v := 0) dX8_common_28 rfl rfl ?_
    refine r_istore (L' := [(5, (0, 0)), (4, (0, 999)), (3, (0, 0)), (0, (4, a0)), (1, (0, a1)), (2, (0, a2))]) dX8_common_29 (by decide) rfl ?_
    refine r_iconst (v := 0) dX8_common_31 rfl rfl ?_
    refine r_istore (L' := [(6, (0, 0)), (5, (0, 0)), (4, (0, 999)), (3, (0, 0)), (0, (4, a0)), (1, (0, a1)), (2, (0, a2))]) dX8_common_32 (by decide) rfl ?_
    refine r_weak (L' := [(0, (4, a0)), (1, (0, a1)), (2, (0, a2)), (3, (0, 0)), (4, (0, 999)), (5, (0, 0)), (6, (0, 0))]) [4, 5, 6, 3, 2, 1, 0] rfl ?_
    exact t_X8_common_34 hl0   zFU _ _ _ _ _ _ _ _ h
  · refine r_iconst (v := 0) dX8_common_19 rfl rfl ?_
    exact r_iret rfl dX8_common_20 h
theorem m_X8_common {g : zF} (hl0 : g.2.2.2.1.stackTraces = false) {Q : zR × zS → Prop} {a0 a1 a2 : Int} {σ : zS} (h : zo (f_X8_common a0 a1 a2 σ) Q) : zm g Y_X8_common R_X8_common [(4, a0), (0, a1), (0, a2)] σ Q := zm_of (by decide) rfl (Nat.le_of_ble_eq_true rfl) (t_X8_common hl0 h)


/- X8_message -/

set_option maxRecDepth 100000 in
set_option maxHeartbeats 4000000 in
theorem t_X8_message {g : zF} (hl0 : g.2.2.2.1.stackTraces = false) {Q : zR × zS → Prop}   {a0 a1 a2 : Int} {σ : zS} (h : zo (f_X8_message  a0 a1 a2 σ) Q) : zw g Y_X8_message R_X8_message 0 [(0, (4, a0)), (1, (0, a1)), (2, (0, a2))] [] σ 0 0 Q := by
  unfold f_X8_message at h
  refine r_aload_n 0 dX8_message_0 rfl ?_
  refine r_iload_n 2 dX8_message_1 rfl ?_
  refine r_i2l dX8_message_2 ?_
  refine r_lconst dX8_message_3 ?_
  refine r_ldcL (z := 5) wd_1965 (by decide +kernel) dX8_message_4 ?_
  refine r_callS (K' := Y_X8_in) (R' := R_X8_in) (idx := 70) (n := 3) (as := [(1, a2), (1, 0), (1, 5)]) (rest := [(4, a0)]) (C' := 0) (D' := 0) rfl k0_X8_in wd_1562 kl_X8_70 ⟨by decide, by decide⟩ dX8_message_7 rfl rfl (Nat.le_of_ble_eq_true rfl) (by decide) (by decide) h (fun r hr => m_X8_in hl0 ⟨r, hr, hr⟩) (fun x1 τ2 _ h => ?_)
  refine r_aload_n 0 dX8_message_10 rfl ?_
  refine r_iload_n 1 dX8_message_11 rfl ?_
  refine r_callV (K' := Y_X8_isMessage) (R' := R_X8_isMessage) (idx := 400) (n := 1) (b := a0) (as := [(0, a1)]) (rest := [(0, x1), (4, a0)]) (C' := 0) (D' := 0) (cn := 8) rfl k0_X8_isMessage kV_X8_isMessage kl_X8_400 ⟨by decide, by decide⟩ dX8_message_12 rfl rfl (Nat.le_of_ble_eq_true rfl) (by decide) (by decide) rfl h (fun r hr => m_X8_isMessage hl0 ⟨r, hr, hr⟩) (fun x3 τ4 _ h => ?_)
  refine r_callV (K' := Y_X8_passes2) (R' := R_X8_passes2) (idx := 368) (n := 2) (b := a0) (as := [(0, x1), (0, x3)]) (rest := []) (C' := 0) (D' := 0) (cn := 8) rfl k0_X8_passes2 kV_X8_passes2 kl_X8_368 ⟨by decide, by decide⟩ dX8_message_15 rfl rfl (Nat.le_of_ble_eq_true rfl) (by decide) (by decide) rfl h (fun r hr => m_X8_passes2 hl0 ⟨r, hr, hr⟩) (fun x5 τ6 _ h => ?_)
  refine r_if_ne 23 dX8_message_18 (by decide) h (fun h => ?_) (fun h => ?_)
  · refine r_iload_n 2 dX8_message_23 rfl ?_
    refine r_switch [60, 67, 75, 82, 89] 96 dX8_message_24 (by decide) (by decide) (by decide) (by decide) h (fun h => ?_) ⟨fun h => ?_, fun h => ?_, fun h => ?_, fun h => ?_, fun h => ?_, trivial⟩
    · refine r_aload_n 0 dX8_message_96 rfl ?_
      refine r_iload_n 1 dX8_message_97 rfl ?_
      refine r_callV (K' := Y_X8_refusalOf) (R' := R_X8_refusalOf) (idx := 166) (n := 1) (b := a0) (as := [(0, a1)]) (rest := []) (C' := 0) (D' := 0) (cn := 8) rfl k0_X8_refusalOf kV_X8_refusalOf kl_X8_166 ⟨by decide, by decide⟩ dX8_message_98 rfl rfl (Nat.le_of_ble_eq_true rfl) (by decide) (by decide) rfl h (fun r hr => m_X8_refusalOf hl0 ⟨r, hr, hr⟩) (fun x7 τ8 _ h => ?_)
      exact r_iret rfl dX8_message_101 h
    · refine r_aload_n 0 dX8_message_60 rfl ?_
      refine r_iload_n 1 dX8_message_61 rfl ?_
      refine r_iconst (v := 1) dX8_message_62 rfl rfl ?_
      refine r_callV (K' := Y_X8_ofMessage) (R' := R_X8_ofMessage) (idx := 163) (n := 2) (b := a0) (as := [(0, a1), (0, 1)]) (rest := []) (C' := 0) (D' := 0) (cn := 8) rfl k0_X8_ofMessage kV_X8_ofMessage kl_X8_163 ⟨by decide, by decide⟩ dX8_message_63 rfl rfl (Nat.le_of_ble_eq_true rfl) (by decide) (by decide) rfl h (fun r hr => m_X8_ofMessage hl0 ⟨r, hr, hr⟩) (fun x9 τ10 _ h => ?_)
      exact r_iret rfl dX8_message_66 h
    · refine r_aload_n 0 dX8_message_67 rfl ?_
      refine r_iload_n 1 dX8_message_68 rfl ?_
      refine r_bipush (v := 7) dX8_message_69 rfl rfl ?_
      refine r_callV (K' := Y_X8_ofMessage) (R' := R_X8_ofMessage) (idx := 163) (n := 2) (b := a0) (as := [(0, a1), (0, 7)]) (rest := []) (C' := 0) (D' := 0) (cn := 8) rfl k0_X8_ofMessage kV_X8_ofMessage kl_X8_163 ⟨by decide, by decide⟩ dX8_message_71 rfl rfl (Nat.le_of_ble_eq_true rfl) (by decide) (by decide) rfl h (fun r hr => m_X8_ofMessage hl0 ⟨r, hr, hr⟩) (fun x11 τ12 _ h => ?_)
      exact r_iret rfl dX8_message_74 h
    · refine r_aload_n 0 dX8_message_75 rfl ?_
      refine r_iload_n 1 dX8_message_76 rfl ?_
      refine r_iconst (v := 0) dX8_message_77 rfl rfl ?_
      refine r_callV (K' := Y_X8_ofMessage) (R' := R_X8_ofMessage) (idx := 163) (n := 2) (b := a0) (as := [(0, a1), (0, 0)]) (rest := []) (C' := 0) (D' := 0) (cn := 8) rfl k0_X8_ofMessage kV_X8_ofMessage kl_X8_163 ⟨by decide, by decide⟩ dX8_message_78 rfl rfl (Nat.le_of_ble_eq_true rfl) (by decide) (by decide) rfl h (fun r hr => m_X8_ofMessage hl0 ⟨r, hr, hr⟩) (fun x13 τ14 _ h => ?_)
      exact r_iret rfl dX8_message_81 h
    · refine r_aload_n 0 dX8_message_82 rfl ?_
      refine r_iload_n 1 dX8_message_83 rfl ?_
      refine r_iconst (v := 2) dX8_message_84 rfl rfl ?_
      refine r_callV (K' := Y_X8_ofMessage) (R' := R_X8_ofMessage) (idx := 163) (n := 2) (b := a0) (as := [(0, a1), (0, 2)]) (rest := []) (C' := 0) (D' := 0) (cn := 8) rfl k0_X8_ofMessage kV_X8_ofMessage kl_X8_163 ⟨by decide, by decide⟩ dX8_message_85 rfl rfl (Nat.le_of_ble_eq_true rfl) (by decide) (by decide) rfl h (fun r hr => m_X8_ofMessage hl0 ⟨r, hr, hr⟩) (fun x15 τ16 _ h => ?_)
      exact r_iret rfl dX8_message_88 h
    · refine r_aload_n 0 dX8_message_89 rfl ?_
      refine r_iload_n 1 dX8_message_90 rfl ?_
      refine r_iconst (v := 3) dX8_message_91 rfl rfl ?_
      refine r_callV (K' := Y_X8_ofMessage) (R' := R_X8_ofMessage) (idx := 163) (n := 2) (b := a0) (as := [(0, a1), (0, 3)]) (rest := []) (C' := 0) (D' := 0) (cn := 8) rfl k0_X8_ofMessage kV_X8_ofMessage kl_X8_163 ⟨by decide, by decide⟩ dX8_message_92 rfl rfl (Nat.le_of_ble_eq_true rfl) (by decide) (by decide) rfl h (fun r hr => m_X8_ofMessage hl0 ⟨r, hr, hr⟩) (fun x17 τ18 _ h => ?_)
      exact r_iret rfl dX8_message_95 h
  · refine r_iconst (v := 0) dX8_message_21 rfl rfl ?_
    exact r_iret rfl dX8_message_22 h
theorem m_X8_message {g : zF} (hl0 : g.2.2.2.1.stackTraces = false) {Q : zR × zS → Prop} {a0 a1 a2 : Int} {σ : zS} (h : zo (f_X8_message a0 a1 a2 σ) Q) : zm g Y_X8_message R_X8_message [(4, a0), (0, a1), (0, a2)] σ Q := zm_of (by decide) rfl (Nat.le_of_ble_eq_true rfl) (t_X8_message hl0 h)


/- X8_holding -/

set_option maxRecDepth 100000 in
set_option maxHeartbeats 4000000 in
theorem t_X8_holding_139 {g : zF} (hl0 : g.2.2.2.1.stackTraces = false) {Q : zR × zS → Prop} (r17 : Int → Int → Int → Int → Int → zS → zFn) (hr17 : ∀ b0 b1 b2 b3 b4 τ, zo (r17 b0 b1 b2 b3 b4 τ) Q → zw g Y_X8_holding R_X8_holding 17 [(0, (4, b0)), (1, (0, b1)), (2, (0, b2)), (3, (0, b3)), (4, (0, b4))] [] τ 0 0 Q) {a0 a1 a2 a3 a4 : Int} {σ : zS} (h : zo (f_X8_holding_139 r17 a0 a1 a2 a3 a4 σ) Q) : zw g Y_X8_holding R_X8_holding 139 [(0, (4, a0)), (1, (0, a1)), (2, (0, a2)), (3, (0, a3)), (4, (0, a4))] [] σ 0 0 Q := by
  unfold f_X8_holding_139 at h
  refine r_iinc (L' := [(4, (0, (w32 (a4 + 1)))), (0, (4, a0)), (1, (0, a1)), (2, (0, a2)), (3, (0, a3))]) 4 dX8_holding_139 rfl (by decide) rfl ?_
  refine r_goto 17 dX8_holding_142 (by decide) ?_
  refine r_weak (L' := [(0, (4, a0)), (1, (0, a1)), (2, (0, a2)), (3, (0, a3)), (4, (0, (w32 (a4 + 1))))]) [1, 2, 3, 4, 0] rfl ?_
  exact hr17 _ _ _ _ _ _ h

set_option maxRecDepth 100000 in
set_option maxHeartbeats 4000000 in
theorem t_X8_holding_17 {g : zF} (hl0 : g.2.2.2.1.stackTraces = false) {Q : zR × zS → Prop}   : ∀ (n : Nat) (a0 a1 a2 a3 a4 : Int) (σ : zS), zo (f_X8_holding_17  n a0 a1 a2 a3 a4 σ) Q → zw g Y_X8_holding R_X8_holding 17 [(0, (4, a0)), (1, (0, a1)), (2, (0, a2)), (3, (0, a3)), (4, (0, a4))] [] σ 0 0 Q := by
  intro n
  induction n with
  | zero => intro a0 a1 a2 a3 a4 σ h; obtain ⟨r, h, -⟩ := h; cases h
  | succ n ih =>
    intro a0 a1 a2 a3 a4 σ h
    unfold f_X8_holding_17 at h
    refine r_iload 4 dX8_holding_17 rfl ?_
    refine r_aload_n 0 dX8_holding_19 rfl ?_
    refine r_iload_n 1 dX8_holding_20 rfl ?_
    refine r_callV (K' := Y_X8_manyOf) (R' := R_X8_manyOf) (idx := 92) (n := 1) (b := a0) (as := [(0, a1)]) (rest := [(0, a4)]) (C' := 0) (D' := 0) (cn := 8) rfl k0_X8_manyOf kV_X8_manyOf kl_X8_92 ⟨by decide, by decide⟩ dX8_holding_21 rfl rfl (Nat.le_of_ble_eq_true rfl) (by decide) (by decide) rfl h (fun r hr => m_X8_manyOf hl0 ⟨r, hr, hr⟩) (fun x1 τ2 _ h => ?_)
    refine r_icmp_ge 145 dX8_holding_24 (by decide) h (fun h => ?_) (fun h => ?_)
    · refine r_iload_n 3 dX8_holding_145 rfl ?_
      exact r_iret rfl dX8_holding_146 h
    · refine r_aload_n 0 dX8_holding_27 rfl ?_
      refine r_getr fd_X8_30 rfl dX8_holding_28 h (fun x3 h => ?_)
      refine r_iload 4 dX8_holding_31 rfl ?_
      refine r_iald dX8_holding_33 h (fun x4 h => ?_)
      refine r_iconst (v := (-1)) dX8_holding_34 rfl rfl ?_
      refine r_icmp_eq 139 dX8_holding_35 (by decide) h (fun h => ?_) (fun h => ?_)
      · exact t_X8_holding_139 hl0 (f_X8_holding_17  n) (fun b0 b1 b2 b3 b4 τ h => ih b0 b1 b2 b3 b4 τ h) h
      · refine r_aload_n 0 dX8_holding_38 rfl ?_
        refine r_iload_n 1 dX8_holding_39 rfl ?_
        refine r_iload 4 dX8_holding_40 rfl ?_
        refine r_callV (K' := Y_X8_isOut) (R' := R_X8_isOut) (idx := 194) (n := 2) (b := a0) (as := [(0, a1), (0, a4)]) (rest := []) (C' := 0) (D' := 0) (cn := 8) rfl k0_X8_isOut kV_X8_isOut kl_X8_194 ⟨by decide, by decide⟩ dX8_holding_42 rfl rfl (Nat.le_of_ble_eq_true rfl) (by decide) (by decide) rfl h (fun r hr => m_X8_isOut hl0 ⟨r, hr, hr⟩) (fun x5 τ6 _ h => ?_)
        refine r_if_eq 51 dX8_holding_45 (by decide) h (fun h => ?_) (fun h => ?_)
        · refine r_aload_n 0 dX8_holding_51 rfl ?_
          refine r_iload_n 1 dX8_holding_52 rfl ?_
          refine r_iload 4 dX8_holding_53 rfl ?_
          refine r_aload_n 0 dX8_holding_55 rfl ?_
          refine r_iload_n 1 dX8_holding_56 rfl ?_
          refine r_iload 4 dX8_holding_57 rfl ?_
          refine r_callV (K' := Y_X8_movedBy) (R' := R_X8_movedBy) (idx := 200) (n := 2) (b := a0) (as := [(0, a1), (0, a4)]) (rest := [(0, a4), (0, a1), (4, a0)]) (C' := 0) (D' := 0) (cn := 8) rfl k0_X8_movedBy kV_X8_movedBy kl_X8_200 ⟨by decide, by decide⟩ dX8_holding_59 rfl rfl (Nat.le_of_ble_eq_true rfl) (by decide) (by decide) rfl h (fun r hr => m_X8_movedBy hl0 ⟨r, hr, hr⟩) (fun x7 τ8 _ h => ?_)
          refine r_callV (K' := Y_X8_lowBy) (R' := R_X8_lowBy) (idx := 125) (n := 3) (b := a0) (as := [(0, a1), (0, a4), (0, x7)]) (rest := []) (C' := 0) (D' := 0) (cn := 8) rfl k0_X8_lowBy kV_X8_lowBy kl_X8_125 ⟨by decide, by decide⟩ dX8_holding_62 rfl rfl (Nat.le_of_ble_eq_true rfl) (by decide) (by decide) rfl h (fun r hr => m_X8_lowBy hl0 ⟨r, hr, hr⟩) (fun x9 τ10 _ h => ?_)
          refine r_istore (L' := [(5, (0, x9)), (0, (4, a0)), (1, (0, a1)), (2, (0, a2)), (3, (0, a3)), (4, (0, a4))]) dX8_holding_65 (by decide) rfl ?_
          refine r_aload_n 1 dX8_holding_67 rfl ?_
          refine r_iload_n 2 dX8_holding_68 rfl ?_
          refine r_iload 5 dX8_holding_69 rfl ?_
          refine r_aload_n 1 dX8_holding_71 rfl ?_
          refine r_iload_n 2 dX8_holding_72 rfl ?_
          refine r_iload 5 dX8_holding_73 rfl ?_
          refine r_callV (K' := Y_X8_movedBy) (R' := R_X8_movedBy) (idx := 200) (n := 2) (b := a0) (as := [(0, a1), (0, a4)]) (rest := [(0, a4), (0, a1), (4, a0)]) (C' := 0) (D' := 0) (cn := 8) rfl k0_X8_movedBy kV_X8_movedBy kl_X8_200 ⟨by decide, by decide⟩ dX8_holding_75 rfl rfl (Nat.le_of_ble_eq_true rfl) (by decide) (by decide) rfl h (fun r hr => m_X8_movedBy hl0 ⟨r, hr, hr⟩) (fun x11 τ12 _ h => ?_)
          refine r_callV (K' := Y_X8_topBy) (R' := R_X8_topBy) (idx := 128) (n := 3) (b := a0) (as := [(0, a1), (0, a4), (0, x11)]) (rest := []) (C' := 0) (D' := 0) (cn := 8) rfl k0_X8_topBy kV_X8_topBy kl_X8_128 ⟨by decide, by decide⟩ dX8_holding_78 rfl rfl (Nat.le_of_ble_eq_true rfl) (by decide) (by decide) rfl h (fun r hr => m_X8_topBy hl0 ⟨r, hr, hr⟩) (fun x13 τ14 _ h => ?_)
          refine r_istore (L' := [(6, (0, x13)), (5, (0, x9)), (0, (4, a0)), (1, (0, a1)), (2, (0, a2)), (3, (0, a3)), (4, (0, a4))]) dX8_holding_81 (by decide) rfl ?_
          refine r_iload_n 4 dX8_holding_83 rfl ?_
          refine r_i2l dX8_holding_84 ?_
          refine r_iload 1 dX8_holding_85 rfl ?_
          refine r_i2l dX8_holding_87 ?_
          refine r_iload 0 dX8_holding_88 rfl ?_
          refine r_i2l dX8_holding_90 ?_
          refine r_callS (K' := Y_X8_in) (R' := R_X8_in) (idx := 70) (n := 3) (as := [(1, a2), (1, x9), (1, x13)]) (rest := []) (C' := 0) (D' := 0) rfl k0_X8_in wd_1562 kl_X8_70 ⟨by decide, by decide⟩ dX8_holding_91 rfl rfl (Nat.le_of_ble_eq_true rfl) (by decide) (by decide) h (fun r hr => m_X8_in hl0 ⟨r, hr, hr⟩) (fun x15 τ16 _ h => ?_)
          refine r_if_ne 100 dX8_holding_94 (by decide) h (fun h => ?_) (fun h => ?_)
          · refine r_iload_n 5 dX8_holding_100 rfl ?_
            refine r_iconst (v := 1) dX8_holding_101 rfl rfl ?_
            refine r_aload_n 2 dX8_holding_102 rfl ?_
            refine r_iload_n 3 dX8_holding_103 rfl ?_
            refine r_iload 6 dX8_holding_104 rfl ?_
            refine r_iconst (v := 0) dX8_holding_106 rfl rfl ?_
            refine r_callV (K' := Y_X8_ofReport) (R' := R_X8_ofReport) (idx := 95) (n := 3) (b := a0) (as := [(0, a1), (0, a4), (0, 0)]) (rest := [(0, 1), (0, a3)]) (C' := 0) (D' := 0) (cn := 8) rfl k0_X8_ofReport kV_X8_ofReport kl_X8_95 ⟨by decide, by decide⟩ dX8_holding_107 rfl rfl (Nat.le_of_ble_eq_true rfl) (by decide) (by decide) rfl h (fun r hr => m_X8_ofReport hl0 ⟨r, hr, hr⟩) (fun x17 τ18 _ h => ?_)
            refine r_ishl dX8_holding_110 ?_
            refine r_ior dX8_holding_111 ?_
            refine r_istore_n (L' := [(3, (0, (zor a3 (zshl 1 x17)))), (6, (0, x13)), (5, (0, x9)), (0, (4, a0)), (1, (0, a1)), (2, (0, a2)), (4, (0, a4))]) dX8_holding_112 (by decide) rfl ?_
            refine r_aload_n 3 dX8_holding_113 rfl ?_
            refine r_aload_n 3 dX8_holding_114 rfl ?_
            refine r_getf fd_X8_403 rfl dX8_holding_115 h (fun x19 h => ?_)
            refine r_iload 2 dX8_holding_118 rfl ?_
            refine r_mmax mq_X8_102 ⟨by decide, Nat.le_of_ble_eq_true rfl⟩ rfl dX8_holding_120 ?_
            refine r_putf fd_X8_403 fp_X8_holding_403 dX8_holding_123 h (fun τ20 h => ?_)
            refine r_aload_n 3 dX8_holding_126 rfl ?_
            refine r_aload_n 3 dX8_holding_127 rfl ?_
            refine r_getf fd_X8_406 rfl dX8_holding_128 h (fun x21 h => ?_)
            refine r_iload 1 dX8_holding_131 rfl ?_
            refine r_mmin mq_X8_107 ⟨by decide, Nat.le_of_ble_eq_true rfl⟩ rfl dX8_holding_133 ?_
            refine r_putf fd_X8_406 fp_X8_holding_406 dX8_holding_136 h (fun τ22 h => ?_)
            refine r_weak (L' := [(0, (4, a0)), (1, (0, a1)), (2, (0, a2)), (3, (0, (zor a3 (zshl 1 x17)))), (4, (0, a4))]) [3, 4, 5, 0, 6] rfl ?_
            exact t_X8_holding_139 hl0 (f_X8_holding_17  n) (fun b0 b1 b2 b3 b4 τ h => ih b0 b1 b2 b3 b4 τ h) h
          · refine r_goto 139 dX8_holding_97 (by decide) ?_
            refine r_weak (L' := [(0, (4, a0)), (1, (0, a1)), (2, (0, a2)), (3, (0, a3)), (4, (0, a4))]) [2, 3, 4, 5, 6] rfl ?_
            exact t_X8_holding_139 hl0 (f_X8_holding_17  n) (fun b0 b1 b2 b3 b4 τ h => ih b0 b1 b2 b3 b4 τ h) h
        · refine r_goto 139 dX8_holding_48 (by decide) ?_
          exact t_X8_holding_139 hl0 (f_X8_holding_17  n) (fun b0 b1 b2 b3 b4 τ h => ih b0 b1 b2 b3 b4 τ h) h

set_option maxRecDepth 100000 in
set_option maxHeartbeats 4000000 in
theorem t_X8_holding {g : zF} (hl0 : g.2.2.2.1.stackTraces = false) {Q : zR × zS → Prop}   {a0 a1 a2 : Int} {σ : zS} (h : zo (f_X8_holding  a0 a1 a2 σ) Q) : zw g Y_X8_holding R_X8_holding 0 [(0, (4, a0)), (1, (0, a1)), (2, (0, a2))] [] σ 0 0 Q := by
  unfold f_X8_holding at h
  refine r_iconst (v := 0) dX8_holding_0 rfl rfl ?_
  refine r_istore_n (L' := [(3, (0, 0)), (0, (4, a0)), (1, (0, a1)), (2, (0, a2))]) dX8_holding_1 (by decide) rfl ?_
  refine r_aload_n 1 dX8_holding_2 rfl ?_
  refine r_iconst (v := 0) dX8_holding_3 rfl rfl ?_
  refine r_putf fd_X8_403 fp_X8_holding_403 dX8_holding_4 h (fun τ1 h => ?_)
  refine r_aload_n 1 dX8_holding_7 rfl ?_
  refine r_sipush (v := 999) dX8_holding_8 rfl rfl ?_
  refine r_putf fd_X8_406 fp_X8_holding_406 dX8_holding_11 h (fun τ2 h => ?_)
  refine r_iconst (v := 0) dX8_holding_14 rfl rfl ?_
  refine r_istore (L' := [(4, (0, 0)), (3, (0, 0)), (0, (4, a0)), (1, (0, a1)), (2, (0, a2))]) dX8_holding_15 (by decide) rfl ?_
  refine r_weak (L' := [(0, (4, a0)), (1, (0, a1)), (2, (0, a2)), (3, (0, 0)), (4, (0, 0))]) [2, 3, 4, 1, 0] rfl ?_
  exact t_X8_holding_17 hl0   zFU _ _ _ _ _ _ h
theorem m_X8_holding {g : zF} (hl0 : g.2.2.2.1.stackTraces = false) {Q : zR × zS → Prop} {a0 a1 a2 : Int} {σ : zS} (h : zo (f_X8_holding a0 a1 a2 σ) Q) : zm g Y_X8_holding R_X8_holding [(4, a0), (0, a1), (0, a2)] σ Q := zm_of (by decide) rfl (Nat.le_of_ble_eq_true rfl) (t_X8_holding hl0 h)


/- X8_agreed -/

set_option maxRecDepth 100000 in
set_option maxHeartbeats 4000000 in
theorem t_X8_agreed_81 {g : zF} (hl0 : g.2.2.2.1.stackTraces = false) {Q : zR × zS → Prop} (r14 : Int → Int → Int → Int → Int → zS → zFn) (hr14 : ∀ b0 b1 b3 b4 b5 τ, zo (r14 b0 b1 b3 b4 b5 τ) Q → zw g Y_X8_agreed R_X8_agreed 14 [(0, (4, b0)), (1, (0, b1)), (3, (0, b3)), (4, (0, b4)), (5, (0, b5))] [] τ 0 0 Q) {a0 a1 a3 a4 a5 : Int} {σ : zS} (h : zo (f_X8_agreed_81 r14 a0 a1 a3 a4 a5 σ) Q) : zw g Y_X8_agreed R_X8_agreed 81 [(0, (4, a0)), (1, (0, a1)), (3, (0, a3)), (4, (0, a4)), (5, (0, a5))] [] σ 0 0 Q := by
  unfold f_X8_agreed_81 at h
  refine r_iinc (L' := [(5, (0, (w32 (a5 + 1)))), (0, (4, a0)), (1, (0, a1)), (3, (0, a3)), (4, (0, a4))]) 4 dX8_agreed_81 rfl (by decide) rfl ?_
  refine r_goto 14 dX8_agreed_84 (by decide) ?_
  refine r_weak (L' := [(0, (4, a0)), (1, (0, a1)), (3, (0, a3)), (4, (0, a4)), (5, (0, (w32 (a5 + 1))))]) [1, 2, 3, 4, 0] rfl ?_
  exact hr14 _ _ _ _ _ _ h

set_option maxRecDepth 100000 in
set_option maxHeartbeats 4000000 in
theorem t_X8_agreed_74 {g : zF} (hl0 : g.2.2.2.1.stackTraces = false) {Q : zR × zS → Prop} (r14 : Int → Int → Int → Int → Int → zS → zFn) (hr14 : ∀ b0 b1 b3 b4 b5 τ, zo (r14 b0 b1 b3 b4 b5 τ) Q → zw g Y_X8_agreed R_X8_agreed 14 [(0, (4, b0)), (1, (0, b1)), (3, (0, b3)), (4, (0, b4)), (5, (0, b5))] [] τ 0 0 Q) {a0 a1 a5 a6 : Int} {σ : zS} (h : zo (f_X8_agreed_74 r14 a0 a1 a5 a6 σ) Q) : zw g Y_X8_agreed R_X8_agreed 74 [(0, (4, a0)), (1, (0, a1)), (5, (0, a5)), (6, (0, a6))] [] σ 0 0 Q := by
  unfold f_X8_agreed_74 at h
  refine r_iload 2 dX8_agreed_74 rfl ?_
  refine r_istore_n (L' := [(3, (0, a5)), (0, (4, a0)), (1, (0, a1)), (5, (0, a5)), (6, (0, a6))]) dX8_agreed_76 (by decide) rfl ?_
  refine r_iload 4 dX8_agreed_77 rfl ?_
  refine r_istore (L' := [(4, (0, a6)), (3, (0, a5)), (0, (4, a0)), (1, (0, a1)), (5, (0, a5)), (6, (0, a6))]) dX8_agreed_79 (by decide) rfl ?_
  refine r_weak (L' := [(0, (4, a0)), (1, (0, a1)), (3, (0, a5)), (4, (0, a6)), (5, (0, a5))]) [2, 3, 1, 0, 4] rfl ?_
  exact t_X8_agreed_81 hl0 r14 hr14 h

set_option maxRecDepth 100000 in
set_option maxHeartbeats 4000000 in
theorem t_X8_agreed_14 {g : zF} (hl0 : g.2.2.2.1.stackTraces = false) {Q : zR × zS → Prop}   : ∀ (n : Nat) (a0 a1 a3 a4 a5 : Int) (σ : zS), zo (f_X8_agreed_14  n a0 a1 a3 a4 a5 σ) Q → zw g Y_X8_agreed R_X8_agreed 14 [(0, (4, a0)), (1, (0, a1)), (3, (0, a3)), (4, (0, a4)), (5, (0, a5))] [] σ 0 0 Q := by
  intro n
  induction n with
  | zero => intro a0 a1 a3 a4 a5 σ h; obtain ⟨r, h, -⟩ := h; cases h
  | succ n ih =>
    intro a0 a1 a3 a4 a5 σ h
    unfold f_X8_agreed_14 at h
    refine r_iload 4 dX8_agreed_14 rfl ?_
    refine r_sipush (v := 999) dX8_agreed_16 rfl rfl ?_
    refine r_icmp_gt 87 dX8_agreed_19 (by decide) h (fun h => ?_) (fun h => ?_)
    · refine r_iload_n 2 dX8_agreed_87 rfl ?_
      exact r_iret rfl dX8_agreed_88 h
    · refine r_aload_n 0 dX8_agreed_22 rfl ?_
      refine r_iload_n 1 dX8_agreed_23 rfl ?_
      refine r_iload 4 dX8_agreed_24 rfl ?_
      refine r_callV (K' := Y_X8_holding) (R' := R_X8_holding) (idx := 409) (n := 2) (b := a0) (as := [(0, a1), (0, a5)]) (rest := []) (C' := 0) (D' := 0) (cn := 8) rfl k0_X8_holding kV_X8_holding kl_X8_409 ⟨by decide, by decide⟩ dX8_agreed_26 rfl rfl (Nat.le_of_ble_eq_true rfl) (by decide) (by decide) rfl h (fun r hr => m_X8_holding hl0 ⟨r, hr, hr⟩) (fun x1 τ2 _ h => ?_)
      refine r_istore (L' := [(6, (0, x1)), (0, (4, a0)), (1, (0, a1)), (3, (0, a3)), (4, (0, a4)), (5, (0, a5))]) dX8_agreed_29 (by decide) rfl ?_
      refine r_iload 0 dX8_agreed_31 rfl ?_
      refine r_callS (K' := Y_X8_bits) (R' := R_X8_bits) (idx := 355) (n := 1) (as := [(0, x1)]) (rest := []) (C' := 0) (D' := 0) rfl k0_X8_bits wd_1793 kl_X8_355 ⟨by decide, by decide⟩ dX8_agreed_33 rfl rfl (Nat.le_of_ble_eq_true rfl) (by decide) (by decide) h (fun r hr => m_X8_bits hl0 ⟨r, hr, hr⟩) (fun x3 τ4 _ h => ?_)
      refine r_iload 4 dX8_agreed_36 rfl ?_
      refine r_callS (K' := Y_X8_bits) (R' := R_X8_bits) (idx := 355) (n := 1) (as := [(0, a4)]) (rest := [(0, x3)]) (C' := 0) (D' := 0) rfl k0_X8_bits wd_1793 kl_X8_355 ⟨by decide, by decide⟩ dX8_agreed_38 rfl rfl (Nat.le_of_ble_eq_true rfl) (by decide) (by decide) h (fun r hr => m_X8_bits hl0 ⟨r, hr, hr⟩) (fun x5 τ6 _ h => ?_)
      refine r_isub dX8_agreed_41 ?_
      refine r_istore (L' := [(7, (0, (w32 (x3 - x5)))), (6, (0, x1)), (0, (4, a0)), (1, (0, a1)), (3, (0, a3)), (4, (0, a4)), (5, (0, a5))]) dX8_agreed_42 (by decide) rfl ?_
      refine r_iload 1 dX8_agreed_44 rfl ?_
      refine r_if_eq 81 dX8_agreed_46 (by decide) h (fun h => ?_) (fun h => ?_)
      · refine r_weak (L' := [(0, (4, a0)), (1, (0, a1)), (3, (0, a3)), (4, (0, a4)), (5, (0, a5))]) [2, 3, 4, 5, 6] rfl ?_
        exact t_X8_agreed_81 hl0 (f_X8_agreed_14  n) (fun b0 b1 b3 b4 b5 τ h => ih b0 b1 b3 b4 b5 τ h) h
      · refine r_iload_n 4 dX8_agreed_49 rfl ?_
        refine r_iconst (v := (-1)) dX8_agreed_50 rfl rfl ?_
        refine r_icmp_eq 74 dX8_agreed_51 (by decide) h (fun h => ?_) (fun h => ?_)
        · refine r_weak (L' := [(0, (4, a0)), (1, (0, a1)), (5, (0, a5)), (6, (0, x1))]) [2, 3, 6, 1] rfl ?_
          exact t_X8_agreed_74 hl0 (f_X8_agreed_14  n) (fun b0 b1 b3 b4 b5 τ h => ih b0 b1 b3 b4 b5 τ h) h
        · refine r_iload 0 dX8_agreed_54 rfl ?_
          refine r_if_lt 81 dX8_agreed_56 (by decide) h (fun h => ?_) (fun h => ?_)
          · refine r_weak (L' := [(0, (4, a0)), (1, (0, a1)), (3, (0, a3)), (4, (0, a4)), (5, (0, a5))]) [2, 3, 4, 5, 6] rfl ?_
            exact t_X8_agreed_81 hl0 (f_X8_agreed_14  n) (fun b0 b1 b3 b4 b5 τ h => ih b0 b1 b3 b4 b5 τ h) h
          · refine r_iload 0 dX8_agreed_59 rfl ?_
            refine r_if_ne 74 dX8_agreed_61 (by decide) h (fun h => ?_) (fun h => ?_)
            · refine r_weak (L' := [(0, (4, a0)), (1, (0, a1)), (5, (0, a5)), (6, (0, x1))]) [2, 3, 6, 1] rfl ?_
              exact t_X8_agreed_74 hl0 (f_X8_agreed_14  n) (fun b0 b1 b3 b4 b5 τ h => ih b0 b1 b3 b4 b5 τ h) h
            · refine r_iload 1 dX8_agreed_64 rfl ?_
              refine r_iload 5 dX8_agreed_66 rfl ?_
              refine r_icmp_lt 74 dX8_agreed_68 (by decide) h (fun h => ?_) (fun h => ?_)
              · refine r_weak (L' := [(0, (4, a0)), (1, (0, a1)), (5, (0, a5)), (6, (0, x1))]) [2, 3, 6, 1] rfl ?_
                exact t_X8_agreed_74 hl0 (f_X8_agreed_14  n) (fun b0 b1 b3 b4 b5 τ h => ih b0 b1 b3 b4 b5 τ h) h
              · refine r_goto 81 dX8_agreed_71 (by decide) ?_
                refine r_weak (L' := [(0, (4, a0)), (1, (0, a1)), (3, (0, a3)), (4, (0, a4)), (5, (0, a5))]) [2, 3, 4, 5, 6] rfl ?_
                exact t_X8_agreed_81 hl0 (f_X8_agreed_14  n) (fun b0 b1 b3 b4 b5 τ h => ih b0 b1 b3 b4 b5 τ h) h

set_option maxRecDepth 100000 in
set_option maxHeartbeats 4000000 in
theorem t_X8_agreed {g : zF} (hl0 : g.2.2.2.1.stackTraces = false) {Q : zR × zS → Prop}   {a0 a1 a2 : Int} {σ : zS} (h : zo (f_X8_agreed  a0 a1 a2 σ) Q) : zw g Y_X8_agreed R_X8_agreed 0 [(0, (4, a0)), (1, (0, a1)), (2, (0, a2))] [] σ 0 0 Q := by
  unfold f_X8_agreed at h
  refine r_aload_n 0 dX8_agreed_0 rfl ?_
  refine r_iload_n 1 dX8_agreed_1 rfl ?_
  refine r_iload_n 2 dX8_agreed_2 rfl ?_
  refine r_callV (K' := Y_X8_layBelief) (R' := R_X8_layBelief) (idx := 203) (n := 2) (b := a0) (as := [(0, a1), (0, a2)]) (rest := []) (C' := 0) (D' := 0) (cn := 8) rfl k0_X8_layBelief kV_X8_layBelief kl_X8_203 ⟨by decide, by decide⟩ dX8_agreed_3 rfl rfl (Nat.le_of_ble_eq_true rfl) (by decide) (by decide) rfl h (fun r hr => m_X8_layBelief hl0 ⟨r, hr, hr⟩) (fun _ τ2 _ h => ?_)
  refine r_iconst (v := (-1)) dX8_agreed_6 rfl rfl ?_
  refine r_istore_n (L' := [(3, (0, (-1))), (0, (4, a0)), (1, (0, a1)), (2, (0, a2))]) dX8_agreed_7 (by decide) rfl ?_
  refine r_iconst (v := 0) dX8_agreed_8 rfl rfl ?_
  refine r_istore (L' := [(4, (0, 0)), (3, (0, (-1))), (0, (4, a0)), (1, (0, a1)), (2, (0, a2))]) dX8_agreed_9 (by decide) rfl ?_
  refine r_iconst (v := 0) dX8_agreed_11 rfl rfl ?_
  refine r_istore (L' := [(5, (0, 0)), (4, (0, 0)), (3, (0, (-1))), (0, (4, a0)), (1, (0, a1)), (2, (0, a2))]) dX8_agreed_12 (by decide) rfl ?_
  refine r_weak (L' := [(0, (4, a0)), (1, (0, a1)), (3, (0, (-1))), (4, (0, 0)), (5, (0, 0))]) [3, 4, 2, 1, 0] rfl ?_
  exact t_X8_agreed_14 hl0   zFU _ _ _ _ _ _ h
theorem m_X8_agreed {g : zF} (hl0 : g.2.2.2.1.stackTraces = false) {Q : zR × zS → Prop} {a0 a1 a2 : Int} {σ : zS} (h : zo (f_X8_agreed a0 a1 a2 σ) Q) : zm g Y_X8_agreed R_X8_agreed [(4, a0), (0, a1), (0, a2)] σ Q := zm_of (by decide) rfl (Nat.le_of_ble_eq_true rfl) (t_X8_agreed hl0 h)


/- X8_majorityOf -/

set_option maxRecDepth 100000 in
set_option maxHeartbeats 4000000 in
theorem t_X8_majorityOf {g : zF} (hl0 : g.2.2.2.1.stackTraces = false) {Q : zR × zS → Prop}   {a0 a1 a2 : Int} {σ : zS} (h : zo (f_X8_majorityOf  a0 a1 a2 σ) Q) : zw g Y_X8_majorityOf R_X8_majorityOf 0 [(0, (4, a0)), (1, (0, a1)), (2, (0, a2))] [] σ 0 0 Q := by
  unfold f_X8_majorityOf at h
  refine r_aload_n 0 dX8_majorityOf_0 rfl ?_
  refine r_iload_n 1 dX8_majorityOf_1 rfl ?_
  refine r_iload_n 2 dX8_majorityOf_2 rfl ?_
  refine r_callV (K' := Y_X8_agreed) (R' := R_X8_agreed) (idx := 412) (n := 2) (b := a0) (as := [(0, a1), (0, a2)]) (rest := []) (C' := 0) (D' := 0) (cn := 8) rfl k0_X8_agreed kV_X8_agreed kl_X8_412 ⟨by decide, by decide⟩ dX8_majorityOf_3 rfl rfl (Nat.le_of_ble_eq_true rfl) (by decide) (by decide) rfl h (fun r hr => m_X8_agreed hl0 ⟨r, hr, hr⟩) (fun x1 τ2 _ h => ?_)
  refine r_istore_n (L' := [(3, (0, x1)), (0, (4, a0)), (1, (0, a1)), (2, (0, a2))]) dX8_majorityOf_6 (by decide) rfl ?_
  refine r_iload_n 0 dX8_majorityOf_7 rfl ?_
  refine r_iconst (v := (-1)) dX8_majorityOf_8 rfl rfl ?_
  refine r_icmp_ne 16 dX8_majorityOf_9 (by decide) h (fun h => ?_) (fun h => ?_)
  · refine r_aload_n 1 dX8_majorityOf_16 rfl ?_
    refine r_iload_n 2 dX8_majorityOf_17 rfl ?_
    refine r_iload_n 0 dX8_majorityOf_18 rfl ?_
    refine r_callV (K' := Y_X8_holding) (R' := R_X8_holding) (idx := 409) (n := 2) (b := a0) (as := [(0, a1), (0, x1)]) (rest := []) (C' := 0) (D' := 0) (cn := 8) rfl k0_X8_holding kV_X8_holding kl_X8_409 ⟨by decide, by decide⟩ dX8_majorityOf_19 rfl rfl (Nat.le_of_ble_eq_true rfl) (by decide) (by decide) rfl h (fun r hr => m_X8_holding hl0 ⟨r, hr, hr⟩) (fun x3 τ4 _ h => ?_)
    exact r_iret rfl dX8_majorityOf_22 h
  · refine r_iconst (v := 0) dX8_majorityOf_12 rfl rfl ?_
    refine r_goto 22 dX8_majorityOf_13 (by decide) ?_
    exact r_iret rfl dX8_majorityOf_22 h
theorem m_X8_majorityOf {g : zF} (hl0 : g.2.2.2.1.stackTraces = false) {Q : zR × zS → Prop} {a0 a1 a2 : Int} {σ : zS} (h : zo (f_X8_majorityOf a0 a1 a2 σ) Q) : zm g Y_X8_majorityOf R_X8_majorityOf [(4, a0), (0, a1), (0, a2)] σ Q := zm_of (by decide) rfl (Nat.le_of_ble_eq_true rfl) (t_X8_majorityOf hl0 h)


/- X8_majority -/

set_option maxRecDepth 100000 in
set_option maxHeartbeats 4000000 in
theorem t_X8_majority {g : zF} (hl0 : g.2.2.2.1.stackTraces = false) {Q : zR × zS → Prop}   {a0 a1 a2 : Int} {σ : zS} (h : zo (f_X8_majority  a0 a1 a2 σ) Q) : zw g Y_X8_majority R_X8_majority 0 [(0, (4, a0)), (1, (0, a1)), (2, (0, a2))] [] σ 0 0 Q := by
  unfold f_X8_majority at h
  refine r_aload_n 0 dX8_majority_0 rfl ?_
  refine r_aload_n 0 dX8_majority_1 rfl ?_
  refine r_iload_n 1 dX8_majority_2 rfl ?_
  refine r_iload_n 2 dX8_majority_3 rfl ?_
  refine r_callV (K' := Y_X8_areThere) (R' := R_X8_areThere) (idx := 381) (n := 2) (b := a0) (as := [(0, a1), (0, a2)]) (rest := [(4, a0)]) (C' := 0) (D' := 0) (cn := 8) rfl k0_X8_areThere kV_X8_areThere kl_X8_381 ⟨by decide, by decide⟩ dX8_majority_4 rfl rfl (Nat.le_of_ble_eq_true rfl) (by decide) (by decide) rfl h (fun r hr => m_X8_areThere hl0 ⟨r, hr, hr⟩) (fun x1 τ2 _ h => ?_)
  refine r_callV (K' := Y_X8_passes) (R' := R_X8_passes) (idx := 215) (n := 1) (b := a0) (as := [(0, x1)]) (rest := []) (C' := 0) (D' := 0) (cn := 8) rfl k0_X8_passes kV_X8_passes kl_X8_215 ⟨by decide, by decide⟩ dX8_majority_7 rfl rfl (Nat.le_of_ble_eq_true rfl) (by decide) (by decide) rfl h (fun r hr => m_X8_passes hl0 ⟨r, hr, hr⟩) (fun x3 τ4 _ h => ?_)
  refine r_if_eq 22 dX8_majority_10 (by decide) h (fun h => ?_) (fun h => ?_)
  · refine r_iconst (v := 0) dX8_majority_22 rfl rfl ?_
    exact r_iret rfl dX8_majority_23 h
  · refine r_aload_n 0 dX8_majority_13 rfl ?_
    refine r_iload_n 1 dX8_majority_14 rfl ?_
    refine r_iload_n 2 dX8_majority_15 rfl ?_
    refine r_callV (K' := Y_X8_majorityOf) (R' := R_X8_majorityOf) (idx := 415) (n := 2) (b := a0) (as := [(0, a1), (0, a2)]) (rest := []) (C' := 0) (D' := 0) (cn := 8) rfl k0_X8_majorityOf kV_X8_majorityOf kl_X8_415 ⟨by decide, by decide⟩ dX8_majority_16 rfl rfl (Nat.le_of_ble_eq_true rfl) (by decide) (by decide) rfl h (fun r hr => m_X8_majorityOf hl0 ⟨r, hr, hr⟩) (fun x5 τ6 _ h => ?_)
    refine r_goto 23 dX8_majority_19 (by decide) ?_
    exact r_iret rfl dX8_majority_23 h
theorem m_X8_majority {g : zF} (hl0 : g.2.2.2.1.stackTraces = false) {Q : zR × zS → Prop} {a0 a1 a2 : Int} {σ : zS} (h : zo (f_X8_majority a0 a1 a2 σ) Q) : zm g Y_X8_majority R_X8_majority [(4, a0), (0, a1), (0, a2)] σ Q := zm_of (by decide) rfl (Nat.le_of_ble_eq_true rfl) (t_X8_majority hl0 h)


/- X8_majorityBound -/

set_option maxRecDepth 100000 in
set_option maxHeartbeats 4000000 in
theorem t_X8_majorityBound {g : zF} (hl0 : g.2.2.2.1.stackTraces = false) {Q : zR × zS → Prop}   {a0 a1 a2 a3 : Int} {σ : zS} (h : zo (f_X8_majorityBound  a0 a1 a2 a3 σ) Q) : zw g Y_X8_majorityBound R_X8_majorityBound 0 [(0, (4, a0)), (1, (0, a1)), (2, (0, a2)), (3, (0, a3))] [] σ 0 0 Q := by
  unfold f_X8_majorityBound at h
  refine r_aload_n 0 dX8_majorityBound_0 rfl ?_
  refine r_aload_n 0 dX8_majorityBound_1 rfl ?_
  refine r_iload_n 1 dX8_majorityBound_2 rfl ?_
  refine r_iload_n 2 dX8_majorityBound_3 rfl ?_
  refine r_callV (K' := Y_X8_areThere) (R' := R_X8_areThere) (idx := 381) (n := 2) (b := a0) (as := [(0, a1), (0, a2)]) (rest := [(4, a0)]) (C' := 0) (D' := 0) (cn := 8) rfl k0_X8_areThere kV_X8_areThere kl_X8_381 ⟨by decide, by decide⟩ dX8_majorityBound_4 rfl rfl (Nat.le_of_ble_eq_true rfl) (by decide) (by decide) rfl h (fun r hr => m_X8_areThere hl0 ⟨r, hr, hr⟩) (fun x1 τ2 _ h => ?_)
  refine r_iload_n 3 dX8_majorityBound_7 rfl ?_
  refine r_i2l dX8_majorityBound_8 ?_
  refine r_lconst dX8_majorityBound_9 ?_
  refine r_lconst dX8_majorityBound_10 ?_
  refine r_callS (K' := Y_X8_in) (R' := R_X8_in) (idx := 70) (n := 3) (as := [(1, a3), (1, 0), (1, 1)]) (rest := [(0, x1), (4, a0)]) (C' := 0) (D' := 0) rfl k0_X8_in wd_1562 kl_X8_70 ⟨by decide, by decide⟩ dX8_majorityBound_11 rfl rfl (Nat.le_of_ble_eq_true rfl) (by decide) (by decide) h (fun r hr => m_X8_in hl0 ⟨r, hr, hr⟩) (fun x3 τ4 _ h => ?_)
  refine r_callV (K' := Y_X8_passes2) (R' := R_X8_passes2) (idx := 368) (n := 2) (b := a0) (as := [(0, x1), (0, x3)]) (rest := []) (C' := 0) (D' := 0) (cn := 8) rfl k0_X8_passes2 kV_X8_passes2 kl_X8_368 ⟨by decide, by decide⟩ dX8_majorityBound_14 rfl rfl (Nat.le_of_ble_eq_true rfl) (by decide) (by decide) rfl h (fun r hr => m_X8_passes2 hl0 ⟨r, hr, hr⟩) (fun x5 τ6 _ h => ?_)
  refine r_if_ne 22 dX8_majorityBound_17 (by decide) h (fun h => ?_) (fun h => ?_)
  · refine r_aload_n 0 dX8_majorityBound_22 rfl ?_
    refine r_iload_n 1 dX8_majorityBound_23 rfl ?_
    refine r_iload_n 2 dX8_majorityBound_24 rfl ?_
    refine r_callV (K' := Y_X8_majorityOf) (R' := R_X8_majorityOf) (idx := 415) (n := 2) (b := a0) (as := [(0, a1), (0, a2)]) (rest := []) (C' := 0) (D' := 0) (cn := 8) rfl k0_X8_majorityOf kV_X8_majorityOf kl_X8_415 ⟨by decide, by decide⟩ dX8_majorityBound_25 rfl rfl (Nat.le_of_ble_eq_true rfl) (by decide) (by decide) rfl h (fun r hr => m_X8_majorityOf hl0 ⟨r, hr, hr⟩) (fun x7 τ8 _ h => ?_)
    refine r_if_ne 33 dX8_majorityBound_28 (by decide) h (fun h => ?_) (fun h => ?_)
    · refine r_iload_n 3 dX8_majorityBound_33 rfl ?_
      refine r_if_ne 44 dX8_majorityBound_34 (by decide) h (fun h => ?_) (fun h => ?_)
      · refine r_aload_n 0 dX8_majorityBound_44 rfl ?_
        refine r_getf fd_X8_406 rfl dX8_majorityBound_45 h (fun x9 h => ?_)
        exact r_iret rfl dX8_majorityBound_48 h
      · refine r_aload_n 0 dX8_majorityBound_37 rfl ?_
        refine r_getf fd_X8_403 rfl dX8_majorityBound_38 h (fun x10 h => ?_)
        refine r_goto 48 dX8_majorityBound_41 (by decide) ?_
        exact r_iret rfl dX8_majorityBound_48 h
    · refine r_iconst (v := (-1)) dX8_majorityBound_31 rfl rfl ?_
      exact r_iret rfl dX8_majorityBound_32 h
  · refine r_iconst (v := 0) dX8_majorityBound_20 rfl rfl ?_
    exact r_iret rfl dX8_majorityBound_21 h
theorem m_X8_majorityBound {g : zF} (hl0 : g.2.2.2.1.stackTraces = false) {Q : zR × zS → Prop} {a0 a1 a2 a3 : Int} {σ : zS} (h : zo (f_X8_majorityBound a0 a1 a2 a3 σ) Q) : zm g Y_X8_majorityBound R_X8_majorityBound [(4, a0), (0, a1), (0, a2), (0, a3)] σ Q := zm_of (by decide) rfl (Nat.le_of_ble_eq_true rfl) (t_X8_majorityBound hl0 h)


/- X8_regret -/

set_option maxRecDepth 100000 in
set_option maxHeartbeats 4000000 in
theorem t_X8_regret {g : zF} (hl0 : g.2.2.2.1.stackTraces = false) {Q : zR × zS → Prop}   {a0 a1 : Int} {σ : zS} (h : zo (f_X8_regret  a0 a1 σ) Q) : zw g Y_X8_regret R_X8_regret 0 [(0, (4, a0)), (1, (0, a1))] [] σ 0 0 Q := by
  unfold f_X8_regret at h
  refine r_aload_n 0 dX8_regret_0 rfl ?_
  refine r_aload_n 0 dX8_regret_1 rfl ?_
  refine r_iload_n 1 dX8_regret_2 rfl ?_
  refine r_callV (K' := Y_X8_isAgent) (R' := R_X8_isAgent) (idx := 88) (n := 1) (b := a0) (as := [(0, a1)]) (rest := [(4, a0)]) (C' := 0) (D' := 0) (cn := 8) rfl k0_X8_isAgent kV_X8_isAgent kl_X8_88 ⟨by decide, by decide⟩ dX8_regret_3 rfl rfl (Nat.le_of_ble_eq_true rfl) (by decide) (by decide) rfl h (fun r hr => m_X8_isAgent hl0 ⟨r, hr, hr⟩) (fun x1 τ2 _ h => ?_)
  refine r_callV (K' := Y_X8_passes) (R' := R_X8_passes) (idx := 215) (n := 1) (b := a0) (as := [(0, x1)]) (rest := []) (C' := 0) (D' := 0) (cn := 8) rfl k0_X8_passes kV_X8_passes kl_X8_215 ⟨by decide, by decide⟩ dX8_regret_6 rfl rfl (Nat.le_of_ble_eq_true rfl) (by decide) (by decide) rfl h (fun r hr => m_X8_passes hl0 ⟨r, hr, hr⟩) (fun x3 τ4 _ h => ?_)
  refine r_if_ne 14 dX8_regret_9 (by decide) h (fun h => ?_) (fun h => ?_)
  · refine r_aload_n 0 dX8_regret_14 rfl ?_
    refine r_iload_n 1 dX8_regret_15 rfl ?_
    refine r_iconst (v := 0) dX8_regret_16 rfl rfl ?_
    refine r_callV (K' := Y_X8_bestOf) (R' := R_X8_bestOf) (idx := 209) (n := 2) (b := a0) (as := [(0, a1), (0, 0)]) (rest := []) (C' := 0) (D' := 0) (cn := 8) rfl k0_X8_bestOf kV_X8_bestOf kl_X8_209 ⟨by decide, by decide⟩ dX8_regret_17 rfl rfl (Nat.le_of_ble_eq_true rfl) (by decide) (by decide) rfl h (fun r hr => m_X8_bestOf hl0 ⟨r, hr, hr⟩) (fun x5 τ6 _ h => ?_)
    refine r_istore_n (L' := [(2, (0, x5)), (0, (4, a0)), (1, (0, a1))]) dX8_regret_20 (by decide) rfl ?_
    refine r_iload_n 0 dX8_regret_21 rfl ?_
    refine r_iconst (v := (-1)) dX8_regret_22 rfl rfl ?_
    refine r_icmp_ne 30 dX8_regret_23 (by decide) h (fun h => ?_) (fun h => ?_)
    · refine r_aload_n 1 dX8_regret_30 rfl ?_
      refine r_iload_n 2 dX8_regret_31 rfl ?_
      refine r_iload_n 0 dX8_regret_32 rfl ?_
      refine r_iconst (v := 0) dX8_regret_33 rfl rfl ?_
      refine r_callV (K' := Y_X8_valueOf) (R' := R_X8_valueOf) (idx := 206) (n := 3) (b := a0) (as := [(0, a1), (0, x5), (0, 0)]) (rest := []) (C' := 0) (D' := 0) (cn := 8) rfl k0_X8_valueOf kV_X8_valueOf kl_X8_206 ⟨by decide, by decide⟩ dX8_regret_34 rfl rfl (Nat.le_of_ble_eq_true rfl) (by decide) (by decide) rfl h (fun r hr => m_X8_valueOf hl0 ⟨r, hr, hr⟩) (fun x7 τ8 _ h => ?_)
      refine r_aload_n 1 dX8_regret_37 rfl ?_
      refine r_iload_n 2 dX8_regret_38 rfl ?_
      refine r_aload_n 1 dX8_regret_39 rfl ?_
      refine r_iload_n 2 dX8_regret_40 rfl ?_
      refine r_iconst (v := 1) dX8_regret_41 rfl rfl ?_
      refine r_callV (K' := Y_X8_bestOf) (R' := R_X8_bestOf) (idx := 209) (n := 2) (b := a0) (as := [(0, a1), (0, 1)]) (rest := [(0, a1), (4, a0), (0, x7)]) (C' := 0) (D' := 0) (cn := 8) rfl k0_X8_bestOf kV_X8_bestOf kl_X8_209 ⟨by decide, by decide⟩ dX8_regret_42 rfl rfl (Nat.le_of_ble_eq_true rfl) (by decide) (by decide) rfl h (fun r hr => m_X8_bestOf hl0 ⟨r, hr, hr⟩) (fun x9 τ10 _ h => ?_)
      refine r_iconst (v := 1) dX8_regret_45 rfl rfl ?_
      refine r_callV (K' := Y_X8_valueOf) (R' := R_X8_valueOf) (idx := 206) (n := 3) (b := a0) (as := [(0, a1), (0, x9), (0, 1)]) (rest := [(0, x7)]) (C' := 0) (D' := 0) (cn := 8) rfl k0_X8_valueOf kV_X8_valueOf kl_X8_206 ⟨by decide, by decide⟩ dX8_regret_46 rfl rfl (Nat.le_of_ble_eq_true rfl) (by decide) (by decide) rfl h (fun r hr => m_X8_valueOf hl0 ⟨r, hr, hr⟩) (fun x11 τ12 _ h => ?_)
      refine r_isub dX8_regret_49 ?_
      exact r_iret rfl dX8_regret_50 h
    · refine r_iconst (v := (-1)) dX8_regret_26 rfl rfl ?_
      refine r_goto 50 dX8_regret_27 (by decide) ?_
      exact r_iret rfl dX8_regret_50 h
  · refine r_iconst (v := 0) dX8_regret_12 rfl rfl ?_
    exact r_iret rfl dX8_regret_13 h
theorem m_X8_regret {g : zF} (hl0 : g.2.2.2.1.stackTraces = false) {Q : zR × zS → Prop} {a0 a1 : Int} {σ : zS} (h : zo (f_X8_regret a0 a1 σ) Q) : zm g Y_X8_regret R_X8_regret [(4, a0), (0, a1)] σ Q := zm_of (by decide) rfl (Nat.le_of_ble_eq_true rfl) (t_X8_regret hl0 h)


/- X8_reaches -/

set_option maxRecDepth 100000 in
set_option maxHeartbeats 4000000 in
theorem t_X8_reaches_101 {g : zF} (hl0 : g.2.2.2.1.stackTraces = false) {Q : zR × zS → Prop}   {a2 a4 : Int} {σ : zS} (h : zo (f_X8_reaches_101  a2 a4 σ) Q) : zw g Y_X8_reaches R_X8_reaches 101 [(2, (0, a2)), (4, (0, a4))] [] σ 0 0 Q := by
  unfold f_X8_reaches_101 at h
  refine r_iload 1 dX8_reaches_101 rfl ?_
  refine r_iload_n 0 dX8_reaches_103 rfl ?_
  refine r_ishr dX8_reaches_104 ?_
  refine r_iconst (v := 1) dX8_reaches_105 rfl rfl ?_
  refine r_iand dX8_reaches_106 ?_
  refine r_iconst (v := 1) dX8_reaches_107 rfl rfl ?_
  refine r_icmp_ne 115 dX8_reaches_108 (by decide) h (fun h => ?_) (fun h => ?_)
  · refine r_iconst (v := 0) dX8_reaches_115 rfl rfl ?_
    exact r_zretc (by decide) rfl dX8_reaches_116 h
  · refine r_iconst (v := 1) dX8_reaches_111 rfl rfl ?_
    refine r_goto 116 dX8_reaches_112 (by decide) ?_
    exact r_zretc (by decide) rfl dX8_reaches_116 h

set_option maxRecDepth 100000 in
set_option maxHeartbeats 4000000 in
theorem t_X8_reaches_91 {g : zF} (hl0 : g.2.2.2.1.stackTraces = false) {Q : zR × zS → Prop} (r8 : Int → Int → Int → Int → Int → zS → zFn) (hr8 : ∀ b0 b2 b3 b4 b5 τ, zo (r8 b0 b2 b3 b4 b5 τ) Q → zw g Y_X8_reaches R_X8_reaches 8 [(0, (4, b0)), (2, (0, b2)), (3, (0, b3)), (4, (0, b4)), (5, (0, b5))] [] τ 0 0 Q) {a0 a2 a3 a5 a6 : Int} {σ : zS} (h : zo (f_X8_reaches_91 r8 a0 a2 a3 a5 a6 σ) Q) : zw g Y_X8_reaches R_X8_reaches 91 [(0, (4, a0)), (2, (0, a2)), (3, (0, a3)), (5, (0, a5)), (6, (0, a6))] [] σ 0 0 Q := by
  unfold f_X8_reaches_91 at h
  refine r_iload 4 dX8_reaches_91 rfl ?_
  refine r_istore (L' := [(4, (0, a6)), (0, (4, a0)), (2, (0, a2)), (3, (0, a3)), (5, (0, a5)), (6, (0, a6))]) dX8_reaches_93 (by decide) rfl ?_
  refine r_iinc (L' := [(5, (0, (w32 (a5 + 1)))), (4, (0, a6)), (0, (4, a0)), (2, (0, a2)), (3, (0, a3)), (6, (0, a6))]) 4 dX8_reaches_95 rfl (by decide) rfl ?_
  refine r_goto 8 dX8_reaches_98 (by decide) ?_
  refine r_weak (L' := [(0, (4, a0)), (2, (0, a2)), (3, (0, a3)), (4, (0, a6)), (5, (0, (w32 (a5 + 1))))]) [2, 3, 4, 1, 0] rfl ?_
  exact hr8 _ _ _ _ _ _ h

set_option maxRecDepth 100000 in
set_option maxHeartbeats 4000000 in
theorem t_X8_reaches_82 {g : zF} (hl0 : g.2.2.2.1.stackTraces = false) {Q : zR × zS → Prop} (r8 : Int → Int → Int → Int → Int → zS → zFn) (r22 : Int → Int → Int → Int → Int → Int → Int → zS → zFn) (hr8 : ∀ b0 b2 b3 b4 b5 τ, zo (r8 b0 b2 b3 b4 b5 τ) Q → zw g Y_X8_reaches R_X8_reaches 8 [(0, (4, b0)), (2, (0, b2)), (3, (0, b3)), (4, (0, b4)), (5, (0, b5))] [] τ 0 0 Q) (hr22 : ∀ b0 b2 b3 b4 b5 b6 b7 τ, zo (r22 b0 b2 b3 b4 b5 b6 b7 τ) Q → zw g Y_X8_reaches R_X8_reaches 22 [(0, (4, b0)), (2, (0, b2)), (3, (0, b3)), (4, (0, b4)), (5, (0, b5)), (6, (0, b6)), (7, (0, b7))] [] τ 0 0 Q) {a0 a2 a3 a4 a5 a7 s0 s1 : Int} {σ : zS} (h : zo (f_X8_reaches_82 r8 r22 a0 a2 a3 a4 a5 a7 s0 s1 σ) Q) : zw g Y_X8_reaches R_X8_reaches 82 [(0, (4, a0)), (2, (0, a2)), (3, (0, a3)), (4, (0, a4)), (5, (0, a5)), (7, (0, a7))] [(0, s1), (0, s0)] σ 0 0 Q := by
  unfold f_X8_reaches_82 at h
  refine r_ior dX8_reaches_82 ?_
  refine r_istore (L' := [(6, (0, (zor s0 s1))), (0, (4, a0)), (2, (0, a2)), (3, (0, a3)), (4, (0, a4)), (5, (0, a5)), (7, (0, a7))]) dX8_reaches_83 (by decide) rfl ?_
  refine r_iinc (L' := [(7, (0, (w32 (a7 + 1)))), (6, (0, (zor s0 s1))), (0, (4, a0)), (2, (0, a2)), (3, (0, a3)), (4, (0, a4)), (5, (0, a5))]) 6 dX8_reaches_85 rfl (by decide) rfl ?_
  refine r_goto 22 dX8_reaches_88 (by decide) ?_
  refine r_weak (L' := [(0, (4, a0)), (2, (0, a2)), (3, (0, a3)), (4, (0, a4)), (5, (0, a5)), (6, (0, (zor s0 s1))), (7, (0, (w32 (a7 + 1))))]) [2, 3, 4, 5, 6, 1, 0] rfl ?_
  exact hr22 _ _ _ _ _ _ _ _ h

set_option maxRecDepth 100000 in
set_option maxHeartbeats 4000000 in
theorem t_X8_reaches_62 {g : zF} (hl0 : g.2.2.2.1.stackTraces = false) {Q : zR × zS → Prop} (r8 : Int → Int → Int → Int → Int → zS → zFn) (r22 : Int → Int → Int → Int → Int → Int → Int → zS → zFn) (hr8 : ∀ b0 b2 b3 b4 b5 τ, zo (r8 b0 b2 b3 b4 b5 τ) Q → zw g Y_X8_reaches R_X8_reaches 8 [(0, (4, b0)), (2, (0, b2)), (3, (0, b3)), (4, (0, b4)), (5, (0, b5))] [] τ 0 0 Q) (hr22 : ∀ b0 b2 b3 b4 b5 b6 b7 τ, zo (r22 b0 b2 b3 b4 b5 b6 b7 τ) Q → zw g Y_X8_reaches R_X8_reaches 22 [(0, (4, b0)), (2, (0, b2)), (3, (0, b3)), (4, (0, b4)), (5, (0, b5)), (6, (0, b6)), (7, (0, b7))] [] τ 0 0 Q) {a0 a2 a3 a4 a5 a6 a7 s0 : Int} {σ : zS} (h : zo (f_X8_reaches_62 r8 r22 a0 a2 a3 a4 a5 a6 a7 s0 σ) Q) : zw g Y_X8_reaches R_X8_reaches 62 [(0, (4, a0)), (2, (0, a2)), (3, (0, a3)), (4, (0, a4)), (5, (0, a5)), (6, (0, a6)), (7, (0, a7))] [(0, s0)] σ 0 0 Q := by
  unfold f_X8_reaches_62 at h
  refine r_istore (L' := [(8, (0, s0)), (0, (4, a0)), (2, (0, a2)), (3, (0, a3)), (4, (0, a4)), (5, (0, a5)), (6, (0, a6)), (7, (0, a7))]) dX8_reaches_62 (by decide) rfl ?_
  refine r_iload 6 dX8_reaches_64 rfl ?_
  refine r_iload 0 dX8_reaches_66 rfl ?_
  refine r_if_eq 81 dX8_reaches_68 (by decide) h (fun h => ?_) (fun h => ?_)
  · refine r_iconst (v := 0) dX8_reaches_81 rfl rfl ?_
    refine r_weak (L' := [(0, (4, a0)), (2, (0, a2)), (3, (0, a3)), (4, (0, a4)), (5, (0, a5)), (7, (0, a7))]) [1, 2, 3, 4, 5, 7] rfl ?_
    exact t_X8_reaches_82 hl0 r8 r22 hr8 hr22 h
  · refine r_iconst (v := 1) dX8_reaches_71 rfl rfl ?_
    refine r_iload 7 dX8_reaches_72 rfl ?_
    refine r_bipush (v := 6) dX8_reaches_74 rfl rfl ?_
    refine r_irem dX8_reaches_76 h (fun h => ?_)
    refine r_ishl dX8_reaches_77 ?_
    refine r_goto 82 dX8_reaches_78 (by decide) ?_
    refine r_weak (L' := [(0, (4, a0)), (2, (0, a2)), (3, (0, a3)), (4, (0, a4)), (5, (0, a5)), (7, (0, a7))]) [1, 2, 3, 4, 5, 7] rfl ?_
    exact t_X8_reaches_82 hl0 r8 r22 hr8 hr22 h

set_option maxRecDepth 100000 in
set_option maxHeartbeats 4000000 in
theorem t_X8_reaches_61 {g : zF} (hl0 : g.2.2.2.1.stackTraces = false) {Q : zR × zS → Prop} (r8 : Int → Int → Int → Int → Int → zS → zFn) (r22 : Int → Int → Int → Int → Int → Int → Int → zS → zFn) (hr8 : ∀ b0 b2 b3 b4 b5 τ, zo (r8 b0 b2 b3 b4 b5 τ) Q → zw g Y_X8_reaches R_X8_reaches 8 [(0, (4, b0)), (2, (0, b2)), (3, (0, b3)), (4, (0, b4)), (5, (0, b5))] [] τ 0 0 Q) (hr22 : ∀ b0 b2 b3 b4 b5 b6 b7 τ, zo (r22 b0 b2 b3 b4 b5 b6 b7 τ) Q → zw g Y_X8_reaches R_X8_reaches 22 [(0, (4, b0)), (2, (0, b2)), (3, (0, b3)), (4, (0, b4)), (5, (0, b5)), (6, (0, b6)), (7, (0, b7))] [] τ 0 0 Q) {a0 a2 a3 a4 a5 a6 a7 : Int} {σ : zS} (h : zo (f_X8_reaches_61 r8 r22 a0 a2 a3 a4 a5 a6 a7 σ) Q) : zw g Y_X8_reaches R_X8_reaches 61 [(0, (4, a0)), (2, (0, a2)), (3, (0, a3)), (4, (0, a4)), (5, (0, a5)), (6, (0, a6)), (7, (0, a7))] [] σ 0 0 Q := by
  unfold f_X8_reaches_61 at h
  refine r_iconst (v := 0) dX8_reaches_61 rfl rfl ?_
  exact t_X8_reaches_62 hl0 r8 r22 hr8 hr22 h

set_option maxRecDepth 100000 in
set_option maxHeartbeats 4000000 in
theorem t_X8_reaches_22 {g : zF} (hl0 : g.2.2.2.1.stackTraces = false) {Q : zR × zS → Prop} (r8 : Int → Int → Int → Int → Int → zS → zFn) (hr8 : ∀ b0 b2 b3 b4 b5 τ, zo (r8 b0 b2 b3 b4 b5 τ) Q → zw g Y_X8_reaches R_X8_reaches 8 [(0, (4, b0)), (2, (0, b2)), (3, (0, b3)), (4, (0, b4)), (5, (0, b5))] [] τ 0 0 Q) : ∀ (n : Nat) (a0 a2 a3 a4 a5 a6 a7 : Int) (σ : zS), zo (f_X8_reaches_22 r8 n a0 a2 a3 a4 a5 a6 a7 σ) Q → zw g Y_X8_reaches R_X8_reaches 22 [(0, (4, a0)), (2, (0, a2)), (3, (0, a3)), (4, (0, a4)), (5, (0, a5)), (6, (0, a6)), (7, (0, a7))] [] σ 0 0 Q := by
  intro n
  induction n with
  | zero => intro a0 a2 a3 a4 a5 a6 a7 σ h; obtain ⟨r, h, -⟩ := h; cases h
  | succ n ih =>
    intro a0 a2 a3 a4 a5 a6 a7 σ h
    unfold f_X8_reaches_22 at h
    refine r_iload 6 dX8_reaches_22 rfl ?_
    refine r_bipush (v := 36) dX8_reaches_24 rfl rfl ?_
    refine r_icmp_ge 91 dX8_reaches_26 (by decide) h (fun h => ?_) (fun h => ?_)
    · refine r_weak (L' := [(0, (4, a0)), (2, (0, a2)), (3, (0, a3)), (5, (0, a5)), (6, (0, a6))]) [0, 1, 2, 4, 5] rfl ?_
      exact t_X8_reaches_91 hl0 r8 hr8 h
    · refine r_iload 3 dX8_reaches_29 rfl ?_
      refine r_iload 6 dX8_reaches_31 rfl ?_
      refine r_bipush (v := 6) dX8_reaches_33 rfl rfl ?_
      refine r_idiv dX8_reaches_35 h (fun h => ?_)
      refine r_ishr dX8_reaches_36 ?_
      refine r_iconst (v := 1) dX8_reaches_37 rfl rfl ?_
      refine r_iand dX8_reaches_38 ?_
      refine r_iconst (v := 1) dX8_reaches_39 rfl rfl ?_
      refine r_icmp_ne 61 dX8_reaches_40 (by decide) h (fun h => ?_) (fun h => ?_)
      · exact t_X8_reaches_61 hl0 r8 (f_X8_reaches_22 r8 n) hr8 (fun b0 b2 b3 b4 b5 b6 b7 τ h => ih b0 b2 b3 b4 b5 b6 b7 τ h) h
      · refine r_aload_n 0 dX8_reaches_43 rfl ?_
        refine r_getr fd_X8_17 rfl dX8_reaches_44 h (fun x1 h => ?_)
        refine r_bipush (v := 21) dX8_reaches_47 rfl rfl ?_
        refine r_iload 6 dX8_reaches_49 rfl ?_
        refine r_iadd dX8_reaches_51 ?_
        refine r_iald dX8_reaches_52 h (fun x2 h => ?_)
        refine r_iload_n 2 dX8_reaches_53 rfl ?_
        refine r_icmp_lt 61 dX8_reaches_54 (by decide) h (fun h => ?_) (fun h => ?_)
        · exact t_X8_reaches_61 hl0 r8 (f_X8_reaches_22 r8 n) hr8 (fun b0 b2 b3 b4 b5 b6 b7 τ h => ih b0 b2 b3 b4 b5 b6 b7 τ h) h
        · refine r_iconst (v := 1) dX8_reaches_57 rfl rfl ?_
          refine r_goto 62 dX8_reaches_58 (by decide) ?_
          exact t_X8_reaches_62 hl0 r8 (f_X8_reaches_22 r8 n) hr8 (fun b0 b2 b3 b4 b5 b6 b7 τ h => ih b0 b2 b3 b4 b5 b6 b7 τ h) h

set_option maxRecDepth 100000 in
set_option maxHeartbeats 4000000 in
theorem t_X8_reaches_8 {g : zF} (hl0 : g.2.2.2.1.stackTraces = false) {Q : zR × zS → Prop}   : ∀ (n : Nat) (a0 a2 a3 a4 a5 : Int) (σ : zS), zo (f_X8_reaches_8  n a0 a2 a3 a4 a5 σ) Q → zw g Y_X8_reaches R_X8_reaches 8 [(0, (4, a0)), (2, (0, a2)), (3, (0, a3)), (4, (0, a4)), (5, (0, a5))] [] σ 0 0 Q := by
  intro n
  induction n with
  | zero => intro a0 a2 a3 a4 a5 σ h; obtain ⟨r, h, -⟩ := h; cases h
  | succ n ih =>
    intro a0 a2 a3 a4 a5 σ h
    unfold f_X8_reaches_8 at h
    refine r_iload 4 dX8_reaches_8 rfl ?_
    refine r_bipush (v := 6) dX8_reaches_10 rfl rfl ?_
    refine r_icmp_ge 101 dX8_reaches_12 (by decide) h (fun h => ?_) (fun h => ?_)
    · refine r_weak (L' := [(2, (0, a2)), (4, (0, a4))]) [1, 3] rfl ?_
      exact t_X8_reaches_101 hl0   h
    · refine r_iload 3 dX8_reaches_15 rfl ?_
      refine r_istore (L' := [(6, (0, a4)), (0, (4, a0)), (2, (0, a2)), (3, (0, a3)), (4, (0, a4)), (5, (0, a5))]) dX8_reaches_17 (by decide) rfl ?_
      refine r_iconst (v := 0) dX8_reaches_19 rfl rfl ?_
      refine r_istore (L' := [(7, (0, 0)), (6, (0, a4)), (0, (4, a0)), (2, (0, a2)), (3, (0, a3)), (4, (0, a4)), (5, (0, a5))]) dX8_reaches_20 (by decide) rfl ?_
      refine r_weak (L' := [(0, (4, a0)), (2, (0, a2)), (3, (0, a3)), (4, (0, a4)), (5, (0, a5)), (6, (0, a4)), (7, (0, 0))]) [2, 3, 4, 5, 6, 1, 0] rfl ?_
      exact t_X8_reaches_22 hl0 (f_X8_reaches_8  n) (fun b0 b2 b3 b4 b5 τ h => ih b0 b2 b3 b4 b5 τ h) zFU _ _ _ _ _ _ _ _ h

set_option maxRecDepth 100000 in
set_option maxHeartbeats 4000000 in
theorem t_X8_reaches {g : zF} (hl0 : g.2.2.2.1.stackTraces = false) {Q : zR × zS → Prop}   {a0 a1 a2 a3 : Int} {σ : zS} (h : zo (f_X8_reaches  a0 a1 a2 a3 σ) Q) : zw g Y_X8_reaches R_X8_reaches 0 [(0, (4, a0)), (1, (0, a1)), (2, (0, a2)), (3, (0, a3))] [] σ 0 0 Q := by
  unfold f_X8_reaches at h
  refine r_iconst (v := 1) dX8_reaches_0 rfl rfl ?_
  refine r_iload_n 1 dX8_reaches_1 rfl ?_
  refine r_ishl dX8_reaches_2 ?_
  refine r_istore (L' := [(4, (0, (zshl 1 a1))), (0, (4, a0)), (1, (0, a1)), (2, (0, a2)), (3, (0, a3))]) dX8_reaches_3 (by decide) rfl ?_
  refine r_iconst (v := 0) dX8_reaches_5 rfl rfl ?_
  refine r_istore (L' := [(5, (0, 0)), (4, (0, (zshl 1 a1))), (0, (4, a0)), (1, (0, a1)), (2, (0, a2)), (3, (0, a3))]) dX8_reaches_6 (by decide) rfl ?_
  refine r_weak (L' := [(0, (4, a0)), (2, (0, a2)), (3, (0, a3)), (4, (0, (zshl 1 a1))), (5, (0, 0))]) [2, 4, 5, 1, 0] rfl ?_
  exact t_X8_reaches_8 hl0   zFU _ _ _ _ _ _ h
theorem m_X8_reaches {g : zF} (hl0 : g.2.2.2.1.stackTraces = false) {Q : zR × zS → Prop} {a0 a1 a2 a3 : Int} {σ : zS} (h : zo (f_X8_reaches a0 a1 a2 a3 σ) Q) : zm g Y_X8_reaches R_X8_reaches [(4, a0), (0, a1), (0, a2), (0, a3)] σ Q := zm_of (by decide) rfl (Nat.le_of_ble_eq_true rfl) (t_X8_reaches hl0 h)


/- X8_bottleneck -/

set_option maxRecDepth 100000 in
set_option maxHeartbeats 4000000 in
theorem t_X8_bottleneck_18 {g : zF} (hl0 : g.2.2.2.1.stackTraces = false) {Q : zR × zS → Prop}   : ∀ (n : Nat) (a0 a1 a2 a3 : Int) (σ : zS), zo (f_X8_bottleneck_18  n a0 a1 a2 a3 σ) Q → zw g Y_X8_bottleneck R_X8_bottleneck 18 [(0, (4, a0)), (1, (0, a1)), (2, (0, a2)), (3, (0, a3))] [] σ 0 0 Q := by
  intro n
  induction n with
  | zero => intro a0 a1 a2 a3 σ h; obtain ⟨r, h, -⟩ := h; cases h
  | succ n ih =>
    intro a0 a1 a2 a3 σ h
    unfold f_X8_bottleneck_18 at h
    refine r_iload_n 3 dX8_bottleneck_18 rfl ?_
    refine r_if_lt 38 dX8_bottleneck_19 (by decide) h (fun h => ?_) (fun h => ?_)
    · refine r_iload_n 3 dX8_bottleneck_38 rfl ?_
      exact r_iret rfl dX8_bottleneck_39 h
    · refine r_aload_n 0 dX8_bottleneck_22 rfl ?_
      refine r_iload_n 1 dX8_bottleneck_23 rfl ?_
      refine r_iload_n 2 dX8_bottleneck_24 rfl ?_
      refine r_iload_n 3 dX8_bottleneck_25 rfl ?_
      refine r_callV (K' := Y_X8_reaches) (R' := R_X8_reaches) (idx := 418) (n := 3) (b := a0) (as := [(0, a1), (0, a2), (0, a3)]) (rest := []) (C' := 0) (D' := 0) (cn := 8) rfl k0_X8_reaches kV_X8_reaches kl_X8_418 ⟨by decide, by decide⟩ dX8_bottleneck_26 rfl rfl (Nat.le_of_ble_eq_true rfl) (by decide) (by decide) rfl h (fun r hr => m_X8_reaches hl0 ⟨r, hr, hr⟩) (fun x1 τ2 _ h => ?_)
      refine r_if_ne 38 dX8_bottleneck_29 (by decide) h (fun h => ?_) (fun h => ?_)
      · refine r_iload_n 3 dX8_bottleneck_38 rfl ?_
        exact r_iret rfl dX8_bottleneck_39 h
      · refine r_iinc (L' := [(3, (0, (w32 (a3 + (-1))))), (0, (4, a0)), (1, (0, a1)), (2, (0, a2))]) 3 dX8_bottleneck_32 rfl (by decide) rfl ?_
        refine r_goto 18 dX8_bottleneck_35 (by decide) ?_
        refine r_weak (L' := [(0, (4, a0)), (1, (0, a1)), (2, (0, a2)), (3, (0, (w32 (a3 + (-1)))))]) [1, 2, 3, 0] rfl ?_
        exact ih _ _ _ _ _ h

set_option maxRecDepth 100000 in
set_option maxHeartbeats 4000000 in
theorem t_X8_bottleneck {g : zF} (hl0 : g.2.2.2.1.stackTraces = false) {Q : zR × zS → Prop}   {a0 a1 a2 : Int} {σ : zS} (h : zo (f_X8_bottleneck  a0 a1 a2 σ) Q) : zw g Y_X8_bottleneck R_X8_bottleneck 0 [(0, (4, a0)), (1, (0, a1)), (2, (0, a2))] [] σ 0 0 Q := by
  unfold f_X8_bottleneck at h
  refine r_aload_n 0 dX8_bottleneck_0 rfl ?_
  refine r_aload_n 0 dX8_bottleneck_1 rfl ?_
  refine r_iload_n 1 dX8_bottleneck_2 rfl ?_
  refine r_iload_n 2 dX8_bottleneck_3 rfl ?_
  refine r_callV (K' := Y_X8_areAgents) (R' := R_X8_areAgents) (idx := 363) (n := 2) (b := a0) (as := [(0, a1), (0, a2)]) (rest := [(4, a0)]) (C' := 0) (D' := 0) (cn := 8) rfl k0_X8_areAgents kV_X8_areAgents kl_X8_363 ⟨by decide, by decide⟩ dX8_bottleneck_4 rfl rfl (Nat.le_of_ble_eq_true rfl) (by decide) (by decide) rfl h (fun r hr => m_X8_areAgents hl0 ⟨r, hr, hr⟩) (fun x1 τ2 _ h => ?_)
  refine r_callV (K' := Y_X8_passes) (R' := R_X8_passes) (idx := 215) (n := 1) (b := a0) (as := [(0, x1)]) (rest := []) (C' := 0) (D' := 0) (cn := 8) rfl k0_X8_passes kV_X8_passes kl_X8_215 ⟨by decide, by decide⟩ dX8_bottleneck_7 rfl rfl (Nat.le_of_ble_eq_true rfl) (by decide) (by decide) rfl h (fun r hr => m_X8_passes hl0 ⟨r, hr, hr⟩) (fun x3 τ4 _ h => ?_)
  refine r_if_ne 15 dX8_bottleneck_10 (by decide) h (fun h => ?_) (fun h => ?_)
  · refine r_bipush (v := 10) dX8_bottleneck_15 rfl rfl ?_
    refine r_istore_n (L' := [(3, (0, 10)), (0, (4, a0)), (1, (0, a1)), (2, (0, a2))]) dX8_bottleneck_17 (by decide) rfl ?_
    refine r_weak (L' := [(0, (4, a0)), (1, (0, a1)), (2, (0, a2)), (3, (0, 10))]) [1, 2, 3, 0] rfl ?_
    exact t_X8_bottleneck_18 hl0   zFU _ _ _ _ _ h
  · refine r_iconst (v := 0) dX8_bottleneck_13 rfl rfl ?_
    exact r_iret rfl dX8_bottleneck_14 h
theorem m_X8_bottleneck {g : zF} (hl0 : g.2.2.2.1.stackTraces = false) {Q : zR × zS → Prop} {a0 a1 a2 : Int} {σ : zS} (h : zo (f_X8_bottleneck a0 a1 a2 σ) Q) : zm g Y_X8_bottleneck R_X8_bottleneck [(4, a0), (0, a1), (0, a2)] σ Q := zm_of (by decide) rfl (Nat.le_of_ble_eq_true rfl) (t_X8_bottleneck hl0 h)

