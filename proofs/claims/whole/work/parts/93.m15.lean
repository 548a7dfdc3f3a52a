/- X8_spreads -/

set_option maxRecDepth 100000 in
set_option maxHeartbeats 4000000 in
theorem t_X8_spreads_59 {g : zF} (hl0 : g.2.2.2.1.stackTraces = false) {Q : zR × zS → Prop} (r6 : Int → Int → Int → Int → Int → Int → Int → zS → zFn) (hr6 : ∀ b0 b1 b2 b3 b4 b5 b6 τ, zo (r6 b0 b1 b2 b3 b4 b5 b6 τ) Q → zw g Y_X8_spreads R_X8_spreads 6 [(0, (4, b0)), (1, (0, b1)), (2, (0, b2)), (3, (0, b3)), (4, (0, b4)), (5, (0, b5)), (6, (0, b6))] [] τ 0 0 Q) {a0 a1 a2 a3 a4 a5 a6 : Int} {σ : zS} (h : zo (f_X8_spreads_59 r6 a0 a1 a2 a3 a4 a5 a6 σ) Q) : zw g Y_X8_spreads R_X8_spreads 59 [(0, (4, a0)), (1, (0, a1)), (2, (0, a2)), (3, (0, a3)), (4, (0, a4)), (5, (0, a5)), (6, (0, a6))] [] σ 0 0 Q := by
  unfold f_X8_spreads_59 at h
  refine r_iinc (L' := [(6, (0, (w32 (a6 + 1)))), (0, (4, a0)), (1, (0, a1)), (2, (0, a2)), (3, (0, a3)), (4, (0, a4)), (5, (0, a5))]) 6 dX8_spreads_59 rfl (by decide) rfl ?_
  refine r_goto 6 dX8_spreads_62 (by decide) ?_
  refine r_weak (L' := [(0, (4, a0)), (1, (0, a1)), (2, (0, a2)), (3, (0, a3)), (4, (0, a4)), (5, (0, a5)), (6, (0, (w32 (a6 + 1))))]) [1, 2, 3, 4, 5, 6, 0] rfl ?_
  exact hr6 _ _ _ _ _ _ _ _ h

set_option maxRecDepth 100000 in
set_option maxHeartbeats 4000000 in
theorem t_X8_spreads_56 {g : zF} (hl0 : g.2.2.2.1.stackTraces = false) {Q : zR × zS → Prop} (r6 : Int → Int → Int → Int → Int → Int → Int → zS → zFn) (hr6 : ∀ b0 b1 b2 b3 b4 b5 b6 τ, zo (r6 b0 b1 b2 b3 b4 b5 b6 τ) Q → zw g Y_X8_spreads R_X8_spreads 6 [(0, (4, b0)), (1, (0, b1)), (2, (0, b2)), (3, (0, b3)), (4, (0, b4)), (5, (0, b5)), (6, (0, b6))] [] τ 0 0 Q) {a0 a1 a2 a3 a4 a6 s0 s1 : Int} {σ : zS} (h : zo (f_X8_spreads_56 r6 a0 a1 a2 a3 a4 a6 s0 s1 σ) Q) : zw g Y_X8_spreads R_X8_spreads 56 [(0, (4, a0)), (1, (0, a1)), (2, (0, a2)), (3, (0, a3)), (4, (0, a4)), (6, (0, a6))] [(0, s1), (0, s0)] σ 0 0 Q := by
  unfold f_X8_spreads_56 at h
  refine r_iadd dX8_spreads_56 ?_
  refine r_istore (L' := [(5, (0, (w32 (s0 + s1)))), (0, (4, a0)), (1, (0, a1)), (2, (0, a2)), (3, (0, a3)), (4, (0, a4)), (6, (0, a6))]) dX8_spreads_57 (by decide) rfl ?_
  refine r_weak (L' := [(0, (4, a0)), (1, (0, a1)), (2, (0, a2)), (3, (0, a3)), (4, (0, a4)), (5, (0, (w32 (s0 + s1)))), (6, (0, a6))]) [1, 2, 3, 4, 5, 0, 6] rfl ?_
  exact t_X8_spreads_59 hl0 r6 hr6 h

set_option maxRecDepth 100000 in
set_option maxHeartbeats 4000000 in
theorem t_X8_spreads_6 {g : zF} (hl0 : g.2.2.2.1.stackTraces = false) {Q : zR × zS → Prop}   : ∀ (n : Nat) (a0 a1 a2 a3 a4 a5 a6 : Int) (σ : zS), zo (f_X8_spreads_6  n a0 a1 a2 a3 a4 a5 a6 σ) Q → zw g Y_X8_spreads R_X8_spreads 6 [(0, (4, a0)), (1, (0, a1)), (2, (0, a2)), (3, (0, a3)), (4, (0, a4)), (5, (0, a5)), (6, (0, a6))] [] σ 0 0 Q := by
  intro n
  induction n with
  | zero => intro a0 a1 a2 a3 a4 a5 a6 σ h; obtain ⟨r, h, -⟩ := h; cases h
  | succ n ih =>
    intro a0 a1 a2 a3 a4 a5 a6 σ h
    unfold f_X8_spreads_6 at h
    refine r_iload 6 dX8_spreads_6 rfl ?_
    refine r_aload_n 0 dX8_spreads_8 rfl ?_
    refine r_callV (K' := Y_X8_agents) (R' := R_X8_agents) (idx := 66) (n := 0) (b := a0) (as := []) (rest := [(0, a6)]) (C' := 0) (D' := 0) (cn := 8) rfl k0_X8_agents kV_X8_agents kl_X8_66 ⟨by decide, by decide⟩ dX8_spreads_9 rfl rfl (Nat.le_of_ble_eq_true rfl) (by decide) (by decide) rfl h (fun r hr => m_X8_agents hl0 ⟨r, hr, hr⟩) (fun x1 τ2 _ h => ?_)
    refine r_icmp_ge 65 dX8_spreads_12 (by decide) h (fun h => ?_) (fun h => ?_)
    · refine r_iload 5 dX8_spreads_65 rfl ?_
      exact r_iret rfl dX8_spreads_67 h
    · refine r_aload_n 0 dX8_spreads_15 rfl ?_
      refine r_iload_n 1 dX8_spreads_16 rfl ?_
      refine r_iload 6 dX8_spreads_17 rfl ?_
      refine r_callV (K' := Y_X8_areLinked) (R' := R_X8_areLinked) (idx := 131) (n := 2) (b := a0) (as := [(0, a1), (0, a6)]) (rest := []) (C' := 0) (D' := 0) (cn := 8) rfl k0_X8_areLinked kV_X8_areLinked kl_X8_131 ⟨by decide, by decide⟩ dX8_spreads_19 rfl rfl (Nat.le_of_ble_eq_true rfl) (by decide) (by decide) rfl h (fun r hr => m_X8_areLinked hl0 ⟨r, hr, hr⟩) (fun x3 τ4 _ h => ?_)
      refine r_if_eq 59 dX8_spreads_22 (by decide) h (fun h => ?_) (fun h => ?_)
      · exact t_X8_spreads_59 hl0 (f_X8_spreads_6  n) (fun b0 b1 b2 b3 b4 b5 b6 τ h => ih b0 b1 b2 b3 b4 b5 b6 τ h) h
      · refine r_iload 6 dX8_spreads_25 rfl ?_
        refine r_iload_n 3 dX8_spreads_27 rfl ?_
        refine r_icmp_eq 59 dX8_spreads_28 (by decide) h (fun h => ?_) (fun h => ?_)
        · exact t_X8_spreads_59 hl0 (f_X8_spreads_6  n) (fun b0 b1 b2 b3 b4 b5 b6 τ h => ih b0 b1 b2 b3 b4 b5 b6 τ h) h
        · refine r_iload 6 dX8_spreads_31 rfl ?_
          refine r_iload 4 dX8_spreads_33 rfl ?_
          refine r_icmp_eq 59 dX8_spreads_35 (by decide) h (fun h => ?_) (fun h => ?_)
          · exact t_X8_spreads_59 hl0 (f_X8_spreads_6  n) (fun b0 b1 b2 b3 b4 b5 b6 τ h => ih b0 b1 b2 b3 b4 b5 b6 τ h) h
          · refine r_iload 5 dX8_spreads_38 rfl ?_
            refine r_aload_n 0 dX8_spreads_40 rfl ?_
            refine r_iload_n 1 dX8_spreads_41 rfl ?_
            refine r_iload_n 2 dX8_spreads_42 rfl ?_
            refine r_iload 6 dX8_spreads_43 rfl ?_
            refine r_callV (K' := Y_X8_sends) (R' := R_X8_sends) (idx := 449) (n := 3) (b := a0) (as := [(0, a1), (0, a2), (0, a6)]) (rest := [(0, a5)]) (C' := 0) (D' := 0) (cn := 8) rfl k0_X8_sends kV_X8_sends kl_X8_449 ⟨by decide, by decide⟩ dX8_spreads_45 rfl rfl (Nat.le_of_ble_eq_true rfl) (by decide) (by decide) rfl h (fun r hr => m_X8_sends hl0 ⟨r, hr, hr⟩) (fun x5 τ6 _ h => ?_)
            refine r_if_eq 55 dX8_spreads_48 (by decide) h (fun h => ?_) (fun h => ?_)
            · refine r_iconst (v := 0) dX8_spreads_55 rfl rfl ?_
              refine r_weak (L' := [(0, (4, a0)), (1, (0, a1)), (2, (0, a2)), (3, (0, a3)), (4, (0, a4)), (6, (0, a6))]) [0, 1, 2, 3, 4, 6] rfl ?_
              exact t_X8_spreads_56 hl0 (f_X8_spreads_6  n) (fun b0 b1 b2 b3 b4 b5 b6 τ h => ih b0 b1 b2 b3 b4 b5 b6 τ h) h
            · refine r_iconst (v := 1) dX8_spreads_51 rfl rfl ?_
              refine r_goto 56 dX8_spreads_52 (by decide) ?_
              refine r_weak (L' := [(0, (4, a0)), (1, (0, a1)), (2, (0, a2)), (3, (0, a3)), (4, (0, a4)), (6, (0, a6))]) [0, 1, 2, 3, 4, 6] rfl ?_
              exact t_X8_spreads_56 hl0 (f_X8_spreads_6  n) (fun b0 b1 b2 b3 b4 b5 b6 τ h => ih b0 b1 b2 b3 b4 b5 b6 τ h) h

set_option maxRecDepth 100000 in
set_option maxHeartbeats 4000000 in
theorem t_X8_spreads {g : zF} (hl0 : g.2.2.2.1.stackTraces = false) {Q : zR × zS → Prop}   {a0 a1 a2 a3 a4 : Int} {σ : zS} (h : zo (f_X8_spreads  a0 a1 a2 a3 a4 σ) Q) : zw g Y_X8_spreads R_X8_spreads 0 [(0, (4, a0)), (1, (0, a1)), (2, (0, a2)), (3, (0, a3)), (4, (0, a4))] [] σ 0 0 Q := by
  unfold f_X8_spreads at h
  refine r_iconst (v := 0) dX8_spreads_0 rfl rfl ?_
  refine r_istore (L' := [(5, (0, 0)), (0, (4, a0)), (1, (0, a1)), (2, (0, a2)), (3, (0, a3)), (4, (0, a4))]) dX8_spreads_1 (by decide) rfl ?_
  refine r_iconst (v := 0) dX8_spreads_3 rfl rfl ?_
  refine r_istore (L' := [(6, (0, 0)), (5, (0, 0)), (0, (4, a0)), (1, (0, a1)), (2, (0, a2)), (3, (0, a3)), (4, (0, a4))]) dX8_spreads_4 (by decide) rfl ?_
  refine r_weak (L' := [(0, (4, a0)), (1, (0, a1)), (2, (0, a2)), (3, (0, a3)), (4, (0, a4)), (5, (0, 0)), (6, (0, 0))]) [2, 3, 4, 5, 6, 1, 0] rfl ?_
  exact t_X8_spreads_6 hl0   zFU _ _ _ _ _ _ _ _ h
theorem m_X8_spreads {g : zF} (hl0 : g.2.2.2.1.stackTraces = false) {Q : zR × zS → Prop} {a0 a1 a2 a3 a4 : Int} {σ : zS} (h : zo (f_X8_spreads a0 a1 a2 a3 a4 σ) Q) : zm g Y_X8_spreads R_X8_spreads [(4, a0), (0, a1), (0, a2), (0, a3), (0, a4)] σ Q := zm_of (by decide) rfl (Nat.le_of_ble_eq_true rfl) (t_X8_spreads hl0 h)


/- X8_doRelay -/

set_option maxRecDepth 100000 in
set_option maxHeartbeats 4000000 in
theorem t_X8_doRelay_53 {g : zF} (hl0 : g.2.2.2.1.stackTraces = false) {Q : zR × zS → Prop} (r4 : Int → Int → Int → Int → zS → zFn) (hr4 : ∀ b0 b1 b2 b3 τ, zo (r4 b0 b1 b2 b3 τ) Q → zw g Y_X8_doRelay R_X8_doRelay 4 [(0, (4, b0)), (1, (0, b1)), (2, (0, b2)), (3, (0, b3))] [] τ 0 0 Q) {a0 a1 a3 s0 s1 : Int} {σ : zS} (h : zo (f_X8_doRelay_53 r4 a0 a1 a3 s0 s1 σ) Q) : zw g Y_X8_doRelay R_X8_doRelay 53 [(0, (4, a0)), (1, (0, a1)), (3, (0, a3))] [(0, s1), (0, s0)] σ 0 0 Q := by
  unfold f_X8_doRelay_53 at h
  refine r_iadd dX8_doRelay_53 ?_
  refine r_istore_n (L' := [(2, (0, (w32 (s0 + s1)))), (0, (4, a0)), (1, (0, a1)), (3, (0, a3))]) dX8_doRelay_54 (by decide) rfl ?_
  refine r_iinc (L' := [(3, (0, (w32 (a3 + 1)))), (2, (0, (w32 (s0 + s1)))), (0, (4, a0)), (1, (0, a1))]) 3 dX8_doRelay_55 rfl (by decide) rfl ?_
  refine r_goto 4 dX8_doRelay_58 (by decide) ?_
  refine r_weak (L' := [(0, (4, a0)), (1, (0, a1)), (2, (0, (w32 (s0 + s1)))), (3, (0, (w32 (a3 + 1))))]) [2, 3, 1, 0] rfl ?_
  exact hr4 _ _ _ _ _ h

set_option maxRecDepth 100000 in
set_option maxHeartbeats 4000000 in
theorem t_X8_doRelay_4 {g : zF} (hl0 : g.2.2.2.1.stackTraces = false) {Q : zR × zS → Prop}   : ∀ (n : Nat) (a0 a1 a2 a3 : Int) (σ : zS), zo (f_X8_doRelay_4  n a0 a1 a2 a3 σ) Q → zw g Y_X8_doRelay R_X8_doRelay 4 [(0, (4, a0)), (1, (0, a1)), (2, (0, a2)), (3, (0, a3))] [] σ 0 0 Q := by
  intro n
  induction n with
  | zero => intro a0 a1 a2 a3 σ h; obtain ⟨r, h, -⟩ := h; cases h
  | succ n ih =>
    intro a0 a1 a2 a3 σ h
    unfold f_X8_doRelay_4 at h
    refine r_iload_n 3 dX8_doRelay_4 rfl ?_
    refine r_aload_n 0 dX8_doRelay_5 rfl ?_
    refine r_iload_n 1 dX8_doRelay_6 rfl ?_
    refine r_callV (K' := Y_X8_manyOf) (R' := R_X8_manyOf) (idx := 92) (n := 1) (b := a0) (as := [(0, a1)]) (rest := [(0, a3)]) (C' := 0) (D' := 0) (cn := 8) rfl k0_X8_manyOf kV_X8_manyOf kl_X8_92 ⟨by decide, by decide⟩ dX8_doRelay_7 rfl rfl (Nat.le_of_ble_eq_true rfl) (by decide) (by decide) rfl h (fun r hr => m_X8_manyOf hl0 ⟨r, hr, hr⟩) (fun x1 τ2 _ h => ?_)
    refine r_icmp_ge 61 dX8_doRelay_10 (by decide) h (fun h => ?_) (fun h => ?_)
    · refine r_iload_n 2 dX8_doRelay_61 rfl ?_
      exact r_iret rfl dX8_doRelay_62 h
    · refine r_iload_n 2 dX8_doRelay_13 rfl ?_
      refine r_aload_n 0 dX8_doRelay_14 rfl ?_
      refine r_iload_n 1 dX8_doRelay_15 rfl ?_
      refine r_iload_n 3 dX8_doRelay_16 rfl ?_
      refine r_iconst (v := 2) dX8_doRelay_17 rfl rfl ?_
      refine r_callV (K' := Y_X8_ofReport) (R' := R_X8_ofReport) (idx := 95) (n := 3) (b := a0) (as := [(0, a1), (0, a3), (0, 2)]) (rest := [(0, a2)]) (C' := 0) (D' := 0) (cn := 8) rfl k0_X8_ofReport kV_X8_ofReport kl_X8_95 ⟨by decide, by decide⟩ dX8_doRelay_18 rfl rfl (Nat.le_of_ble_eq_true rfl) (by decide) (by decide) rfl h (fun r hr => m_X8_ofReport hl0 ⟨r, hr, hr⟩) (fun x3 τ4 _ h => ?_)
      refine r_aload_n 0 dX8_doRelay_21 rfl ?_
      refine r_iconst (v := 4) dX8_doRelay_22 rfl rfl ?_
      refine r_callV (K' := Y_X8_rule) (R' := R_X8_rule) (idx := 110) (n := 1) (b := a0) (as := [(0, 4)]) (rest := [(0, x3), (0, a2)]) (C' := 0) (D' := 0) (cn := 8) rfl k0_X8_rule kV_X8_rule kl_X8_110 ⟨by decide, by decide⟩ dX8_doRelay_23 rfl rfl (Nat.le_of_ble_eq_true rfl) (by decide) (by decide) rfl h (fun r hr => m_X8_rule hl0 ⟨r, hr, hr⟩) (fun x5 τ6 _ h => ?_)
      refine r_icmp_ge 52 dX8_doRelay_26 (by decide) h (fun h => ?_) (fun h => ?_)
      · refine r_iconst (v := 0) dX8_doRelay_52 rfl rfl ?_
        refine r_weak (L' := [(0, (4, a0)), (1, (0, a1)), (3, (0, a3))]) [0, 1, 3] rfl ?_
        exact t_X8_doRelay_53 hl0 (f_X8_doRelay_4  n) (fun b0 b1 b2 b3 τ h => ih b0 b1 b2 b3 τ h) h
      · refine r_aload_n 0 dX8_doRelay_29 rfl ?_
        refine r_iload_n 1 dX8_doRelay_30 rfl ?_
        refine r_iload_n 3 dX8_doRelay_31 rfl ?_
        refine r_aload_n 0 dX8_doRelay_32 rfl ?_
        refine r_iload_n 1 dX8_doRelay_33 rfl ?_
        refine r_iload_n 3 dX8_doRelay_34 rfl ?_
        refine r_iconst (v := 0) dX8_doRelay_35 rfl rfl ?_
        refine r_callV (K' := Y_X8_ofReport) (R' := R_X8_ofReport) (idx := 95) (n := 3) (b := a0) (as := [(0, a1), (0, a3), (0, 0)]) (rest := [(0, a3), (0, a1), (4, a0), (0, a2)]) (C' := 0) (D' := 0) (cn := 8) rfl k0_X8_ofReport kV_X8_ofReport kl_X8_95 ⟨by decide, by decide⟩ dX8_doRelay_36 rfl rfl (Nat.le_of_ble_eq_true rfl) (by decide) (by decide) rfl h (fun r hr => m_X8_ofReport hl0 ⟨r, hr, hr⟩) (fun x7 τ8 _ h => ?_)
        refine r_aload_n 0 dX8_doRelay_39 rfl ?_
        refine r_iload_n 1 dX8_doRelay_40 rfl ?_
        refine r_iload_n 3 dX8_doRelay_41 rfl ?_
        refine r_iconst (v := 1) dX8_doRelay_42 rfl rfl ?_
        refine r_callV (K' := Y_X8_ofReport) (R' := R_X8_ofReport) (idx := 95) (n := 3) (b := a0) (as := [(0, a1), (0, a3), (0, 1)]) (rest := [(0, x7), (0, a3), (0, a1), (4, a0), (0, a2)]) (C' := 0) (D' := 0) (cn := 8) rfl k0_X8_ofReport kV_X8_ofReport kl_X8_95 ⟨by decide, by decide⟩ dX8_doRelay_43 rfl rfl (Nat.le_of_ble_eq_true rfl) (by decide) (by decide) rfl h (fun r hr => m_X8_ofReport hl0 ⟨r, hr, hr⟩) (fun x9 τ10 _ h => ?_)
        refine r_callV (K' := Y_X8_spreads) (R' := R_X8_spreads) (idx := 452) (n := 4) (b := a0) (as := [(0, a1), (0, a3), (0, x7), (0, x9)]) (rest := [(0, a2)]) (C' := 0) (D' := 0) (cn := 8) rfl k0_X8_spreads kV_X8_spreads kl_X8_452 ⟨by decide, by decide⟩ dX8_doRelay_46 rfl rfl (Nat.le_of_ble_eq_true rfl) (by decide) (by decide) rfl h (fun r hr => m_X8_spreads hl0 ⟨r, hr, hr⟩) (fun x11 τ12 _ h => ?_)
        refine r_goto 53 dX8_doRelay_49 (by decide) ?_
        refine r_weak (L' := [(0, (4, a0)), (1, (0, a1)), (3, (0, a3))]) [0, 1, 3] rfl ?_
        exact t_X8_doRelay_53 hl0 (f_X8_doRelay_4  n) (fun b0 b1 b2 b3 τ h => ih b0 b1 b2 b3 τ h) h

set_option maxRecDepth 100000 in
set_option maxHeartbeats 4000000 in
theorem t_X8_doRelay {g : zF} (hl0 : g.2.2.2.1.stackTraces = false) {Q : zR × zS → Prop}   {a0 a1 : Int} {σ : zS} (h : zo (f_X8_doRelay  a0 a1 σ) Q) : zw g Y_X8_doRelay R_X8_doRelay 0 [(0, (4, a0)), (1, (0, a1))] [] σ 0 0 Q := by
  unfold f_X8_doRelay at h
  refine r_iconst (v := 0) dX8_doRelay_0 rfl rfl ?_
  refine r_istore_n (L' := [(2, (0, 0)), (0, (4, a0)), (1, (0, a1))]) dX8_doRelay_1 (by decide) rfl ?_
  refine r_iconst (v := 0) dX8_doRelay_2 rfl rfl ?_
  refine r_istore_n (L' := [(3, (0, 0)), (2, (0, 0)), (0, (4, a0)), (1, (0, a1))]) dX8_doRelay_3 (by decide) rfl ?_
  refine r_weak (L' := [(0, (4, a0)), (1, (0, a1)), (2, (0, 0)), (3, (0, 0))]) [2, 3, 1, 0] rfl ?_
  exact t_X8_doRelay_4 hl0   zFU _ _ _ _ _ h
theorem m_X8_doRelay {g : zF} (hl0 : g.2.2.2.1.stackTraces = false) {Q : zR × zS → Prop} {a0 a1 : Int} {σ : zS} (h : zo (f_X8_doRelay a0 a1 σ) Q) : zm g Y_X8_doRelay R_X8_doRelay [(4, a0), (0, a1)] σ Q := zm_of (by decide) rfl (Nat.le_of_ble_eq_true rfl) (t_X8_doRelay hl0 h)


/- X8_doRound -/

set_option maxRecDepth 100000 in
set_option maxHeartbeats 4000000 in
theorem t_X8_doRound_22 {g : zF} (hl0 : g.2.2.2.1.stackTraces = false) {Q : zR × zS → Prop}   {a0 : Int} {σ : zS} (h : zo (f_X8_doRound_22  a0 σ) Q) : zw g Y_X8_doRound R_X8_doRound 22 [(0, (4, a0))] [] σ 0 0 Q := by
  unfold f_X8_doRound_22 at h
  refine r_aload_n 0 dX8_doRound_22 rfl ?_
  refine r_bipush (v := 100) dX8_doRound_23 rfl rfl ?_
  refine r_callV (K' := Y_X8_deliverAll) (R' := R_X8_deliverAll) (idx := 424) (n := 1) (b := a0) (as := [(0, 100)]) (rest := []) (C' := 0) (D' := 0) (cn := 8) rfl k0_X8_deliverAll kV_X8_deliverAll kl_X8_424 ⟨by decide, by decide⟩ dX8_doRound_25 rfl rfl (Nat.le_of_ble_eq_true rfl) (by decide) (by decide) rfl h (fun r hr => m_X8_deliverAll hl0 ⟨r, hr, hr⟩) (fun x1 τ2 _ h => ?_)
  exact r_iret rfl dX8_doRound_28 h

set_option maxRecDepth 100000 in
set_option maxHeartbeats 4000000 in
theorem t_X8_doRound_2 {g : zF} (hl0 : g.2.2.2.1.stackTraces = false) {Q : zR × zS → Prop}   : ∀ (n : Nat) (a0 a1 : Int) (σ : zS), zo (f_X8_doRound_2  n a0 a1 σ) Q → zw g Y_X8_doRound R_X8_doRound 2 [(0, (4, a0)), (1, (0, a1))] [] σ 0 0 Q := by
  intro n
  induction n with
  | zero => intro a0 a1 σ h; obtain ⟨r, h, -⟩ := h; cases h
  | succ n ih =>
    intro a0 a1 σ h
    unfold f_X8_doRound_2 at h
    refine r_iload_n 1 dX8_doRound_2 rfl ?_
    refine r_aload_n 0 dX8_doRound_3 rfl ?_
    refine r_callV (K' := Y_X8_agents) (R' := R_X8_agents) (idx := 66) (n := 0) (b := a0) (as := []) (rest := [(0, a1)]) (C' := 0) (D' := 0) (cn := 8) rfl k0_X8_agents kV_X8_agents kl_X8_66 ⟨by decide, by decide⟩ dX8_doRound_4 rfl rfl (Nat.le_of_ble_eq_true rfl) (by decide) (by decide) rfl h (fun r hr => m_X8_agents hl0 ⟨r, hr, hr⟩) (fun x1 τ2 _ h => ?_)
    refine r_icmp_ge 22 dX8_doRound_7 (by decide) h (fun h => ?_) (fun h => ?_)
    · refine r_weak (L' := [(0, (4, a0))]) [0] rfl ?_
      exact t_X8_doRound_22 hl0   h
    · refine r_aload_n 0 dX8_doRound_10 rfl ?_
      refine r_iload_n 1 dX8_doRound_11 rfl ?_
      refine r_callV (K' := Y_X8_doRelay) (R' := R_X8_doRelay) (idx := 421) (n := 1) (b := a0) (as := [(0, a1)]) (rest := []) (C' := 0) (D' := 0) (cn := 8) rfl k0_X8_doRelay kV_X8_doRelay kl_X8_421 ⟨by decide, by decide⟩ dX8_doRound_12 rfl rfl (Nat.le_of_ble_eq_true rfl) (by decide) (by decide) rfl h (fun r hr => m_X8_doRelay hl0 ⟨r, hr, hr⟩) (fun x3 τ4 _ h => ?_)
      refine r_istore_n (L' := [(2, (0, x3)), (0, (4, a0)), (1, (0, a1))]) dX8_doRound_15 (by decide) rfl ?_
      refine r_iinc (L' := [(1, (0, (w32 (a1 + 1)))), (2, (0, x3)), (0, (4, a0))]) 2 dX8_doRound_16 rfl (by decide) rfl ?_
      refine r_goto 2 dX8_doRound_19 (by decide) ?_
      refine r_weak (L' := [(0, (4, a0)), (1, (0, (w32 (a1 + 1))))]) [2, 0] rfl ?_
      exact ih _ _ _ h

set_option maxRecDepth 100000 in
set_option maxHeartbeats 4000000 in
theorem t_X8_doRound {g : zF} (hl0 : g.2.2.2.1.stackTraces = false) {Q : zR × zS → Prop}   {a0 : Int} {σ : zS} (h : zo (f_X8_doRound  a0 σ) Q) : zw g Y_X8_doRound R_X8_doRound 0 [(0, (4, a0))] [] σ 0 0 Q := by
  unfold f_X8_doRound at h
  refine r_iconst (v := 0) dX8_doRound_0 rfl rfl ?_
  refine r_istore_n (L' := [(1, (0, 0)), (0, (4, a0))]) dX8_doRound_1 (by decide) rfl ?_
  refine r_weak (L' := [(0, (4, a0)), (1, (0, 0))]) [1, 0] rfl ?_
  exact t_X8_doRound_2 hl0   zFU _ _ _ h
theorem m_X8_doRound {g : zF} (hl0 : g.2.2.2.1.stackTraces = false) {Q : zR × zS → Prop} {a0 : Int} {σ : zS} (h : zo (f_X8_doRound a0 σ) Q) : zm g Y_X8_doRound R_X8_doRound [(4, a0)] σ Q := zm_of (by decide) rfl (Nat.le_of_ble_eq_true rfl) (t_X8_doRound hl0 h)


/- X8_informed -/

set_option maxRecDepth 100000 in
set_option maxHeartbeats 4000000 in
theorem t_X8_informed_95 {g : zF} (hl0 : g.2.2.2.1.stackTraces = false) {Q : zR × zS → Prop}   {a0 a4 : Int} {σ : zS} (h : zo (f_X8_informed_95  a0 a4 σ) Q) : zw g Y_X8_informed R_X8_informed 95 [(0, (4, a0)), (4, (0, a4))] [] σ 0 0 Q := by
  unfold f_X8_informed_95 at h
  refine r_aload_n 0 dX8_informed_95 rfl ?_
  refine r_iload 1 dX8_informed_96 rfl ?_
  refine r_callV (K' := Y_X8_layBack) (R' := R_X8_layBack) (idx := 433) (n := 1) (b := a0) (as := [(0, a4)]) (rest := []) (C' := 0) (D' := 0) (cn := 8) rfl k0_X8_layBack kV_X8_layBack kl_X8_433 ⟨by decide, by decide⟩ dX8_informed_98 rfl rfl (Nat.le_of_ble_eq_true rfl) (by decide) (by decide) rfl h (fun r hr => m_X8_layBack hl0 ⟨r, hr, hr⟩) (fun x1 τ2 _ h => ?_)
  exact r_iret rfl dX8_informed_101 h

set_option maxRecDepth 100000 in
set_option maxHeartbeats 4000000 in
theorem t_X8_informed_86 {g : zF} (hl0 : g.2.2.2.1.stackTraces = false) {Q : zR × zS → Prop} (r55 : Int → Int → Int → Int → Int → zS → zFn) (hr55 : ∀ b0 b1 b2 b4 b5 τ, zo (r55 b0 b1 b2 b4 b5 τ) Q → zw g Y_X8_informed R_X8_informed 55 [(0, (4, b0)), (1, (0, b1)), (2, (0, b2)), (4, (0, b4)), (5, (0, b5))] [] τ 0 0 Q) {a0 a1 a2 a5 s0 s1 : Int} {σ : zS} (h : zo (f_X8_informed_86 r55 a0 a1 a2 a5 s0 s1 σ) Q) : zw g Y_X8_informed R_X8_informed 86 [(0, (4, a0)), (1, (0, a1)), (2, (0, a2)), (5, (0, a5))] [(0, s1), (0, s0)] σ 0 0 Q := by
  unfold f_X8_informed_86 at h
  refine r_ior dX8_informed_86 ?_
  refine r_istore (L' := [(4, (0, (zor s0 s1))), (0, (4, a0)), (1, (0, a1)), (2, (0, a2)), (5, (0, a5))]) dX8_informed_87 (by decide) rfl ?_
  refine r_iinc (L' := [(5, (0, (w32 (a5 + 1)))), (4, (0, (zor s0 s1))), (0, (4, a0)), (1, (0, a1)), (2, (0, a2))]) 4 dX8_informed_89 rfl (by decide) rfl ?_
  refine r_goto 55 dX8_informed_92 (by decide) ?_
  refine r_weak (L' := [(0, (4, a0)), (1, (0, a1)), (2, (0, a2)), (4, (0, (zor s0 s1))), (5, (0, (w32 (a5 + 1))))]) [2, 3, 4, 1, 0] rfl ?_
  exact hr55 _ _ _ _ _ _ h

set_option maxRecDepth 100000 in
set_option maxHeartbeats 4000000 in
theorem t_X8_informed_55 {g : zF} (hl0 : g.2.2.2.1.stackTraces = false) {Q : zR × zS → Prop}   : ∀ (n : Nat) (a0 a1 a2 a4 a5 : Int) (σ : zS), zo (f_X8_informed_55  n a0 a1 a2 a4 a5 σ) Q → zw g Y_X8_informed R_X8_informed 55 [(0, (4, a0)), (1, (0, a1)), (2, (0, a2)), (4, (0, a4)), (5, (0, a5))] [] σ 0 0 Q := by
  intro n
  induction n with
  | zero => intro a0 a1 a2 a4 a5 σ h; obtain ⟨r, h, -⟩ := h; cases h
  | succ n ih =>
    intro a0 a1 a2 a4 a5 σ h
    unfold f_X8_informed_55 at h
    refine r_iload 4 dX8_informed_55 rfl ?_
    refine r_aload_n 0 dX8_informed_57 rfl ?_
    refine r_callV (K' := Y_X8_agents) (R' := R_X8_agents) (idx := 66) (n := 0) (b := a0) (as := []) (rest := [(0, a5)]) (C' := 0) (D' := 0) (cn := 8) rfl k0_X8_agents kV_X8_agents kl_X8_66 ⟨by decide, by decide⟩ dX8_informed_58 rfl rfl (Nat.le_of_ble_eq_true rfl) (by decide) (by decide) rfl h (fun r hr => m_X8_agents hl0 ⟨r, hr, hr⟩) (fun x1 τ2 _ h => ?_)
    refine r_icmp_ge 95 dX8_informed_61 (by decide) h (fun h => ?_) (fun h => ?_)
    · refine r_weak (L' := [(0, (4, a0)), (4, (0, a4))]) [0, 3] rfl ?_
      exact t_X8_informed_95 hl0   h
    · refine r_iload 3 dX8_informed_64 rfl ?_
      refine r_aload_n 0 dX8_informed_66 rfl ?_
      refine r_iload 4 dX8_informed_67 rfl ?_
      refine r_iload_n 1 dX8_informed_69 rfl ?_
      refine r_iload_n 2 dX8_informed_70 rfl ?_
      refine r_callV (K' := Y_X8_reportOf) (R' := R_X8_reportOf) (idx := 99) (n := 3) (b := a0) (as := [(0, a5), (0, a1), (0, a2)]) (rest := [(0, a4)]) (C' := 0) (D' := 0) (cn := 8) rfl k0_X8_reportOf kV_X8_reportOf kl_X8_99 ⟨by decide, by decide⟩ dX8_informed_71 rfl rfl (Nat.le_of_ble_eq_true rfl) (by decide) (by decide) rfl h (fun r hr => m_X8_reportOf hl0 ⟨r, hr, hr⟩) (fun x3 τ4 _ h => ?_)
      refine r_iconst (v := (-1)) dX8_informed_74 rfl rfl ?_
      refine r_icmp_ne 82 dX8_informed_75 (by decide) h (fun h => ?_) (fun h => ?_)
      · refine r_iconst (v := 1) dX8_informed_82 rfl rfl ?_
        refine r_iload 4 dX8_informed_83 rfl ?_
        refine r_ishl dX8_informed_85 ?_
        refine r_weak (L' := [(0, (4, a0)), (1, (0, a1)), (2, (0, a2)), (5, (0, a5))]) [0, 1, 2, 4] rfl ?_
        exact t_X8_informed_86 hl0 (f_X8_informed_55  n) (fun b0 b1 b2 b4 b5 τ h => ih b0 b1 b2 b4 b5 τ h) h
      · refine r_iconst (v := 0) dX8_informed_78 rfl rfl ?_
        refine r_goto 86 dX8_informed_79 (by decide) ?_
        refine r_weak (L' := [(0, (4, a0)), (1, (0, a1)), (2, (0, a2)), (5, (0, a5))]) [0, 1, 2, 4] rfl ?_
        exact t_X8_informed_86 hl0 (f_X8_informed_55  n) (fun b0 b1 b2 b4 b5 τ h => ih b0 b1 b2 b4 b5 τ h) h

set_option maxRecDepth 100000 in
set_option maxHeartbeats 4000000 in
theorem t_X8_informed_49 {g : zF} (hl0 : g.2.2.2.1.stackTraces = false) {Q : zR × zS → Prop}   {a0 a1 a2 : Int} {σ : zS} (h : zo (f_X8_informed_49  a0 a1 a2 σ) Q) : zw g Y_X8_informed R_X8_informed 49 [(0, (4, a0)), (1, (0, a1)), (2, (0, a2))] [] σ 0 0 Q := by
  unfold f_X8_informed_49 at h
  refine r_iconst (v := 0) dX8_informed_49 rfl rfl ?_
  refine r_istore (L' := [(4, (0, 0)), (0, (4, a0)), (1, (0, a1)), (2, (0, a2))]) dX8_informed_50 (by decide) rfl ?_
  refine r_iconst (v := 0) dX8_informed_52 rfl rfl ?_
  refine r_istore (L' := [(5, (0, 0)), (4, (0, 0)), (0, (4, a0)), (1, (0, a1)), (2, (0, a2))]) dX8_informed_53 (by decide) rfl ?_
  refine r_weak (L' := [(0, (4, a0)), (1, (0, a1)), (2, (0, a2)), (4, (0, 0)), (5, (0, 0))]) [2, 3, 4, 1, 0] rfl ?_
  exact t_X8_informed_55 hl0   zFU _ _ _ _ _ _ h

set_option maxRecDepth 100000 in
set_option maxHeartbeats 4000000 in
theorem t_X8_informed_31 {g : zF} (hl0 : g.2.2.2.1.stackTraces = false) {Q : zR × zS → Prop}   : ∀ (n : Nat) (a0 a1 a2 a3 a4 : Int) (σ : zS), zo (f_X8_informed_31  n a0 a1 a2 a3 a4 σ) Q → zw g Y_X8_informed R_X8_informed 31 [(0, (4, a0)), (1, (0, a1)), (2, (0, a2)), (3, (0, a3)), (4, (0, a4))] [] σ 0 0 Q := by
  intro n
  induction n with
  | zero => intro a0 a1 a2 a3 a4 σ h; obtain ⟨r, h, -⟩ := h; cases h
  | succ n ih =>
    intro a0 a1 a2 a3 a4 σ h
    unfold f_X8_informed_31 at h
    refine r_iload 4 dX8_informed_31 rfl ?_
    refine r_iload_n 3 dX8_informed_33 rfl ?_
    refine r_icmp_ge 49 dX8_informed_34 (by decide) h (fun h => ?_) (fun h => ?_)
    · refine r_weak (L' := [(0, (4, a0)), (1, (0, a1)), (2, (0, a2))]) [0, 1, 2] rfl ?_
      exact t_X8_informed_49 hl0   h
    · refine r_aload_n 0 dX8_informed_37 rfl ?_
      refine r_callV (K' := Y_X8_doRound) (R' := R_X8_doRound) (idx := 430) (n := 0) (b := a0) (as := []) (rest := []) (C' := 0) (D' := 0) (cn := 8) rfl k0_X8_doRound kV_X8_doRound kl_X8_430 ⟨by decide, by decide⟩ dX8_informed_38 rfl rfl (Nat.le_of_ble_eq_true rfl) (by decide) (by decide) rfl h (fun r hr => m_X8_doRound hl0 ⟨r, hr, hr⟩) (fun x1 τ2 _ h => ?_)
      refine r_istore (L' := [(5, (0, x1)), (0, (4, a0)), (1, (0, a1)), (2, (0, a2)), (3, (0, a3)), (4, (0, a4))]) dX8_informed_41 (by decide) rfl ?_
      refine r_iinc (L' := [(4, (0, (w32 (a4 + 1)))), (5, (0, x1)), (0, (4, a0)), (1, (0, a1)), (2, (0, a2)), (3, (0, a3))]) 5 dX8_informed_43 rfl (by decide) rfl ?_
      refine r_goto 31 dX8_informed_46 (by decide) ?_
      refine r_weak (L' := [(0, (4, a0)), (1, (0, a1)), (2, (0, a2)), (3, (0, a3)), (4, (0, (w32 (a4 + 1))))]) [2, 3, 4, 5, 0] rfl ?_
      exact ih _ _ _ _ _ _ h

set_option maxRecDepth 100000 in
set_option maxHeartbeats 4000000 in
theorem t_X8_informed {g : zF} (hl0 : g.2.2.2.1.stackTraces = false) {Q : zR × zS → Prop}   {a0 a1 a2 a3 : Int} {σ : zS} (h : zo (f_X8_informed  a0 a1 a2 a3 σ) Q) : zw g Y_X8_informed R_X8_informed 0 [(0, (4, a0)), (1, (0, a1)), (2, (0, a2)), (3, (0, a3))] [] σ 0 0 Q := by
  unfold f_X8_informed at h
  refine r_aload_n 0 dX8_informed_0 rfl ?_
  refine r_aload_n 0 dX8_informed_1 rfl ?_
  refine r_iload_n 1 dX8_informed_2 rfl ?_
  refine r_iload_n 2 dX8_informed_3 rfl ?_
  refine r_callV (K' := Y_X8_areThere) (R' := R_X8_areThere) (idx := 381) (n := 2) (b := a0) (as := [(0, a1), (0, a2)]) (rest := [(4, a0)]) (C' := 0) (D' := 0) (cn := 8) rfl k0_X8_areThere kV_X8_areThere kl_X8_381 ⟨by decide, by decide⟩ dX8_informed_4 rfl rfl (Nat.le_of_ble_eq_true rfl) (by decide) (by decide) rfl h (fun r hr => m_X8_areThere hl0 ⟨r, hr, hr⟩) (fun x1 τ2 _ h => ?_)
  refine r_iload_n 3 dX8_informed_7 rfl ?_
  refine r_i2l dX8_informed_8 ?_
  refine r_lconst dX8_informed_9 ?_
  refine r_ldcL (z := 6) wd_1766 (by decide +kernel) dX8_informed_10 ?_
  refine r_callS (K' := Y_X8_in) (R' := R_X8_in) (idx := 70) (n := 3) (as := [(1, a3), (1, 0), (1, 6)]) (rest := [(0, x1), (4, a0)]) (C' := 0) (D' := 0) rfl k0_X8_in wd_1562 kl_X8_70 ⟨by decide, by decide⟩ dX8_informed_13 rfl rfl (Nat.le_of_ble_eq_true rfl) (by decide) (by decide) h (fun r hr => m_X8_in hl0 ⟨r, hr, hr⟩) (fun x3 τ4 _ h => ?_)
  refine r_callV (K' := Y_X8_passes2) (R' := R_X8_passes2) (idx := 368) (n := 2) (b := a0) (as := [(0, x1), (0, x3)]) (rest := []) (C' := 0) (D' := 0) (cn := 8) rfl k0_X8_passes2 kV_X8_passes2 kl_X8_368 ⟨by decide, by decide⟩ dX8_informed_16 rfl rfl (Nat.le_of_ble_eq_true rfl) (by decide) (by decide) rfl h (fun r hr => m_X8_passes2 hl0 ⟨r, hr, hr⟩) (fun x5 τ6 _ h => ?_)
  refine r_if_ne 24 dX8_informed_19 (by decide) h (fun h => ?_) (fun h => ?_)
  · refine r_aload_n 0 dX8_informed_24 rfl ?_
    refine r_callV (K' := Y_X8_keepAside) (R' := R_X8_keepAside) (idx := 427) (n := 0) (b := a0) (as := []) (rest := []) (C' := 0) (D' := 0) (cn := 8) rfl k0_X8_keepAside kV_X8_keepAside kl_X8_427 ⟨by decide, by decide⟩ dX8_informed_25 rfl rfl (Nat.le_of_ble_eq_true rfl) (by decide) (by decide) rfl h (fun r hr => m_X8_keepAside hl0 ⟨r, hr, hr⟩) (fun _ τ8 _ h => ?_)
    refine r_iconst (v := 0) dX8_informed_28 rfl rfl ?_
    refine r_istore (L' := [(4, (0, 0)), (0, (4, a0)), (1, (0, a1)), (2, (0, a2)), (3, (0, a3))]) dX8_informed_29 (by decide) rfl ?_
    refine r_weak (L' := [(0, (4, a0)), (1, (0, a1)), (2, (0, a2)), (3, (0, a3)), (4, (0, 0))]) [1, 2, 3, 4, 0] rfl ?_
    exact t_X8_informed_31 hl0   zFU _ _ _ _ _ _ h
  · refine r_iconst (v := 0) dX8_informed_22 rfl rfl ?_
    exact r_iret rfl dX8_informed_23 h
theorem m_X8_informed {g : zF} (hl0 : g.2.2.2.1.stackTraces = false) {Q : zR × zS → Prop} {a0 a1 a2 a3 : Int} {σ : zS} (h : zo (f_X8_informed a0 a1 a2 a3 σ) Q) : zm g Y_X8_informed R_X8_informed [(4, a0), (0, a1), (0, a2), (0, a3)] σ Q := zm_of (by decide) rfl (Nat.le_of_ble_eq_true rfl) (t_X8_informed hl0 h)


/- X8_exchange -/

set_option maxRecDepth 100000 in
set_option maxHeartbeats 4000000 in
theorem t_X8_exchange_26 {g : zF} (hl0 : g.2.2.2.1.stackTraces = false) {Q : zR × zS → Prop}   : ∀ (n : Nat) (a0 a1 a2 a3 : Int) (σ : zS), zo (f_X8_exchange_26  n a0 a1 a2 a3 σ) Q → zw g Y_X8_exchange R_X8_exchange 26 [(0, (4, a0)), (1, (0, a1)), (2, (0, a2)), (3, (0, a3))] [] σ 0 0 Q := by
  intro n
  induction n with
  | zero => intro a0 a1 a2 a3 σ h; obtain ⟨r, h, -⟩ := h; cases h
  | succ n ih =>
    intro a0 a1 a2 a3 σ h
    unfold f_X8_exchange_26 at h
    refine r_iload_n 3 dX8_exchange_26 rfl ?_
    refine r_iload_n 1 dX8_exchange_27 rfl ?_
    refine r_icmp_ge 44 dX8_exchange_28 (by decide) h (fun h => ?_) (fun h => ?_)
    · refine r_iload_n 2 dX8_exchange_44 rfl ?_
      exact r_iret rfl dX8_exchange_45 h
    · refine r_iload_n 2 dX8_exchange_31 rfl ?_
      refine r_aload_n 0 dX8_exchange_32 rfl ?_
      refine r_callV (K' := Y_X8_doRound) (R' := R_X8_doRound) (idx := 430) (n := 0) (b := a0) (as := []) (rest := [(0, a2)]) (C' := 0) (D' := 0) (cn := 8) rfl k0_X8_doRound kV_X8_doRound kl_X8_430 ⟨by decide, by decide⟩ dX8_exchange_33 rfl rfl (Nat.le_of_ble_eq_true rfl) (by decide) (by decide) rfl h (fun r hr => m_X8_doRound hl0 ⟨r, hr, hr⟩) (fun x1 τ2 _ h => ?_)
      refine r_iadd dX8_exchange_36 ?_
      refine r_istore_n (L' := [(2, (0, (w32 (a2 + x1)))), (0, (4, a0)), (1, (0, a1)), (3, (0, a3))]) dX8_exchange_37 (by decide) rfl ?_
      refine r_iinc (L' := [(3, (0, (w32 (a3 + 1)))), (2, (0, (w32 (a2 + x1)))), (0, (4, a0)), (1, (0, a1))]) 3 dX8_exchange_38 rfl (by decide) rfl ?_
      refine r_goto 26 dX8_exchange_41 (by decide) ?_
      refine r_weak (L' := [(0, (4, a0)), (1, (0, a1)), (2, (0, (w32 (a2 + x1)))), (3, (0, (w32 (a3 + 1))))]) [2, 3, 1, 0] rfl ?_
      exact ih _ _ _ _ _ h

set_option maxRecDepth 100000 in
set_option maxHeartbeats 4000000 in
theorem t_X8_exchange {g : zF} (hl0 : g.2.2.2.1.stackTraces = false) {Q : zR × zS → Prop}   {a0 a1 : Int} {σ : zS} (h : zo (f_X8_exchange  a0 a1 σ) Q) : zw g Y_X8_exchange R_X8_exchange 0 [(0, (4, a0)), (1, (0, a1))] [] σ 0 0 Q := by
  unfold f_X8_exchange at h
  refine r_aload_n 0 dX8_exchange_0 rfl ?_
  refine r_iload_n 1 dX8_exchange_1 rfl ?_
  refine r_i2l dX8_exchange_2 ?_
  refine r_lconst dX8_exchange_3 ?_
  refine r_ldcL (z := 6) wd_1766 (by decide +kernel) dX8_exchange_4 ?_
  refine r_callS (K' := Y_X8_in) (R' := R_X8_in) (idx := 70) (n := 3) (as := [(1, a1), (1, 1), (1, 6)]) (rest := [(4, a0)]) (C' := 0) (D' := 0) rfl k0_X8_in wd_1562 kl_X8_70 ⟨by decide, by decide⟩ dX8_exchange_7 rfl rfl (Nat.le_of_ble_eq_true rfl) (by decide) (by decide) h (fun r hr => m_X8_in hl0 ⟨r, hr, hr⟩) (fun x1 τ2 _ h => ?_)
  refine r_callV (K' := Y_X8_passes) (R' := R_X8_passes) (idx := 215) (n := 1) (b := a0) (as := [(0, x1)]) (rest := []) (C' := 0) (D' := 0) (cn := 8) rfl k0_X8_passes kV_X8_passes kl_X8_215 ⟨by decide, by decide⟩ dX8_exchange_10 rfl rfl (Nat.le_of_ble_eq_true rfl) (by decide) (by decide) rfl h (fun r hr => m_X8_passes hl0 ⟨r, hr, hr⟩) (fun x3 τ4 _ h => ?_)
  refine r_if_ne 18 dX8_exchange_13 (by decide) h (fun h => ?_) (fun h => ?_)
  · refine r_aload_n 0 dX8_exchange_18 rfl ?_
    refine r_callV (K' := Y_X8_remember) (R' := R_X8_remember) (idx := 344) (n := 0) (b := a0) (as := []) (rest := []) (C' := 0) (D' := 0) (cn := 8) rfl k0_X8_remember kV_X8_remember kl_X8_344 ⟨by decide, by decide⟩ dX8_exchange_19 rfl rfl (Nat.le_of_ble_eq_true rfl) (by decide) (by decide) rfl h (fun r hr => m_X8_remember hl0 ⟨r, hr, hr⟩) (fun _ τ6 _ h => ?_)
    refine r_iconst (v := 0) dX8_exchange_22 rfl rfl ?_
    refine r_istore_n (L' := [(2, (0, 0)), (0, (4, a0)), (1, (0, a1))]) dX8_exchange_23 (by decide) rfl ?_
    refine r_iconst (v := 0) dX8_exchange_24 rfl rfl ?_
    refine r_istore_n (L' := [(3, (0, 0)), (2, (0, 0)), (0, (4, a0)), (1, (0, a1))]) dX8_exchange_25 (by decide) rfl ?_
    refine r_weak (L' := [(0, (4, a0)), (1, (0, a1)), (2, (0, 0)), (3, (0, 0))]) [2, 3, 1, 0] rfl ?_
    exact t_X8_exchange_26 hl0   zFU _ _ _ _ _ h
  · refine r_iconst (v := 0) dX8_exchange_16 rfl rfl ?_
    exact r_iret rfl dX8_exchange_17 h
theorem m_X8_exchange {g : zF} (hl0 : g.2.2.2.1.stackTraces = false) {Q : zR × zS → Prop} {a0 a1 : Int} {σ : zS} (h : zo (f_X8_exchange a0 a1 σ) Q) : zm g Y_X8_exchange R_X8_exchange [(4, a0), (0, a1)] σ Q := zm_of (by decide) rfl (Nat.le_of_ble_eq_true rfl) (t_X8_exchange hl0 h)


/- X8_cleanse -/

set_option maxRecDepth 100000 in
set_option maxHeartbeats 4000000 in
theorem t_X8_cleanse_91 {g : zF} (hl0 : g.2.2.2.1.stackTraces = false) {Q : zR × zS → Prop} (r66 : Int → Int → Int → Int → zS → zFn) (hr66 : ∀ b0 b1 b2 b3 τ, zo (r66 b0 b1 b2 b3 τ) Q → zw g Y_X8_cleanse R_X8_cleanse 66 [(0, (4, b0)), (1, (0, b1)), (2, (0, b2)), (3, (0, b3))] [] τ 0 0 Q) {a0 a1 a2 a3 : Int} {σ : zS} (h : zo (f_X8_cleanse_91 r66 a0 a1 a2 a3 σ) Q) : zw g Y_X8_cleanse R_X8_cleanse 91 [(0, (4, a0)), (1, (0, a1)), (2, (0, a2)), (3, (0, a3))] [] σ 0 0 Q := by
  unfold f_X8_cleanse_91 at h
  refine r_iinc (L' := [(3, (0, (w32 (a3 + (-1))))), (0, (4, a0)), (1, (0, a1)), (2, (0, a2))]) 3 dX8_cleanse_91 rfl (by decide) rfl ?_
  refine r_goto 66 dX8_cleanse_94 (by decide) ?_
  refine r_weak (L' := [(0, (4, a0)), (1, (0, a1)), (2, (0, a2)), (3, (0, (w32 (a3 + (-1)))))]) [1, 2, 3, 0] rfl ?_
  exact hr66 _ _ _ _ _ h

set_option maxRecDepth 100000 in
set_option maxHeartbeats 4000000 in
theorem t_X8_cleanse_66 {g : zF} (hl0 : g.2.2.2.1.stackTraces = false) {Q : zR × zS → Prop}   : ∀ (n : Nat) (a0 a1 a2 a3 : Int) (σ : zS), zo (f_X8_cleanse_66  n a0 a1 a2 a3 σ) Q → zw g Y_X8_cleanse R_X8_cleanse 66 [(0, (4, a0)), (1, (0, a1)), (2, (0, a2)), (3, (0, a3))] [] σ 0 0 Q := by
  intro n
  induction n with
  | zero => intro a0 a1 a2 a3 σ h; obtain ⟨r, h, -⟩ := h; cases h
  | succ n ih =>
    intro a0 a1 a2 a3 σ h
    unfold f_X8_cleanse_66 at h
    refine r_iload_n 3 dX8_cleanse_66 rfl ?_
    refine r_if_lt 97 dX8_cleanse_67 (by decide) h (fun h => ?_) (fun h => ?_)
    · refine r_iload_n 2 dX8_cleanse_97 rfl ?_
      exact r_iret rfl dX8_cleanse_98 h
    · refine r_aload_n 0 dX8_cleanse_70 rfl ?_
      refine r_getr fd_X8_47 rfl dX8_cleanse_71 h (fun x1 h => ?_)
      refine r_iload_n 3 dX8_cleanse_74 rfl ?_
      refine r_zald dX8_cleanse_75 h (fun x2 h => ?_)
      refine r_if_ne 82 dX8_cleanse_76 (by decide) h (fun h => ?_) (fun h => ?_)
      · refine r_aload_n 0 dX8_cleanse_82 rfl ?_
        refine r_iload_n 1 dX8_cleanse_83 rfl ?_
        refine r_iload_n 3 dX8_cleanse_84 rfl ?_
        refine r_callV (K' := Y_X8_dropReport) (R' := R_X8_dropReport) (idx := 147) (n := 2) (b := a0) (as := [(0, a1), (0, a3)]) (rest := []) (C' := 0) (D' := 0) (cn := 8) rfl k0_X8_dropReport kV_X8_dropReport kl_X8_147 ⟨by decide, by decide⟩ dX8_cleanse_85 rfl rfl (Nat.le_of_ble_eq_true rfl) (by decide) (by decide) rfl h (fun r hr => m_X8_dropReport hl0 ⟨r, hr, hr⟩) (fun _ τ4 _ h => ?_)
        refine r_iinc (L' := [(2, (0, (w32 (a2 + 1)))), (0, (4, a0)), (1, (0, a1)), (3, (0, a3))]) 2 dX8_cleanse_88 rfl (by decide) rfl ?_
        refine r_weak (L' := [(0, (4, a0)), (1, (0, a1)), (2, (0, (w32 (a2 + 1)))), (3, (0, a3))]) [1, 2, 0, 3] rfl ?_
        exact t_X8_cleanse_91 hl0 (f_X8_cleanse_66  n) (fun b0 b1 b2 b3 τ h => ih b0 b1 b2 b3 τ h) h
      · refine r_goto 91 dX8_cleanse_79 (by decide) ?_
        exact t_X8_cleanse_91 hl0 (f_X8_cleanse_66  n) (fun b0 b1 b2 b3 τ h => ih b0 b1 b2 b3 τ h) h

set_option maxRecDepth 100000 in
set_option maxHeartbeats 4000000 in
theorem t_X8_cleanse_56 {g : zF} (hl0 : g.2.2.2.1.stackTraces = false) {Q : zR × zS → Prop}   {a0 a1 : Int} {σ : zS} (h : zo (f_X8_cleanse_56  a0 a1 σ) Q) : zw g Y_X8_cleanse R_X8_cleanse 56 [(0, (4, a0)), (1, (0, a1))] [] σ 0 0 Q := by
  unfold f_X8_cleanse_56 at h
  refine r_iconst (v := 0) dX8_cleanse_56 rfl rfl ?_
  refine r_istore_n (L' := [(2, (0, 0)), (0, (4, a0)), (1, (0, a1))]) dX8_cleanse_57 (by decide) rfl ?_
  refine r_aload_n 1 dX8_cleanse_58 rfl ?_
  refine r_iload_n 2 dX8_cleanse_59 rfl ?_
  refine r_callV (K' := Y_X8_manyOf) (R' := R_X8_manyOf) (idx := 92) (n := 1) (b := a0) (as := [(0, a1)]) (rest := []) (C' := 0) (D' := 0) (cn := 8) rfl k0_X8_manyOf kV_X8_manyOf kl_X8_92 ⟨by decide, by decide⟩ dX8_cleanse_60 rfl rfl (Nat.le_of_ble_eq_true rfl) (by decide) (by decide) rfl h (fun r hr => m_X8_manyOf hl0 ⟨r, hr, hr⟩) (fun x1 τ2 _ h => ?_)
  refine r_iconst (v := 1) dX8_cleanse_63 rfl rfl ?_
  refine r_isub dX8_cleanse_64 ?_
  refine r_istore_n (L' := [(3, (0, (w32 (x1 - 1)))), (2, (0, 0)), (0, (4, a0)), (1, (0, a1))]) dX8_cleanse_65 (by decide) rfl ?_
  refine r_weak (L' := [(0, (4, a0)), (1, (0, a1)), (2, (0, 0)), (3, (0, (w32 (x1 - 1))))]) [2, 3, 1, 0] rfl ?_
  exact t_X8_cleanse_66 hl0   zFU _ _ _ _ _ h

set_option maxRecDepth 100000 in
set_option maxHeartbeats 4000000 in
theorem t_X8_cleanse_49 {g : zF} (hl0 : g.2.2.2.1.stackTraces = false) {Q : zR × zS → Prop} (r20 : Int → Int → Int → zS → zFn) (hr20 : ∀ b0 b1 b2 τ, zo (r20 b0 b1 b2 τ) Q → zw g Y_X8_cleanse R_X8_cleanse 20 [(0, (4, b0)), (1, (0, b1)), (2, (0, b2))] [] τ 0 0 Q) {a0 a1 a2 s0 s1 s2 : Int} {σ : zS} (h : zo (f_X8_cleanse_49 r20 a0 a1 a2 s0 s1 s2 σ) Q) : zw g Y_X8_cleanse R_X8_cleanse 49 [(0, (4, a0)), (1, (0, a1)), (2, (0, a2))] [(0, s2), (0, s1), (4, s0)] σ 0 0 Q := by
  unfold f_X8_cleanse_49 at h
  refine r_zast dX8_cleanse_49 h (fun τ1 h => ?_)
  refine r_iinc (L' := [(2, (0, (w32 (a2 + 1)))), (0, (4, a0)), (1, (0, a1))]) 2 dX8_cleanse_50 rfl (by decide) rfl ?_
  refine r_goto 20 dX8_cleanse_53 (by decide) ?_
  refine r_weak (L' := [(0, (4, a0)), (1, (0, a1)), (2, (0, (w32 (a2 + 1))))]) [1, 2, 0] rfl ?_
  exact hr20 _ _ _ _ h

set_option maxRecDepth 100000 in
set_option maxHeartbeats 4000000 in
theorem t_X8_cleanse_20 {g : zF} (hl0 : g.2.2.2.1.stackTraces = false) {Q : zR × zS → Prop}   : ∀ (n : Nat) (a0 a1 a2 : Int) (σ : zS), zo (f_X8_cleanse_20  n a0 a1 a2 σ) Q → zw g Y_X8_cleanse R_X8_cleanse 20 [(0, (4, a0)), (1, (0, a1)), (2, (0, a2))] [] σ 0 0 Q := by
  intro n
  induction n with
  | zero => intro a0 a1 a2 σ h; obtain ⟨r, h, -⟩ := h; cases h
  | succ n ih =>
    intro a0 a1 a2 σ h
    unfold f_X8_cleanse_20 at h
    refine r_iload_n 2 dX8_cleanse_20 rfl ?_
    refine r_aload_n 0 dX8_cleanse_21 rfl ?_
    refine r_iload_n 1 dX8_cleanse_22 rfl ?_
    refine r_callV (K' := Y_X8_manyOf) (R' := R_X8_manyOf) (idx := 92) (n := 1) (b := a0) (as := [(0, a1)]) (rest := [(0, a2)]) (C' := 0) (D' := 0) (cn := 8) rfl k0_X8_manyOf kV_X8_manyOf kl_X8_92 ⟨by decide, by decide⟩ dX8_cleanse_23 rfl rfl (Nat.le_of_ble_eq_true rfl) (by decide) (by decide) rfl h (fun r hr => m_X8_manyOf hl0 ⟨r, hr, hr⟩) (fun x1 τ2 _ h => ?_)
    refine r_icmp_ge 56 dX8_cleanse_26 (by decide) h (fun h => ?_) (fun h => ?_)
    · refine r_weak (L' := [(0, (4, a0)), (1, (0, a1))]) [0, 1] rfl ?_
      exact t_X8_cleanse_56 hl0   h
    · refine r_aload_n 0 dX8_cleanse_29 rfl ?_
      refine r_getr fd_X8_47 rfl dX8_cleanse_30 h (fun x3 h => ?_)
      refine r_iload_n 2 dX8_cleanse_33 rfl ?_
      refine r_aload_n 0 dX8_cleanse_34 rfl ?_
      refine r_iload_n 1 dX8_cleanse_35 rfl ?_
      refine r_iload_n 2 dX8_cleanse_36 rfl ?_
      refine r_callV (K' := Y_X8_statusAt) (R' := R_X8_statusAt) (idx := 375) (n := 2) (b := a0) (as := [(0, a1), (0, a2)]) (rest := [(0, a2), (4, x3)]) (C' := 0) (D' := 0) (cn := 8) rfl k0_X8_statusAt kV_X8_statusAt kl_X8_375 ⟨by decide, by decide⟩ dX8_cleanse_37 rfl rfl (Nat.le_of_ble_eq_true rfl) (by decide) (by decide) rfl h (fun r hr => m_X8_statusAt hl0 ⟨r, hr, hr⟩) (fun x4 τ5 _ h => ?_)
      refine r_iconst (v := 1) dX8_cleanse_40 rfl rfl ?_
      refine r_icmp_ne 48 dX8_cleanse_41 (by decide) h (fun h => ?_) (fun h => ?_)
      · refine r_iconst (v := 0) dX8_cleanse_48 rfl rfl ?_
        exact t_X8_cleanse_49 hl0 (f_X8_cleanse_20  n) (fun b0 b1 b2 τ h => ih b0 b1 b2 τ h) h
      · refine r_iconst (v := 1) dX8_cleanse_44 rfl rfl ?_
        refine r_goto 49 dX8_cleanse_45 (by decide) ?_
        exact t_X8_cleanse_49 hl0 (f_X8_cleanse_20  n) (fun b0 b1 b2 τ h => ih b0 b1 b2 τ h) h

set_option maxRecDepth 100000 in
set_option maxHeartbeats 4000000 in
theorem t_X8_cleanse {g : zF} (hl0 : g.2.2.2.1.stackTraces = false) {Q : zR × zS → Prop}   {a0 a1 : Int} {σ : zS} (h : zo (f_X8_cleanse  a0 a1 σ) Q) : zw g Y_X8_cleanse R_X8_cleanse 0 [(0, (4, a0)), (1, (0, a1))] [] σ 0 0 Q := by
  unfold f_X8_cleanse at h
  refine r_aload_n 0 dX8_cleanse_0 rfl ?_
  refine r_aload_n 0 dX8_cleanse_1 rfl ?_
  refine r_iload_n 1 dX8_cleanse_2 rfl ?_
  refine r_callV (K' := Y_X8_isAgent) (R' := R_X8_isAgent) (idx := 88) (n := 1) (b := a0) (as := [(0, a1)]) (rest := [(4, a0)]) (C' := 0) (D' := 0) (cn := 8) rfl k0_X8_isAgent kV_X8_isAgent kl_X8_88 ⟨by decide, by decide⟩ dX8_cleanse_3 rfl rfl (Nat.le_of_ble_eq_true rfl) (by decide) (by decide) rfl h (fun r hr => m_X8_isAgent hl0 ⟨r, hr, hr⟩) (fun x1 τ2 _ h => ?_)
  refine r_callV (K' := Y_X8_passes) (R' := R_X8_passes) (idx := 215) (n := 1) (b := a0) (as := [(0, x1)]) (rest := []) (C' := 0) (D' := 0) (cn := 8) rfl k0_X8_passes kV_X8_passes kl_X8_215 ⟨by decide, by decide⟩ dX8_cleanse_6 rfl rfl (Nat.le_of_ble_eq_true rfl) (by decide) (by decide) rfl h (fun r hr => m_X8_passes hl0 ⟨r, hr, hr⟩) (fun x3 τ4 _ h => ?_)
  refine r_if_ne 14 dX8_cleanse_9 (by decide) h (fun h => ?_) (fun h => ?_)
  · refine r_aload_n 0 dX8_cleanse_14 rfl ?_
    refine r_callV (K' := Y_X8_remember) (R' := R_X8_remember) (idx := 344) (n := 0) (b := a0) (as := []) (rest := []) (C' := 0) (D' := 0) (cn := 8) rfl k0_X8_remember kV_X8_remember kl_X8_344 ⟨by decide, by decide⟩ dX8_cleanse_15 rfl rfl (Nat.le_of_ble_eq_true rfl) (by decide) (by decide) rfl h (fun r hr => m_X8_remember hl0 ⟨r, hr, hr⟩) (fun _ τ6 _ h => ?_)
    refine r_iconst (v := 0) dX8_cleanse_18 rfl rfl ?_
    refine r_istore_n (L' := [(2, (0, 0)), (0, (4, a0)), (1, (0, a1))]) dX8_cleanse_19 (by decide) rfl ?_
    refine r_weak (L' := [(0, (4, a0)), (1, (0, a1)), (2, (0, 0))]) [1, 2, 0] rfl ?_
    exact t_X8_cleanse_20 hl0   zFU _ _ _ _ h
  · refine r_iconst (v := 0) dX8_cleanse_12 rfl rfl ?_
    exact r_iret rfl dX8_cleanse_13 h
theorem m_X8_cleanse {g : zF} (hl0 : g.2.2.2.1.stackTraces = false) {Q : zR × zS → Prop} {a0 a1 : Int} {σ : zS} (h : zo (f_X8_cleanse a0 a1 σ) Q) : zm g Y_X8_cleanse R_X8_cleanse [(4, a0), (0, a1)] σ Q := zm_of (by decide) rfl (Nat.le_of_ble_eq_true rfl) (t_X8_cleanse hl0 h)


/- X8_areBounds -/

set_option maxRecDepth 100000 in
set_option maxHeartbeats 4000000 in
theorem t_X8_areBounds {g : zF} (hl0 : g.2.2.2.1.stackTraces = false) {Q : zR × zS → Prop}   {a0 a1 : Int} {σ : zS} (h : zo (f_X8_areBounds  a0 a1 σ) Q) : zw g Y_X8_areBounds R_X8_areBounds 0 [(0, (0, a0)), (1, (0, a1))] [] σ 0 0 Q := by
  unfold f_X8_areBounds at h
  refine r_iload_n 0 dX8_areBounds_0 rfl ?_
  refine r_i2l dX8_areBounds_1 ?_
  refine r_lconst dX8_areBounds_2 ?_
  refine r_ldcL (z := 999) wd_2068 (by decide +kernel) dX8_areBounds_3 ?_
  refine r_callS (K' := Y_X8_in) (R' := R_X8_in) (idx := 70) (n := 3) (as := [(1, a0), (1, 0), (1, 999)]) (rest := []) (C' := 0) (D' := 0) rfl k0_X8_in wd_1562 kl_X8_70 ⟨by decide, by decide⟩ dX8_areBounds_6 rfl rfl (Nat.le_of_ble_eq_true rfl) (by decide) (by decide) h (fun r hr => m_X8_in hl0 ⟨r, hr, hr⟩) (fun x1 τ2 _ h => ?_)
  refine r_if_eq 29 dX8_areBounds_9 (by decide) h (fun h => ?_) (fun h => ?_)
  · refine r_iconst (v := 0) dX8_areBounds_29 rfl rfl ?_
    exact r_zretc (by decide) rfl dX8_areBounds_30 h
  · refine r_iload_n 1 dX8_areBounds_12 rfl ?_
    refine r_i2l dX8_areBounds_13 ?_
    refine r_iload_n 0 dX8_areBounds_14 rfl ?_
    refine r_i2l dX8_areBounds_15 ?_
    refine r_ldcL (z := 999) wd_2068 (by decide +kernel) dX8_areBounds_16 ?_
    refine r_callS (K' := Y_X8_in) (R' := R_X8_in) (idx := 70) (n := 3) (as := [(1, a1), (1, a0), (1, 999)]) (rest := []) (C' := 0) (D' := 0) rfl k0_X8_in wd_1562 kl_X8_70 ⟨by decide, by decide⟩ dX8_areBounds_19 rfl rfl (Nat.le_of_ble_eq_true rfl) (by decide) (by decide) h (fun r hr => m_X8_in hl0 ⟨r, hr, hr⟩) (fun x3 τ4 _ h => ?_)
    refine r_if_eq 29 dX8_areBounds_22 (by decide) h (fun h => ?_) (fun h => ?_)
    · refine r_iconst (v := 0) dX8_areBounds_29 rfl rfl ?_
      exact r_zretc (by decide) rfl dX8_areBounds_30 h
    · refine r_iconst (v := 1) dX8_areBounds_25 rfl rfl ?_
      refine r_goto 30 dX8_areBounds_26 (by decide) ?_
      exact r_zretc (by decide) rfl dX8_areBounds_30 h
theorem m_X8_areBounds {g : zF} (hl0 : g.2.2.2.1.stackTraces = false) {Q : zR × zS → Prop} {a0 a1 : Int} {σ : zS} (h : zo (f_X8_areBounds a0 a1 σ) Q) : zm g Y_X8_areBounds R_X8_areBounds [(0, a0), (0, a1)] σ Q := zm_of (by decide) rfl (Nat.le_of_ble_eq_true rfl) (t_X8_areBounds hl0 h)


/- X8_beliefIf -/

set_option maxRecDepth 100000 in
set_option maxHeartbeats 4000000 in
theorem t_X8_beliefIf_32 {g : zF} (hl0 : g.2.2.2.1.stackTraces = false) {Q : zR × zS → Prop}   {a0 a1 a2 a3 a4 a5 s0 s1 s2 : Int} {σ : zS} (h : zo (f_X8_beliefIf_32  a0 a1 a2 a3 a4 a5 s0 s1 s2 σ) Q) : zw g Y_X8_beliefIf R_X8_beliefIf 32 [(0, (4, a0)), (1, (0, a1)), (2, (0, a2)), (3, (0, a3)), (4, (0, a4)), (5, (0, a5))] [(0, s2), (0, s1), (4, s0)] σ 0 0 Q := by
  unfold f_X8_beliefIf_32 at h
  refine r_callV (K' := Y_X8_passes2) (R' := R_X8_passes2) (idx := 368) (n := 2) (b := s0) (as := [(0, s1), (0, s2)]) (rest := []) (C' := 0) (D' := 0) (cn := 8) rfl k0_X8_passes2 kV_X8_passes2 kl_X8_368 ⟨by decide, by decide⟩ dX8_beliefIf_32 rfl rfl (Nat.le_of_ble_eq_true rfl) (by decide) (by decide) rfl h (fun r hr => m_X8_passes2 hl0 ⟨r, hr, hr⟩) (fun x1 τ2 _ h => ?_)
  refine r_if_ne 40 dX8_beliefIf_35 (by decide) h (fun h => ?_) (fun h => ?_)
  · refine r_aload_n 0 dX8_beliefIf_40 rfl ?_
    refine r_callV (K' := Y_X8_keepAside) (R' := R_X8_keepAside) (idx := 427) (n := 0) (b := a0) (as := []) (rest := []) (C' := 0) (D' := 0) (cn := 8) rfl k0_X8_keepAside kV_X8_keepAside kl_X8_427 ⟨by decide, by decide⟩ dX8_beliefIf_41 rfl rfl (Nat.le_of_ble_eq_true rfl) (by decide) (by decide) rfl h (fun r hr => m_X8_keepAside hl0 ⟨r, hr, hr⟩) (fun _ τ4 _ h => ?_)
    refine r_aload_n 0 dX8_beliefIf_44 rfl ?_
    refine r_iload_n 1 dX8_beliefIf_45 rfl ?_
    refine r_iload_n 2 dX8_beliefIf_46 rfl ?_
    refine r_iload_n 3 dX8_beliefIf_47 rfl ?_
    refine r_iload 4 dX8_beliefIf_48 rfl ?_
    refine r_callV (K' := Y_X8_doProbe) (R' := R_X8_doProbe) (idx := 322) (n := 4) (b := a0) (as := [(0, a1), (0, a2), (0, a3), (0, a4)]) (rest := []) (C' := 0) (D' := 0) (cn := 8) rfl k0_X8_doProbe kV_X8_doProbe kl_X8_322 ⟨by decide, by decide⟩ dX8_beliefIf_50 rfl rfl (Nat.le_of_ble_eq_true rfl) (by decide) (by decide) rfl h (fun r hr => m_X8_doProbe hl0 ⟨r, hr, hr⟩) (fun x5 τ6 _ h => ?_)
    refine r_istore (L' := [(6, (0, x5)), (0, (4, a0)), (1, (0, a1)), (2, (0, a2)), (3, (0, a3)), (4, (0, a4)), (5, (0, a5))]) dX8_beliefIf_53 (by decide) rfl ?_
    refine r_aload_n 1 dX8_beliefIf_55 rfl ?_
    refine r_aload_n 1 dX8_beliefIf_56 rfl ?_
    refine r_iload_n 2 dX8_beliefIf_57 rfl ?_
    refine r_iload_n 3 dX8_beliefIf_58 rfl ?_
    refine r_iload 6 dX8_beliefIf_59 rfl ?_
    refine r_callV (K' := Y_X8_boundOf) (R' := R_X8_boundOf) (idx := 384) (n := 3) (b := a0) (as := [(0, a1), (0, a2), (0, a5)]) (rest := [(4, a0)]) (C' := 0) (D' := 0) (cn := 8) rfl k0_X8_boundOf kV_X8_boundOf kl_X8_384 ⟨by decide, by decide⟩ dX8_beliefIf_61 rfl rfl (Nat.le_of_ble_eq_true rfl) (by decide) (by decide) rfl h (fun r hr => m_X8_boundOf hl0 ⟨r, hr, hr⟩) (fun x7 τ8 _ h => ?_)
    refine r_callV (K' := Y_X8_layBack) (R' := R_X8_layBack) (idx := 433) (n := 1) (b := a0) (as := [(0, x7)]) (rest := []) (C' := 0) (D' := 0) (cn := 8) rfl k0_X8_layBack kV_X8_layBack kl_X8_433 ⟨by decide, by decide⟩ dX8_beliefIf_64 rfl rfl (Nat.le_of_ble_eq_true rfl) (by decide) (by decide) rfl h (fun r hr => m_X8_layBack hl0 ⟨r, hr, hr⟩) (fun x9 τ10 _ h => ?_)
    exact r_iret rfl dX8_beliefIf_67 h
  · refine r_iconst (v := 0) dX8_beliefIf_38 rfl rfl ?_
    exact r_iret rfl dX8_beliefIf_39 h

set_option maxRecDepth 100000 in
set_option maxHeartbeats 4000000 in
theorem t_X8_beliefIf_31 {g : zF} (hl0 : g.2.2.2.1.stackTraces = false) {Q : zR × zS → Prop}   {a0 a1 a2 a3 a4 a5 s0 s1 : Int} {σ : zS} (h : zo (f_X8_beliefIf_31  a0 a1 a2 a3 a4 a5 s0 s1 σ) Q) : zw g Y_X8_beliefIf R_X8_beliefIf 31 [(0, (4, a0)), (1, (0, a1)), (2, (0, a2)), (3, (0, a3)), (4, (0, a4)), (5, (0, a5))] [(0, s1), (4, s0)] σ 0 0 Q := by
  unfold f_X8_beliefIf_31 at h
  refine r_iconst (v := 0) dX8_beliefIf_31 rfl rfl ?_
  exact t_X8_beliefIf_32 hl0   h

set_option maxRecDepth 100000 in
set_option maxHeartbeats 4000000 in
theorem t_X8_beliefIf {g : zF} (hl0 : g.2.2.2.1.stackTraces = false) {Q : zR × zS → Prop}   {a0 a1 a2 a3 a4 a5 : Int} {σ : zS} (h : zo (f_X8_beliefIf  a0 a1 a2 a3 a4 a5 σ) Q) : zw g Y_X8_beliefIf R_X8_beliefIf 0 [(0, (4, a0)), (1, (0, a1)), (2, (0, a2)), (3, (0, a3)), (4, (0, a4)), (5, (0, a5))] [] σ 0 0 Q := by
  unfold f_X8_beliefIf at h
  refine r_aload_n 0 dX8_beliefIf_0 rfl ?_
  refine r_aload_n 0 dX8_beliefIf_1 rfl ?_
  refine r_iload_n 1 dX8_beliefIf_2 rfl ?_
  refine r_iload_n 2 dX8_beliefIf_3 rfl ?_
  refine r_callV (K' := Y_X8_areThere) (R' := R_X8_areThere) (idx := 381) (n := 2) (b := a0) (as := [(0, a1), (0, a2)]) (rest := [(4, a0)]) (C' := 0) (D' := 0) (cn := 8) rfl k0_X8_areThere kV_X8_areThere kl_X8_381 ⟨by decide, by decide⟩ dX8_beliefIf_4 rfl rfl (Nat.le_of_ble_eq_true rfl) (by decide) (by decide) rfl h (fun r hr => m_X8_areThere hl0 ⟨r, hr, hr⟩) (fun x1 τ2 _ h => ?_)
  refine r_iload_n 3 dX8_beliefIf_7 rfl ?_
  refine r_iload 4 dX8_beliefIf_8 rfl ?_
  refine r_callS (K' := Y_X8_areBounds) (R' := R_X8_areBounds) (idx := 438) (n := 2) (as := [(0, a3), (0, a4)]) (rest := [(0, x1), (4, a0)]) (C' := 0) (D' := 0) rfl k0_X8_areBounds wd_2066 kl_X8_438 ⟨by decide, by decide⟩ dX8_beliefIf_10 rfl rfl (Nat.le_of_ble_eq_true rfl) (by decide) (by decide) h (fun r hr => m_X8_areBounds hl0 ⟨r, hr, hr⟩) (fun x3 τ4 _ h => ?_)
  refine r_if_eq 31 dX8_beliefIf_13 (by decide) h (fun h => ?_) (fun h => ?_)
  · exact t_X8_beliefIf_31 hl0   h
  · refine r_iload 5 dX8_beliefIf_16 rfl ?_
    refine r_i2l dX8_beliefIf_18 ?_
    refine r_lconst dX8_beliefIf_19 ?_
    refine r_lconst dX8_beliefIf_20 ?_
    refine r_callS (K' := Y_X8_in) (R' := R_X8_in) (idx := 70) (n := 3) (as := [(1, a5), (1, 0), (1, 1)]) (rest := [(0, x1), (4, a0)]) (C' := 0) (D' := 0) rfl k0_X8_in wd_1562 kl_X8_70 ⟨by decide, by decide⟩ dX8_beliefIf_21 rfl rfl (Nat.le_of_ble_eq_true rfl) (by decide) (by decide) h (fun r hr => m_X8_in hl0 ⟨r, hr, hr⟩) (fun x5 τ6 _ h => ?_)
    refine r_if_eq 31 dX8_beliefIf_24 (by decide) h (fun h => ?_) (fun h => ?_)
    · exact t_X8_beliefIf_31 hl0   h
    · refine r_iconst (v := 1) dX8_beliefIf_27 rfl rfl ?_
      refine r_goto 32 dX8_beliefIf_28 (by decide) ?_
      exact t_X8_beliefIf_32 hl0   h
theorem m_X8_beliefIf {g : zF} (hl0 : g.2.2.2.1.stackTraces = false) {Q : zR × zS → Prop} {a0 a1 a2 a3 a4 a5 : Int} {σ : zS} (h : zo (f_X8_beliefIf a0 a1 a2 a3 a4 a5 σ) Q) : zm g Y_X8_beliefIf R_X8_beliefIf [(4, a0), (0, a1), (0, a2), (0, a3), (0, a4), (0, a5)] σ Q := zm_of (by decide) rfl (Nat.le_of_ble_eq_true rfl) (t_X8_beliefIf hl0 h)


/- X8_trustIf -/

set_option maxRecDepth 100000 in
set_option maxHeartbeats 4000000 in
theorem t_X8_trustIf_24 {g : zF} (hl0 : g.2.2.2.1.stackTraces = false) {Q : zR × zS → Prop}   {a0 a1 a2 a3 a4 a5 s0 s1 : Int} {σ : zS} (h : zo (f_X8_trustIf_24  a0 a1 a2 a3 a4 a5 s0 s1 σ) Q) : zw g Y_X8_trustIf R_X8_trustIf 24 [(0, (4, a0)), (1, (0, a1)), (2, (0, a2)), (3, (0, a3)), (4, (0, a4)), (5, (0, a5))] [(0, s1), (4, s0)] σ 0 0 Q := by
  unfold f_X8_trustIf_24 at h
  refine r_iload_n 3 dX8_trustIf_24 rfl ?_
  refine r_iload 4 dX8_trustIf_25 rfl ?_
  refine r_callS (K' := Y_X8_areBounds) (R' := R_X8_areBounds) (idx := 438) (n := 2) (as := [(0, a3), (0, a4)]) (rest := [(0, s1), (4, s0)]) (C' := 0) (D' := 0) rfl k0_X8_areBounds wd_2066 kl_X8_438 ⟨by decide, by decide⟩ dX8_trustIf_27 rfl rfl (Nat.le_of_ble_eq_true rfl) (by decide) (by decide) h (fun r hr => m_X8_areBounds hl0 ⟨r, hr, hr⟩) (fun x1 τ2 _ h => ?_)
  refine r_callV (K' := Y_X8_passes2) (R' := R_X8_passes2) (idx := 368) (n := 2) (b := s0) (as := [(0, s1), (0, x1)]) (rest := []) (C' := 0) (D' := 0) (cn := 8) rfl k0_X8_passes2 kV_X8_passes2 kl_X8_368 ⟨by decide, by decide⟩ dX8_trustIf_30 rfl rfl (Nat.le_of_ble_eq_true rfl) (by decide) (by decide) rfl h (fun r hr => m_X8_passes2 hl0 ⟨r, hr, hr⟩) (fun x3 τ4 _ h => ?_)
  refine r_if_ne 38 dX8_trustIf_33 (by decide) h (fun h => ?_) (fun h => ?_)
  · refine r_aload_n 0 dX8_trustIf_38 rfl ?_
    refine r_callV (K' := Y_X8_keepAside) (R' := R_X8_keepAside) (idx := 427) (n := 0) (b := a0) (as := []) (rest := []) (C' := 0) (D' := 0) (cn := 8) rfl k0_X8_keepAside kV_X8_keepAside kl_X8_427 ⟨by decide, by decide⟩ dX8_trustIf_39 rfl rfl (Nat.le_of_ble_eq_true rfl) (by decide) (by decide) rfl h (fun r hr => m_X8_keepAside hl0 ⟨r, hr, hr⟩) (fun _ τ6 _ h => ?_)
    refine r_aload_n 0 dX8_trustIf_42 rfl ?_
    refine r_iload_n 1 dX8_trustIf_43 rfl ?_
    refine r_iload_n 2 dX8_trustIf_44 rfl ?_
    refine r_iload_n 3 dX8_trustIf_45 rfl ?_
    refine r_iload 4 dX8_trustIf_46 rfl ?_
    refine r_callV (K' := Y_X8_doProbe) (R' := R_X8_doProbe) (idx := 322) (n := 4) (b := a0) (as := [(0, a1), (0, a2), (0, a3), (0, a4)]) (rest := []) (C' := 0) (D' := 0) (cn := 8) rfl k0_X8_doProbe kV_X8_doProbe kl_X8_322 ⟨by decide, by decide⟩ dX8_trustIf_48 rfl rfl (Nat.le_of_ble_eq_true rfl) (by decide) (by decide) rfl h (fun r hr => m_X8_doProbe hl0 ⟨r, hr, hr⟩) (fun x7 τ8 _ h => ?_)
    refine r_istore (L' := [(6, (0, x7)), (0, (4, a0)), (1, (0, a1)), (2, (0, a2)), (3, (0, a3)), (4, (0, a4)), (5, (0, a5))]) dX8_trustIf_51 (by decide) rfl ?_
    refine r_aload_n 1 dX8_trustIf_53 rfl ?_
    refine r_aload_n 1 dX8_trustIf_54 rfl ?_
    refine r_iload_n 2 dX8_trustIf_55 rfl ?_
    refine r_iload 6 dX8_trustIf_56 rfl ?_
    refine r_callV (K' := Y_X8_trustOf) (R' := R_X8_trustOf) (idx := 77) (n := 2) (b := a0) (as := [(0, a1), (0, a5)]) (rest := [(4, a0)]) (C' := 0) (D' := 0) (cn := 8) rfl k0_X8_trustOf kV_X8_trustOf kl_X8_77 ⟨by decide, by decide⟩ dX8_trustIf_58 rfl rfl (Nat.le_of_ble_eq_true rfl) (by decide) (by decide) rfl h (fun r hr => m_X8_trustOf hl0 ⟨r, hr, hr⟩) (fun x9 τ10 _ h => ?_)
    refine r_callV (K' := Y_X8_layBack) (R' := R_X8_layBack) (idx := 433) (n := 1) (b := a0) (as := [(0, x9)]) (rest := []) (C' := 0) (D' := 0) (cn := 8) rfl k0_X8_layBack kV_X8_layBack kl_X8_433 ⟨by decide, by decide⟩ dX8_trustIf_61 rfl rfl (Nat.le_of_ble_eq_true rfl) (by decide) (by decide) rfl h (fun r hr => m_X8_layBack hl0 ⟨r, hr, hr⟩) (fun x11 τ12 _ h => ?_)
    exact r_iret rfl dX8_trustIf_64 h
  · refine r_iconst (v := 0) dX8_trustIf_36 rfl rfl ?_
    exact r_iret rfl dX8_trustIf_37 h

set_option maxRecDepth 100000 in
set_option maxHeartbeats 4000000 in
theorem t_X8_trustIf_23 {g : zF} (hl0 : g.2.2.2.1.stackTraces = false) {Q : zR × zS → Prop}   {a0 a1 a2 a3 a4 a5 s0 : Int} {σ : zS} (h : zo (f_X8_trustIf_23  a0 a1 a2 a3 a4 a5 s0 σ) Q) : zw g Y_X8_trustIf R_X8_trustIf 23 [(0, (4, a0)), (1, (0, a1)), (2, (0, a2)), (3, (0, a3)), (4, (0, a4)), (5, (0, a5))] [(4, s0)] σ 0 0 Q := by
  unfold f_X8_trustIf_23 at h
  refine r_iconst (v := 0) dX8_trustIf_23 rfl rfl ?_
  exact t_X8_trustIf_24 hl0   h

set_option maxRecDepth 100000 in
set_option maxHeartbeats 4000000 in
theorem t_X8_trustIf {g : zF} (hl0 : g.2.2.2.1.stackTraces = false) {Q : zR × zS → Prop}   {a0 a1 a2 a3 a4 a5 : Int} {σ : zS} (h : zo (f_X8_trustIf  a0 a1 a2 a3 a4 a5 σ) Q) : zw g Y_X8_trustIf R_X8_trustIf 0 [(0, (4, a0)), (1, (0, a1)), (2, (0, a2)), (3, (0, a3)), (4, (0, a4)), (5, (0, a5))] [] σ 0 0 Q := by
  unfold f_X8_trustIf at h
  refine r_aload_n 0 dX8_trustIf_0 rfl ?_
  refine r_aload_n 0 dX8_trustIf_1 rfl ?_
  refine r_iload_n 1 dX8_trustIf_2 rfl ?_
  refine r_iload_n 2 dX8_trustIf_3 rfl ?_
  refine r_callV (K' := Y_X8_areThere) (R' := R_X8_areThere) (idx := 381) (n := 2) (b := a0) (as := [(0, a1), (0, a2)]) (rest := [(4, a0)]) (C' := 0) (D' := 0) (cn := 8) rfl k0_X8_areThere kV_X8_areThere kl_X8_381 ⟨by decide, by decide⟩ dX8_trustIf_4 rfl rfl (Nat.le_of_ble_eq_true rfl) (by decide) (by decide) rfl h (fun r hr => m_X8_areThere hl0 ⟨r, hr, hr⟩) (fun x1 τ2 _ h => ?_)
  refine r_if_eq 23 dX8_trustIf_7 (by decide) h (fun h => ?_) (fun h => ?_)
  · exact t_X8_trustIf_23 hl0   h
  · refine r_aload_n 0 dX8_trustIf_10 rfl ?_
    refine r_iload 5 dX8_trustIf_11 rfl ?_
    refine r_callV (K' := Y_X8_isAgent) (R' := R_X8_isAgent) (idx := 88) (n := 1) (b := a0) (as := [(0, a5)]) (rest := [(4, a0)]) (C' := 0) (D' := 0) (cn := 8) rfl k0_X8_isAgent kV_X8_isAgent kl_X8_88 ⟨by decide, by decide⟩ dX8_trustIf_13 rfl rfl (Nat.le_of_ble_eq_true rfl) (by decide) (by decide) rfl h (fun r hr => m_X8_isAgent hl0 ⟨r, hr, hr⟩) (fun x3 τ4 _ h => ?_)
    refine r_if_eq 23 dX8_trustIf_16 (by decide) h (fun h => ?_) (fun h => ?_)
    · exact t_X8_trustIf_23 hl0   h
    · refine r_iconst (v := 1) dX8_trustIf_19 rfl rfl ?_
      refine r_goto 24 dX8_trustIf_20 (by decide) ?_
      exact t_X8_trustIf_24 hl0   h
theorem m_X8_trustIf {g : zF} (hl0 : g.2.2.2.1.stackTraces = false) {Q : zR × zS → Prop} {a0 a1 a2 a3 a4 a5 : Int} {σ : zS} (h : zo (f_X8_trustIf a0 a1 a2 a3 a4 a5 σ) Q) : zm g Y_X8_trustIf R_X8_trustIf [(4, a0), (0, a1), (0, a2), (0, a3), (0, a4), (0, a5)] σ Q := zm_of (by decide) rfl (Nat.le_of_ble_eq_true rfl) (t_X8_trustIf hl0 h)


/- X8_widthAfter -/

set_option maxRecDepth 100000 in
set_option maxHeartbeats 4000000 in
theorem t_X8_widthAfter_41 {g : zF} (hl0 : g.2.2.2.1.stackTraces = false) {Q : zR × zS → Prop}   {a0 a1 a2 s0 : Int} {σ : zS} (h : zo (f_X8_widthAfter_41  a0 a1 a2 s0 σ) Q) : zw g Y_X8_widthAfter R_X8_widthAfter 41 [(0, (4, a0)), (1, (0, a1)), (2, (0, a2))] [(0, s0)] σ 0 0 Q := by
  unfold f_X8_widthAfter_41 at h
  refine r_istore (L' := [(4, (0, s0)), (0, (4, a0)), (1, (0, a1)), (2, (0, a2))]) dX8_widthAfter_41 (by decide) rfl ?_
  refine r_aload_n 1 dX8_widthAfter_43 rfl ?_
  refine r_aload_n 1 dX8_widthAfter_44 rfl ?_
  refine r_iload_n 2 dX8_widthAfter_45 rfl ?_
  refine r_iload_n 3 dX8_widthAfter_46 rfl ?_
  refine r_callV (K' := Y_X8_widthOf) (R' := R_X8_widthOf) (idx := 395) (n := 2) (b := a0) (as := [(0, a1), (0, a2)]) (rest := [(4, a0)]) (C' := 0) (D' := 0) (cn := 8) rfl k0_X8_widthOf kV_X8_widthOf kl_X8_395 ⟨by decide, by decide⟩ dX8_widthAfter_47 rfl rfl (Nat.le_of_ble_eq_true rfl) (by decide) (by decide) rfl h (fun r hr => m_X8_widthOf hl0 ⟨r, hr, hr⟩) (fun x1 τ2 _ h => ?_)
  refine r_callV (K' := Y_X8_layBack) (R' := R_X8_layBack) (idx := 433) (n := 1) (b := a0) (as := [(0, x1)]) (rest := []) (C' := 0) (D' := 0) (cn := 8) rfl k0_X8_layBack kV_X8_layBack kl_X8_433 ⟨by decide, by decide⟩ dX8_widthAfter_50 rfl rfl (Nat.le_of_ble_eq_true rfl) (by decide) (by decide) rfl h (fun r hr => m_X8_layBack hl0 ⟨r, hr, hr⟩) (fun x3 τ4 _ h => ?_)
  exact r_iret rfl dX8_widthAfter_53 h

set_option maxRecDepth 100000 in
set_option maxHeartbeats 4000000 in
theorem t_X8_widthAfter {g : zF} (hl0 : g.2.2.2.1.stackTraces = false) {Q : zR × zS → Prop}   {a0 a1 a2 a3 : Int} {σ : zS} (h : zo (f_X8_widthAfter  a0 a1 a2 a3 σ) Q) : zw g Y_X8_widthAfter R_X8_widthAfter 0 [(0, (4, a0)), (1, (0, a1)), (2, (0, a2)), (3, (0, a3))] [] σ 0 0 Q := by
  unfold f_X8_widthAfter at h
  refine r_aload_n 0 dX8_widthAfter_0 rfl ?_
  refine r_aload_n 0 dX8_widthAfter_1 rfl ?_
  refine r_iload_n 1 dX8_widthAfter_2 rfl ?_
  refine r_iload_n 2 dX8_widthAfter_3 rfl ?_
  refine r_callV (K' := Y_X8_areThere) (R' := R_X8_areThere) (idx := 381) (n := 2) (b := a0) (as := [(0, a1), (0, a2)]) (rest := [(4, a0)]) (C' := 0) (D' := 0) (cn := 8) rfl k0_X8_areThere kV_X8_areThere kl_X8_381 ⟨by decide, by decide⟩ dX8_widthAfter_4 rfl rfl (Nat.le_of_ble_eq_true rfl) (by decide) (by decide) rfl h (fun r hr => m_X8_areThere hl0 ⟨r, hr, hr⟩) (fun x1 τ2 _ h => ?_)
  refine r_iload_n 3 dX8_widthAfter_7 rfl ?_
  refine r_i2l dX8_widthAfter_8 ?_
  refine r_lconst dX8_widthAfter_9 ?_
  refine r_ldcL (z := 99) wd_2077 (by decide +kernel) dX8_widthAfter_10 ?_
  refine r_callS (K' := Y_X8_in) (R' := R_X8_in) (idx := 70) (n := 3) (as := [(1, a3), (1, 0), (1, 99)]) (rest := [(0, x1), (4, a0)]) (C' := 0) (D' := 0) rfl k0_X8_in wd_1562 kl_X8_70 ⟨by decide, by decide⟩ dX8_widthAfter_13 rfl rfl (Nat.le_of_ble_eq_true rfl) (by decide) (by decide) h (fun r hr => m_X8_in hl0 ⟨r, hr, hr⟩) (fun x3 τ4 _ h => ?_)
  refine r_callV (K' := Y_X8_passes2) (R' := R_X8_passes2) (idx := 368) (n := 2) (b := a0) (as := [(0, x1), (0, x3)]) (rest := []) (C' := 0) (D' := 0) (cn := 8) rfl k0_X8_passes2 kV_X8_passes2 kl_X8_368 ⟨by decide, by decide⟩ dX8_widthAfter_16 rfl rfl (Nat.le_of_ble_eq_true rfl) (by decide) (by decide) rfl h (fun r hr => m_X8_passes2 hl0 ⟨r, hr, hr⟩) (fun x5 τ6 _ h => ?_)
  refine r_if_ne 24 dX8_widthAfter_19 (by decide) h (fun h => ?_) (fun h => ?_)
  · refine r_aload_n 0 dX8_widthAfter_24 rfl ?_
    refine r_callV (K' := Y_X8_keepAside) (R' := R_X8_keepAside) (idx := 427) (n := 0) (b := a0) (as := []) (rest := []) (C' := 0) (D' := 0) (cn := 8) rfl k0_X8_keepAside kV_X8_keepAside kl_X8_427 ⟨by decide, by decide⟩ dX8_widthAfter_25 rfl rfl (Nat.le_of_ble_eq_true rfl) (by decide) (by decide) rfl h (fun r hr => m_X8_keepAside hl0 ⟨r, hr, hr⟩) (fun _ τ8 _ h => ?_)
    refine r_iload_n 3 dX8_widthAfter_28 rfl ?_
    refine r_if_le 40 dX8_widthAfter_29 (by decide) h (fun h => ?_) (fun h => ?_)
    · refine r_iconst (v := 0) dX8_widthAfter_40 rfl rfl ?_
      refine r_weak (L' := [(0, (4, a0)), (1, (0, a1)), (2, (0, a2))]) [0, 1, 2] rfl ?_
      exact t_X8_widthAfter_41 hl0   h
    · refine r_aload_n 0 dX8_widthAfter_32 rfl ?_
      refine r_iload_n 3 dX8_widthAfter_33 rfl ?_
      refine r_callV (K' := Y_X8_doPass) (R' := R_X8_doPass) (idx := 443) (n := 1) (b := a0) (as := [(0, a3)]) (rest := []) (C' := 0) (D' := 0) (cn := 8) rfl k0_X8_doPass kV_X8_doPass kl_X8_443 ⟨by decide, by decide⟩ dX8_widthAfter_34 rfl rfl (Nat.le_of_ble_eq_true rfl) (by decide) (by decide) rfl h (fun r hr => m_X8_doPass hl0 ⟨r, hr, hr⟩) (fun x9 τ10 _ h => ?_)
      refine r_goto 41 dX8_widthAfter_37 (by decide) ?_
      refine r_weak (L' := [(0, (4, a0)), (1, (0, a1)), (2, (0, a2))]) [0, 1, 2] rfl ?_
      exact t_X8_widthAfter_41 hl0   h
  · refine r_iconst (v := 0) dX8_widthAfter_22 rfl rfl ?_
    exact r_iret rfl dX8_widthAfter_23 h
theorem m_X8_widthAfter {g : zF} (hl0 : g.2.2.2.1.stackTraces = false) {Q : zR × zS → Prop} {a0 a1 a2 a3 : Int} {σ : zS} (h : zo (f_X8_widthAfter a0 a1 a2 a3 σ) Q) : zm g Y_X8_widthAfter R_X8_widthAfter [(4, a0), (0, a1), (0, a2), (0, a3)] σ Q := zm_of (by decide) rfl (Nat.le_of_ble_eq_true rfl) (t_X8_widthAfter hl0 h)


/- X8_widthBut -/

set_option maxRecDepth 100000 in
set_option maxHeartbeats 4000000 in
theorem t_X8_widthBut {g : zF} (hl0 : g.2.2.2.1.stackTraces = false) {Q : zR × zS → Prop}   {a0 a1 a2 a3 : Int} {σ : zS} (h : zo (f_X8_widthBut  a0 a1 a2 a3 σ) Q) : zw g Y_X8_widthBut R_X8_widthBut 0 [(0, (4, a0)), (1, (0, a1)), (2, (0, a2)), (3, (0, a3))] [] σ 0 0 Q := by
  unfold f_X8_widthBut at h
  refine r_aload_n 0 dX8_widthBut_0 rfl ?_
  refine r_iload_n 3 dX8_widthBut_1 rfl ?_
  refine r_putf fd_X8_27 fp_X8_widthBut_27 dX8_widthBut_2 h (fun τ1 h => ?_)
  refine r_aload_n 0 dX8_widthBut_5 rfl ?_
  refine r_iload_n 1 dX8_widthBut_6 rfl ?_
  refine r_iload_n 2 dX8_widthBut_7 rfl ?_
  refine r_callV (K' := Y_X8_widthOf) (R' := R_X8_widthOf) (idx := 395) (n := 2) (b := a0) (as := [(0, a1), (0, a2)]) (rest := []) (C' := 0) (D' := 0) (cn := 8) rfl k0_X8_widthOf kV_X8_widthOf kl_X8_395 ⟨by decide, by decide⟩ dX8_widthBut_8 rfl rfl (Nat.le_of_ble_eq_true rfl) (by decide) (by decide) rfl h (fun r hr => m_X8_widthOf hl0 ⟨r, hr, hr⟩) (fun x2 τ3 _ h => ?_)
  refine r_istore (L' := [(4, (0, x2)), (0, (4, a0)), (1, (0, a1)), (2, (0, a2)), (3, (0, a3))]) dX8_widthBut_11 (by decide) rfl ?_
  refine r_aload_n 1 dX8_widthBut_13 rfl ?_
  refine r_iconst (v := (-1)) dX8_widthBut_14 rfl rfl ?_
  refine r_putf fd_X8_27 fp_X8_widthBut_27 dX8_widthBut_15 h (fun τ4 h => ?_)
  refine r_iload 0 dX8_widthBut_18 rfl ?_
  exact r_iret rfl dX8_widthBut_20 h
theorem m_X8_widthBut {g : zF} (hl0 : g.2.2.2.1.stackTraces = false) {Q : zR × zS → Prop} {a0 a1 a2 a3 : Int} {σ : zS} (h : zo (f_X8_widthBut a0 a1 a2 a3 σ) Q) : zm g Y_X8_widthBut R_X8_widthBut [(4, a0), (0, a1), (0, a2), (0, a3)] σ Q := zm_of (by decide) rfl (Nat.le_of_ble_eq_true rfl) (t_X8_widthBut hl0 h)


/- X8_widthWithout -/

set_option maxRecDepth 100000 in
set_option maxHeartbeats 4000000 in
theorem t_X8_widthWithout_23 {g : zF} (hl0 : g.2.2.2.1.stackTraces = false) {Q : zR × zS → Prop}   {a0 a1 a2 a3 s0 s1 : Int} {σ : zS} (h : zo (f_X8_widthWithout_23  a0 a1 a2 a3 s0 s1 σ) Q) : zw g Y_X8_widthWithout R_X8_widthWithout 23 [(0, (4, a0)), (1, (0, a1)), (2, (0, a2)), (3, (0, a3))] [(0, s1), (4, s0)] σ 0 0 Q := by
  unfold f_X8_widthWithout_23 at h
  refine r_callV (K' := Y_X8_passes) (R' := R_X8_passes) (idx := 215) (n := 1) (b := s0) (as := [(0, s1)]) (rest := []) (C' := 0) (D' := 0) (cn := 8) rfl k0_X8_passes kV_X8_passes kl_X8_215 ⟨by decide, by decide⟩ dX8_widthWithout_23 rfl rfl (Nat.le_of_ble_eq_true rfl) (by decide) (by decide) rfl h (fun r hr => m_X8_passes hl0 ⟨r, hr, hr⟩) (fun x1 τ2 _ h => ?_)
  refine r_if_eq 39 dX8_widthWithout_26 (by decide) h (fun h => ?_) (fun h => ?_)
  · refine r_iconst (v := 0) dX8_widthWithout_39 rfl rfl ?_
    exact r_iret rfl dX8_widthWithout_40 h
  · refine r_aload_n 0 dX8_widthWithout_29 rfl ?_
    refine r_iload_n 1 dX8_widthWithout_30 rfl ?_
    refine r_iload_n 2 dX8_widthWithout_31 rfl ?_
    refine r_iload_n 3 dX8_widthWithout_32 rfl ?_
    refine r_callV (K' := Y_X8_widthBut) (R' := R_X8_widthBut) (idx := 446) (n := 3) (b := a0) (as := [(0, a1), (0, a2), (0, a3)]) (rest := []) (C' := 0) (D' := 0) (cn := 8) rfl k0_X8_widthBut kV_X8_widthBut kl_X8_446 ⟨by decide, by decide⟩ dX8_widthWithout_33 rfl rfl (Nat.le_of_ble_eq_true rfl) (by decide) (by decide) rfl h (fun r hr => m_X8_widthBut hl0 ⟨r, hr, hr⟩) (fun x3 τ4 _ h => ?_)
    refine r_goto 40 dX8_widthWithout_36 (by decide) ?_
    exact r_iret rfl dX8_widthWithout_40 h

set_option maxRecDepth 100000 in
set_option maxHeartbeats 4000000 in
theorem t_X8_widthWithout_22 {g : zF} (hl0 : g.2.2.2.1.stackTraces = false) {Q : zR × zS → Prop}   {a0 a1 a2 a3 s0 : Int} {σ : zS} (h : zo (f_X8_widthWithout_22  a0 a1 a2 a3 s0 σ) Q) : zw g Y_X8_widthWithout R_X8_widthWithout 22 [(0, (4, a0)), (1, (0, a1)), (2, (0, a2)), (3, (0, a3))] [(4, s0)] σ 0 0 Q := by
  unfold f_X8_widthWithout_22 at h
  refine r_iconst (v := 0) dX8_widthWithout_22 rfl rfl ?_
  exact t_X8_widthWithout_23 hl0   h

set_option maxRecDepth 100000 in
set_option maxHeartbeats 4000000 in
theorem t_X8_widthWithout {g : zF} (hl0 : g.2.2.2.1.stackTraces = false) {Q : zR × zS → Prop}   {a0 a1 a2 a3 : Int} {σ : zS} (h : zo (f_X8_widthWithout  a0 a1 a2 a3 σ) Q) : zw g Y_X8_widthWithout R_X8_widthWithout 0 [(0, (4, a0)), (1, (0, a1)), (2, (0, a2)), (3, (0, a3))] [] σ 0 0 Q := by
  unfold f_X8_widthWithout at h
  refine r_aload_n 0 dX8_widthWithout_0 rfl ?_
  refine r_aload_n 0 dX8_widthWithout_1 rfl ?_
  refine r_iload_n 1 dX8_widthWithout_2 rfl ?_
  refine r_iload_n 2 dX8_widthWithout_3 rfl ?_
  refine r_callV (K' := Y_X8_areThere) (R' := R_X8_areThere) (idx := 381) (n := 2) (b := a0) (as := [(0, a1), (0, a2)]) (rest := [(4, a0)]) (C' := 0) (D' := 0) (cn := 8) rfl k0_X8_areThere kV_X8_areThere kl_X8_381 ⟨by decide, by decide⟩ dX8_widthWithout_4 rfl rfl (Nat.le_of_ble_eq_true rfl) (by decide) (by decide) rfl h (fun r hr => m_X8_areThere hl0 ⟨r, hr, hr⟩) (fun x1 τ2 _ h => ?_)
  refine r_if_eq 22 dX8_widthWithout_7 (by decide) h (fun h => ?_) (fun h => ?_)
  · exact t_X8_widthWithout_22 hl0   h
  · refine r_aload_n 0 dX8_widthWithout_10 rfl ?_
    refine r_iload_n 3 dX8_widthWithout_11 rfl ?_
    refine r_callV (K' := Y_X8_isAgent) (R' := R_X8_isAgent) (idx := 88) (n := 1) (b := a0) (as := [(0, a3)]) (rest := [(4, a0)]) (C' := 0) (D' := 0) (cn := 8) rfl k0_X8_isAgent kV_X8_isAgent kl_X8_88 ⟨by decide, by decide⟩ dX8_widthWithout_12 rfl rfl (Nat.le_of_ble_eq_true rfl) (by decide) (by decide) rfl h (fun r hr => m_X8_isAgent hl0 ⟨r, hr, hr⟩) (fun x3 τ4 _ h => ?_)
    refine r_if_eq 22 dX8_widthWithout_15 (by decide) h (fun h => ?_) (fun h => ?_)
    · exact t_X8_widthWithout_22 hl0   h
    · refine r_iconst (v := 1) dX8_widthWithout_18 rfl rfl ?_
      refine r_goto 23 dX8_widthWithout_19 (by decide) ?_
      exact t_X8_widthWithout_23 hl0   h
theorem m_X8_widthWithout {g : zF} (hl0 : g.2.2.2.1.stackTraces = false) {Q : zR × zS → Prop} {a0 a1 a2 a3 : Int} {σ : zS} (h : zo (f_X8_widthWithout a0 a1 a2 a3 σ) Q) : zm g Y_X8_widthWithout R_X8_widthWithout [(4, a0), (0, a1), (0, a2), (0, a3)] σ Q := zm_of (by decide) rfl (Nat.le_of_ble_eq_true rfl) (t_X8_widthWithout hl0 h)


/- X8_mostUseful -/

set_option maxRecDepth 100000 in
set_option maxHeartbeats 4000000 in
theorem t_X8_mostUseful_93 {g : zF} (hl0 : g.2.2.2.1.stackTraces = false) {Q : zR × zS → Prop} (r21 : Int → Int → Int → Int → Int → zS → zFn) (hr21 : ∀ b0 b1 b2 b3 b4 τ, zo (r21 b0 b1 b2 b3 b4 τ) Q → zw g Y_X8_mostUseful R_X8_mostUseful 21 [(0, (4, b0)), (1, (0, b1)), (2, (0, b2)), (3, (0, b3)), (4, (0, b4))] [] τ 0 0 Q) {a0 a1 a2 a3 a4 : Int} {σ : zS} (h : zo (f_X8_mostUseful_93 r21 a0 a1 a2 a3 a4 σ) Q) : zw g Y_X8_mostUseful R_X8_mostUseful 93 [(0, (4, a0)), (1, (0, a1)), (2, (0, a2)), (3, (0, a3)), (4, (0, a4))] [] σ 0 0 Q := by
  unfold f_X8_mostUseful_93 at h
  refine r_iinc (L' := [(4, (0, (w32 (a4 + 1)))), (0, (4, a0)), (1, (0, a1)), (2, (0, a2)), (3, (0, a3))]) 4 dX8_mostUseful_93 rfl (by decide) rfl ?_
  refine r_goto 21 dX8_mostUseful_96 (by decide) ?_
  refine r_weak (L' := [(0, (4, a0)), (1, (0, a1)), (2, (0, a2)), (3, (0, a3)), (4, (0, (w32 (a4 + 1))))]) [1, 2, 3, 4, 0] rfl ?_
  exact hr21 _ _ _ _ _ _ h

set_option maxRecDepth 100000 in
set_option maxHeartbeats 4000000 in
theorem t_X8_mostUseful_78 {g : zF} (hl0 : g.2.2.2.1.stackTraces = false) {Q : zR × zS → Prop} (r21 : Int → Int → Int → Int → Int → zS → zFn) (hr21 : ∀ b0 b1 b2 b3 b4 τ, zo (r21 b0 b1 b2 b3 b4 τ) Q → zw g Y_X8_mostUseful R_X8_mostUseful 21 [(0, (4, b0)), (1, (0, b1)), (2, (0, b2)), (3, (0, b3)), (4, (0, b4))] [] τ 0 0 Q) {a0 a1 a2 a3 a4 a5 : Int} {σ : zS} (h : zo (f_X8_mostUseful_78 r21 a0 a1 a2 a3 a4 a5 σ) Q) : zw g Y_X8_mostUseful R_X8_mostUseful 78 [(0, (4, a0)), (1, (0, a1)), (2, (0, a2)), (3, (0, a3)), (4, (0, a4)), (5, (0, a5))] [] σ 0 0 Q := by
  unfold f_X8_mostUseful_78 at h
  refine r_iload 5 dX8_mostUseful_78 rfl ?_
  refine r_iload_n 3 dX8_mostUseful_80 rfl ?_
  refine r_icmp_gt 87 dX8_mostUseful_81 (by decide) h (fun h => ?_) (fun h => ?_)
  · refine r_iload 4 dX8_mostUseful_87 rfl ?_
    refine r_istore_n (L' := [(2, (0, a4)), (0, (4, a0)), (1, (0, a1)), (3, (0, a3)), (4, (0, a4)), (5, (0, a5))]) dX8_mostUseful_89 (by decide) rfl ?_
    refine r_iload 5 dX8_mostUseful_90 rfl ?_
    refine r_istore_n (L' := [(3, (0, a5)), (2, (0, a4)), (0, (4, a0)), (1, (0, a1)), (4, (0, a4)), (5, (0, a5))]) dX8_mostUseful_92 (by decide) rfl ?_
    refine r_weak (L' := [(0, (4, a0)), (1, (0, a1)), (2, (0, a4)), (3, (0, a5)), (4, (0, a4))]) [2, 3, 1, 0, 4] rfl ?_
    exact t_X8_mostUseful_93 hl0 r21 hr21 h
  · refine r_goto 93 dX8_mostUseful_84 (by decide) ?_
    refine r_weak (L' := [(0, (4, a0)), (1, (0, a1)), (2, (0, a2)), (3, (0, a3)), (4, (0, a4))]) [0, 1, 2, 3, 4] rfl ?_
    exact t_X8_mostUseful_93 hl0 r21 hr21 h

set_option maxRecDepth 100000 in
set_option maxHeartbeats 4000000 in
theorem t_X8_mostUseful_49 {g : zF} (hl0 : g.2.2.2.1.stackTraces = false) {Q : zR × zS → Prop} (r21 : Int → Int → Int → Int → Int → zS → zFn) (hr21 : ∀ b0 b1 b2 b3 b4 τ, zo (r21 b0 b1 b2 b3 b4 τ) Q → zw g Y_X8_mostUseful R_X8_mostUseful 21 [(0, (4, b0)), (1, (0, b1)), (2, (0, b2)), (3, (0, b3)), (4, (0, b4))] [] τ 0 0 Q) : ∀ (n : Nat) (a0 a1 a2 a3 a4 a5 a6 : Int) (σ : zS), zo (f_X8_mostUseful_49 r21 n a0 a1 a2 a3 a4 a5 a6 σ) Q → zw g Y_X8_mostUseful R_X8_mostUseful 49 [(0, (4, a0)), (1, (0, a1)), (2, (0, a2)), (3, (0, a3)), (4, (0, a4)), (5, (0, a5)), (6, (0, a6))] [] σ 0 0 Q := by
  intro n
  induction n with
  | zero => intro a0 a1 a2 a3 a4 a5 a6 σ h; obtain ⟨r, h, -⟩ := h; cases h
  | succ n ih =>
    intro a0 a1 a2 a3 a4 a5 a6 σ h
    unfold f_X8_mostUseful_49 at h
    refine r_iload 6 dX8_mostUseful_49 rfl ?_
    refine r_aload_n 0 dX8_mostUseful_51 rfl ?_
    refine r_callV (K' := Y_X8_ways) (R' := R_X8_ways) (idx := 74) (n := 0) (b := a0) (as := []) (rest := [(0, a6)]) (C' := 0) (D' := 0) (cn := 8) rfl k0_X8_ways kV_X8_ways kl_X8_74 ⟨by decide, by decide⟩ dX8_mostUseful_52 rfl rfl (Nat.le_of_ble_eq_true rfl) (by decide) (by decide) rfl h (fun r hr => m_X8_ways hl0 ⟨r, hr, hr⟩) (fun x1 τ2 _ h => ?_)
    refine r_icmp_ge 78 dX8_mostUseful_55 (by decide) h (fun h => ?_) (fun h => ?_)
    · refine r_weak (L' := [(0, (4, a0)), (1, (0, a1)), (2, (0, a2)), (3, (0, a3)), (4, (0, a4)), (5, (0, a5))]) [0, 1, 2, 3, 4, 5] rfl ?_
      exact t_X8_mostUseful_78 hl0 r21 hr21 h
    · refine r_iload 5 dX8_mostUseful_58 rfl ?_
      refine r_aload_n 0 dX8_mostUseful_60 rfl ?_
      refine r_iload_n 1 dX8_mostUseful_61 rfl ?_
      refine r_iload 6 dX8_mostUseful_62 rfl ?_
      refine r_iload 4 dX8_mostUseful_64 rfl ?_
      refine r_callV (K' := Y_X8_widthBut) (R' := R_X8_widthBut) (idx := 446) (n := 3) (b := a0) (as := [(0, a1), (0, a6), (0, a4)]) (rest := [(0, a5)]) (C' := 0) (D' := 0) (cn := 8) rfl k0_X8_widthBut kV_X8_widthBut kl_X8_446 ⟨by decide, by decide⟩ dX8_mostUseful_66 rfl rfl (Nat.le_of_ble_eq_true rfl) (by decide) (by decide) rfl h (fun r hr => m_X8_widthBut hl0 ⟨r, hr, hr⟩) (fun x3 τ4 _ h => ?_)
      refine r_iadd dX8_mostUseful_69 ?_
      refine r_istore (L' := [(5, (0, (w32 (a5 + x3)))), (0, (4, a0)), (1, (0, a1)), (2, (0, a2)), (3, (0, a3)), (4, (0, a4)), (6, (0, a6))]) dX8_mostUseful_70 (by decide) rfl ?_
      refine r_iinc (L' := [(6, (0, (w32 (a6 + 1)))), (5, (0, (w32 (a5 + x3)))), (0, (4, a0)), (1, (0, a1)), (2, (0, a2)), (3, (0, a3)), (4, (0, a4))]) 6 dX8_mostUseful_72 rfl (by decide) rfl ?_
      refine r_goto 49 dX8_mostUseful_75 (by decide) ?_
      refine r_weak (L' := [(0, (4, a0)), (1, (0, a1)), (2, (0, a2)), (3, (0, a3)), (4, (0, a4)), (5, (0, (w32 (a5 + x3)))), (6, (0, (w32 (a6 + 1))))]) [2, 3, 4, 5, 6, 1, 0] rfl ?_
      exact ih _ _ _ _ _ _ _ _ h

set_option maxRecDepth 100000 in
set_option maxHeartbeats 4000000 in
theorem t_X8_mostUseful_21 {g : zF} (hl0 : g.2.2.2.1.stackTraces = false) {Q : zR × zS → Prop}   : ∀ (n : Nat) (a0 a1 a2 a3 a4 : Int) (σ : zS), zo (f_X8_mostUseful_21  n a0 a1 a2 a3 a4 σ) Q → zw g Y_X8_mostUseful R_X8_mostUseful 21 [(0, (4, a0)), (1, (0, a1)), (2, (0, a2)), (3, (0, a3)), (4, (0, a4))] [] σ 0 0 Q := by
  intro n
  induction n with
  | zero => intro a0 a1 a2 a3 a4 σ h; obtain ⟨r, h, -⟩ := h; cases h
  | succ n ih =>
    intro a0 a1 a2 a3 a4 σ h
    unfold f_X8_mostUseful_21 at h
    refine r_iload 4 dX8_mostUseful_21 rfl ?_
    refine r_aload_n 0 dX8_mostUseful_23 rfl ?_
    refine r_callV (K' := Y_X8_agents) (R' := R_X8_agents) (idx := 66) (n := 0) (b := a0) (as := []) (rest := [(0, a4)]) (C' := 0) (D' := 0) (cn := 8) rfl k0_X8_agents kV_X8_agents kl_X8_66 ⟨by decide, by decide⟩ dX8_mostUseful_24 rfl rfl (Nat.le_of_ble_eq_true rfl) (by decide) (by decide) rfl h (fun r hr => m_X8_agents hl0 ⟨r, hr, hr⟩) (fun x1 τ2 _ h => ?_)
    refine r_icmp_ge 99 dX8_mostUseful_27 (by decide) h (fun h => ?_) (fun h => ?_)
    · refine r_iload_n 2 dX8_mostUseful_99 rfl ?_
      exact r_iret rfl dX8_mostUseful_100 h
    · refine r_aload_n 0 dX8_mostUseful_30 rfl ?_
      refine r_iload_n 1 dX8_mostUseful_31 rfl ?_
      refine r_iload 4 dX8_mostUseful_32 rfl ?_
      refine r_callV (K' := Y_X8_areLinked) (R' := R_X8_areLinked) (idx := 131) (n := 2) (b := a0) (as := [(0, a1), (0, a4)]) (rest := []) (C' := 0) (D' := 0) (cn := 8) rfl k0_X8_areLinked kV_X8_areLinked kl_X8_131 ⟨by decide, by decide⟩ dX8_mostUseful_34 rfl rfl (Nat.le_of_ble_eq_true rfl) (by decide) (by decide) rfl h (fun r hr => m_X8_areLinked hl0 ⟨r, hr, hr⟩) (fun x3 τ4 _ h => ?_)
      refine r_if_ne 43 dX8_mostUseful_37 (by decide) h (fun h => ?_) (fun h => ?_)
      · refine r_iconst (v := 0) dX8_mostUseful_43 rfl rfl ?_
        refine r_istore (L' := [(5, (0, 0)), (0, (4, a0)), (1, (0, a1)), (2, (0, a2)), (3, (0, a3)), (4, (0, a4))]) dX8_mostUseful_44 (by decide) rfl ?_
        refine r_iconst (v := 0) dX8_mostUseful_46 rfl rfl ?_
        refine r_istore (L' := [(6, (0, 0)), (5, (0, 0)), (0, (4, a0)), (1, (0, a1)), (2, (0, a2)), (3, (0, a3)), (4, (0, a4))]) dX8_mostUseful_47 (by decide) rfl ?_
        refine r_weak (L' := [(0, (4, a0)), (1, (0, a1)), (2, (0, a2)), (3, (0, a3)), (4, (0, a4)), (5, (0, 0)), (6, (0, 0))]) [2, 3, 4, 5, 6, 1, 0] rfl ?_
        exact t_X8_mostUseful_49 hl0 (f_X8_mostUseful_21  n) (fun b0 b1 b2 b3 b4 τ h => ih b0 b1 b2 b3 b4 τ h) zFU _ _ _ _ _ _ _ _ h
      · refine r_goto 93 dX8_mostUseful_40 (by decide) ?_
        exact t_X8_mostUseful_93 hl0 (f_X8_mostUseful_21  n) (fun b0 b1 b2 b3 b4 τ h => ih b0 b1 b2 b3 b4 τ h) h

set_option maxRecDepth 100000 in
set_option maxHeartbeats 4000000 in
theorem t_X8_mostUseful {g : zF} (hl0 : g.2.2.2.1.stackTraces = false) {Q : zR × zS → Prop}   {a0 a1 : Int} {σ : zS} (h : zo (f_X8_mostUseful  a0 a1 σ) Q) : zw g Y_X8_mostUseful R_X8_mostUseful 0 [(0, (4, a0)), (1, (0, a1))] [] σ 0 0 Q := by
  unfold f_X8_mostUseful at h
  refine r_aload_n 0 dX8_mostUseful_0 rfl ?_
  refine r_aload_n 0 dX8_mostUseful_1 rfl ?_
  refine r_iload_n 1 dX8_mostUseful_2 rfl ?_
  refine r_callV (K' := Y_X8_isAgent) (R' := R_X8_isAgent) (idx := 88) (n := 1) (b := a0) (as := [(0, a1)]) (rest := [(4, a0)]) (C' := 0) (D' := 0) (cn := 8) rfl k0_X8_isAgent kV_X8_isAgent kl_X8_88 ⟨by decide, by decide⟩ dX8_mostUseful_3 rfl rfl (Nat.le_of_ble_eq_true rfl) (by decide) (by decide) rfl h (fun r hr => m_X8_isAgent hl0 ⟨r, hr, hr⟩) (fun x1 τ2 _ h => ?_)
  refine r_callV (K' := Y_X8_passes) (R' := R_X8_passes) (idx := 215) (n := 1) (b := a0) (as := [(0, x1)]) (rest := []) (C' := 0) (D' := 0) (cn := 8) rfl k0_X8_passes kV_X8_passes kl_X8_215 ⟨by decide, by decide⟩ dX8_mostUseful_6 rfl rfl (Nat.le_of_ble_eq_true rfl) (by decide) (by decide) rfl h (fun r hr => m_X8_passes hl0 ⟨r, hr, hr⟩) (fun x3 τ4 _ h => ?_)
  refine r_if_ne 14 dX8_mostUseful_9 (by decide) h (fun h => ?_) (fun h => ?_)
  · refine r_iconst (v := (-1)) dX8_mostUseful_14 rfl rfl ?_
    refine r_istore_n (L' := [(2, (0, (-1))), (0, (4, a0)), (1, (0, a1))]) dX8_mostUseful_15 (by decide) rfl ?_
    refine r_iconst (v := (-1)) dX8_mostUseful_16 rfl rfl ?_
    refine r_istore_n (L' := [(3, (0, (-1))), (2, (0, (-1))), (0, (4, a0)), (1, (0, a1))]) dX8_mostUseful_17 (by decide) rfl ?_
    refine r_iconst (v := 0) dX8_mostUseful_18 rfl rfl ?_
    refine r_istore (L' := [(4, (0, 0)), (3, (0, (-1))), (2, (0, (-1))), (0, (4, a0)), (1, (0, a1))]) dX8_mostUseful_19 (by decide) rfl ?_
    refine r_weak (L' := [(0, (4, a0)), (1, (0, a1)), (2, (0, (-1))), (3, (0, (-1))), (4, (0, 0))]) [3, 4, 2, 1, 0] rfl ?_
    exact t_X8_mostUseful_21 hl0   zFU _ _ _ _ _ _ h
  · refine r_iconst (v := 0) dX8_mostUseful_12 rfl rfl ?_
    exact r_iret rfl dX8_mostUseful_13 h
theorem m_X8_mostUseful {g : zF} (hl0 : g.2.2.2.1.stackTraces = false) {Q : zR × zS → Prop} {a0 a1 : Int} {σ : zS} (h : zo (f_X8_mostUseful a0 a1 σ) Q) : zm g Y_X8_mostUseful R_X8_mostUseful [(4, a0), (0, a1)] σ Q := zm_of (by decide) rfl (Nat.le_of_ble_eq_true rfl) (t_X8_mostUseful hl0 h)

