/- X8_deliverAll -/

set_option maxRecDepth 100000 in
set_option maxHeartbeats 4000000 in
theorem t_X8_deliverAll_29 {g : zF} (hl0 : g.2.2.2.1.stackTraces = false) {Q : zR × zS → Prop} (r4 : Int → Int → Int → Int → zS → zFn) (hr4 : ∀ b0 b1 b2 b3 τ, zo (r4 b0 b1 b2 b3 τ) Q → zw g Y_X8_deliverAll R_X8_deliverAll 4 [(0, (4, b0)), (1, (0, b1)), (2, (0, b2)), (3, (0, b3))] [] τ 0 0 Q) {a0 a1 a3 s0 s1 : Int} {σ : zS} (h : zo (f_X8_deliverAll_29 r4 a0 a1 a3 s0 s1 σ) Q) : zw g Y_X8_deliverAll R_X8_deliverAll 29 [(0, (4, a0)), (1, (0, a1)), (3, (0, a3))] [(0, s1), (0, s0)] σ 0 0 Q := by
  unfold f_X8_deliverAll_29 at h
  refine r_iadd dX8_deliverAll_29 ?_
  refine r_istore_n (L' := [(2, (0, (w32 (s0 + s1)))), (0, (4, a0)), (1, (0, a1)), (3, (0, a3))]) dX8_deliverAll_30 (by decide) rfl ?_
  refine r_iinc (L' := [(3, (0, (w32 (a3 + 1)))), (2, (0, (w32 (s0 + s1)))), (0, (4, a0)), (1, (0, a1))]) 3 dX8_deliverAll_31 rfl (by decide) rfl ?_
  refine r_goto 4 dX8_deliverAll_34 (by decide) ?_
  refine r_weak (L' := [(0, (4, a0)), (1, (0, a1)), (2, (0, (w32 (s0 + s1)))), (3, (0, (w32 (a3 + 1))))]) [2, 3, 1, 0] rfl ?_
  exact hr4 _ _ _ _ _ h

set_option maxRecDepth 100000 in
set_option maxHeartbeats 4000000 in
theorem t_X8_deliverAll_4 {g : zF} (hl0 : g.2.2.2.1.stackTraces = false) {Q : zR × zS → Prop}   : ∀ (n : Nat) (a0 a1 a2 a3 : Int) (σ : zS), zo (f_X8_deliverAll_4  n a0 a1 a2 a3 σ) Q → zw g Y_X8_deliverAll R_X8_deliverAll 4 [(0, (4, a0)), (1, (0, a1)), (2, (0, a2)), (3, (0, a3))] [] σ 0 0 Q := by
  intro n
  induction n with
  | zero => intro a0 a1 a2 a3 σ h; obtain ⟨r, h, -⟩ := h; cases h
  | succ n ih =>
    intro a0 a1 a2 a3 σ h
    unfold f_X8_deliverAll_4 at h
    refine r_iload_n 3 dX8_deliverAll_4 rfl ?_
    refine r_iload_n 1 dX8_deliverAll_5 rfl ?_
    refine r_icmp_ge 37 dX8_deliverAll_6 (by decide) h (fun h => ?_) (fun h => ?_)
    · refine r_iload_n 2 dX8_deliverAll_37 rfl ?_
      exact r_iret rfl dX8_deliverAll_38 h
    · refine r_aload_n 0 dX8_deliverAll_9 rfl ?_
      refine r_callV (K' := Y_X8_queued) (R' := R_X8_queued) (idx := 160) (n := 0) (b := a0) (as := []) (rest := []) (C' := 0) (D' := 0) (cn := 8) rfl k0_X8_queued kV_X8_queued kl_X8_160 ⟨by decide, by decide⟩ dX8_deliverAll_10 rfl rfl (Nat.le_of_ble_eq_true rfl) (by decide) (by decide) rfl h (fun r hr => m_X8_queued hl0 ⟨r, hr, hr⟩) (fun x1 τ2 _ h => ?_)
      refine r_if_le 37 dX8_deliverAll_13 (by decide) h (fun h => ?_) (fun h => ?_)
      · refine r_iload_n 2 dX8_deliverAll_37 rfl ?_
        exact r_iret rfl dX8_deliverAll_38 h
      · refine r_iload_n 2 dX8_deliverAll_16 rfl ?_
        refine r_aload_n 0 dX8_deliverAll_17 rfl ?_
        refine r_callV (K' := Y_X8_delivers) (R' := R_X8_delivers) (idx := 175) (n := 0) (b := a0) (as := []) (rest := [(0, a2)]) (C' := 0) (D' := 0) (cn := 8) rfl k0_X8_delivers kV_X8_delivers kl_X8_175 ⟨by decide, by decide⟩ dX8_deliverAll_18 rfl rfl (Nat.le_of_ble_eq_true rfl) (by decide) (by decide) rfl h (fun r hr => m_X8_delivers hl0 ⟨r, hr, hr⟩) (fun x3 τ4 _ h => ?_)
        refine r_if_eq 28 dX8_deliverAll_21 (by decide) h (fun h => ?_) (fun h => ?_)
        · refine r_iconst (v := 0) dX8_deliverAll_28 rfl rfl ?_
          refine r_weak (L' := [(0, (4, a0)), (1, (0, a1)), (3, (0, a3))]) [0, 1, 3] rfl ?_
          exact t_X8_deliverAll_29 hl0 (f_X8_deliverAll_4  n) (fun b0 b1 b2 b3 τ h => ih b0 b1 b2 b3 τ h) h
        · refine r_iconst (v := 1) dX8_deliverAll_24 rfl rfl ?_
          refine r_goto 29 dX8_deliverAll_25 (by decide) ?_
          refine r_weak (L' := [(0, (4, a0)), (1, (0, a1)), (3, (0, a3))]) [0, 1, 3] rfl ?_
          exact t_X8_deliverAll_29 hl0 (f_X8_deliverAll_4  n) (fun b0 b1 b2 b3 τ h => ih b0 b1 b2 b3 τ h) h

set_option maxRecDepth 100000 in
set_option maxHeartbeats 4000000 in
theorem t_X8_deliverAll {g : zF} (hl0 : g.2.2.2.1.stackTraces = false) {Q : zR × zS → Prop}   {a0 a1 : Int} {σ : zS} (h : zo (f_X8_deliverAll  a0 a1 σ) Q) : zw g Y_X8_deliverAll R_X8_deliverAll 0 [(0, (4, a0)), (1, (0, a1))] [] σ 0 0 Q := by
  unfold f_X8_deliverAll at h
  refine r_iconst (v := 0) dX8_deliverAll_0 rfl rfl ?_
  refine r_istore_n (L' := [(2, (0, 0)), (0, (4, a0)), (1, (0, a1))]) dX8_deliverAll_1 (by decide) rfl ?_
  refine r_iconst (v := 0) dX8_deliverAll_2 rfl rfl ?_
  refine r_istore_n (L' := [(3, (0, 0)), (2, (0, 0)), (0, (4, a0)), (1, (0, a1))]) dX8_deliverAll_3 (by decide) rfl ?_
  refine r_weak (L' := [(0, (4, a0)), (1, (0, a1)), (2, (0, 0)), (3, (0, 0))]) [2, 3, 1, 0] rfl ?_
  exact t_X8_deliverAll_4 hl0   zFU _ _ _ _ _ h
theorem m_X8_deliverAll {g : zF} (hl0 : g.2.2.2.1.stackTraces = false) {Q : zR × zS → Prop} {a0 a1 : Int} {σ : zS} (h : zo (f_X8_deliverAll a0 a1 σ) Q) : zm g Y_X8_deliverAll R_X8_deliverAll [(4, a0), (0, a1)] σ Q := zm_of (by decide) rfl (Nat.le_of_ble_eq_true rfl) (t_X8_deliverAll hl0 h)


/- X8_doPass -/

set_option maxRecDepth 100000 in
set_option maxHeartbeats 4000000 in
theorem t_X8_doPass_96 {g : zF} (hl0 : g.2.2.2.1.stackTraces = false) {Q : zR × zS → Prop} (r14 : Int → Int → Int → zS → zFn) (hr14 : ∀ b0 b2 b3 τ, zo (r14 b0 b2 b3 τ) Q → zw g Y_X8_doPass R_X8_doPass 14 [(0, (4, b0)), (2, (0, b2)), (3, (0, b3))] [] τ 0 0 Q) {a0 a2 a3 : Int} {σ : zS} (h : zo (f_X8_doPass_96 r14 a0 a2 a3 σ) Q) : zw g Y_X8_doPass R_X8_doPass 96 [(0, (4, a0)), (2, (0, a2)), (3, (0, a3))] [] σ 0 0 Q := by
  unfold f_X8_doPass_96 at h
  refine r_iinc (L' := [(3, (0, (w32 (a3 + 1)))), (0, (4, a0)), (2, (0, a2))]) 2 dX8_doPass_96 rfl (by decide) rfl ?_
  refine r_goto 14 dX8_doPass_99 (by decide) ?_
  refine r_weak (L' := [(0, (4, a0)), (2, (0, a2)), (3, (0, (w32 (a3 + 1))))]) [1, 2, 0] rfl ?_
  exact hr14 _ _ _ _ h

set_option maxRecDepth 100000 in
set_option maxHeartbeats 4000000 in
theorem t_X8_doPass_91 {g : zF} (hl0 : g.2.2.2.1.stackTraces = false) {Q : zR × zS → Prop} (r14 : Int → Int → Int → zS → zFn) (r25 : Int → Int → Int → Int → zS → zFn) (hr14 : ∀ b0 b2 b3 τ, zo (r14 b0 b2 b3 τ) Q → zw g Y_X8_doPass R_X8_doPass 14 [(0, (4, b0)), (2, (0, b2)), (3, (0, b3))] [] τ 0 0 Q) (hr25 : ∀ b0 b2 b3 b4 τ, zo (r25 b0 b2 b3 b4 τ) Q → zw g Y_X8_doPass R_X8_doPass 25 [(0, (4, b0)), (2, (0, b2)), (3, (0, b3)), (4, (0, b4))] [] τ 0 0 Q) {a0 a3 a4 s0 s1 : Int} {σ : zS} (h : zo (f_X8_doPass_91 r14 r25 a0 a3 a4 s0 s1 σ) Q) : zw g Y_X8_doPass R_X8_doPass 91 [(0, (4, a0)), (3, (0, a3)), (4, (0, a4))] [(0, s1), (0, s0)] σ 0 0 Q := by
  unfold f_X8_doPass_91 at h
  refine r_iadd dX8_doPass_91 ?_
  refine r_istore_n (L' := [(2, (0, (w32 (s0 + s1)))), (0, (4, a0)), (3, (0, a3)), (4, (0, a4))]) dX8_doPass_92 (by decide) rfl ?_
  refine r_goto 25 dX8_doPass_93 (by decide) ?_
  refine r_weak (L' := [(0, (4, a0)), (2, (0, (w32 (s0 + s1)))), (3, (0, a3)), (4, (0, a4))]) [1, 0, 2, 3] rfl ?_
  exact hr25 _ _ _ _ _ h

set_option maxRecDepth 100000 in
set_option maxHeartbeats 4000000 in
theorem t_X8_doPass_80 {g : zF} (hl0 : g.2.2.2.1.stackTraces = false) {Q : zR × zS → Prop} (r14 : Int → Int → Int → zS → zFn) (r25 : Int → Int → Int → Int → zS → zFn) (hr14 : ∀ b0 b2 b3 τ, zo (r14 b0 b2 b3 τ) Q → zw g Y_X8_doPass R_X8_doPass 14 [(0, (4, b0)), (2, (0, b2)), (3, (0, b3))] [] τ 0 0 Q) (hr25 : ∀ b0 b2 b3 b4 τ, zo (r25 b0 b2 b3 b4 τ) Q → zw g Y_X8_doPass R_X8_doPass 25 [(0, (4, b0)), (2, (0, b2)), (3, (0, b3)), (4, (0, b4))] [] τ 0 0 Q) {a0 a2 a3 a4 a5 : Int} {σ : zS} (h : zo (f_X8_doPass_80 r14 r25 a0 a2 a3 a4 a5 σ) Q) : zw g Y_X8_doPass R_X8_doPass 80 [(0, (4, a0)), (2, (0, a2)), (3, (0, a3)), (4, (0, a4)), (5, (0, a5))] [] σ 0 0 Q := by
  unfold f_X8_doPass_80 at h
  refine r_iload_n 1 dX8_doPass_80 rfl ?_
  refine r_iload 4 dX8_doPass_81 rfl ?_
  refine r_if_eq 90 dX8_doPass_83 (by decide) h (fun h => ?_) (fun h => ?_)
  · refine r_iconst (v := 0) dX8_doPass_90 rfl rfl ?_
    refine r_weak (L' := [(0, (4, a0)), (3, (0, a3)), (4, (0, a4))]) [0, 2, 3] rfl ?_
    exact t_X8_doPass_91 hl0 r14 r25 hr14 hr25 h
  · refine r_iconst (v := 1) dX8_doPass_86 rfl rfl ?_
    refine r_goto 91 dX8_doPass_87 (by decide) ?_
    refine r_weak (L' := [(0, (4, a0)), (3, (0, a3)), (4, (0, a4))]) [0, 2, 3] rfl ?_
    exact t_X8_doPass_91 hl0 r14 r25 hr14 hr25 h

set_option maxRecDepth 100000 in
set_option maxHeartbeats 4000000 in
theorem t_X8_doPass_60 {g : zF} (hl0 : g.2.2.2.1.stackTraces = false) {Q : zR × zS → Prop} (r14 : Int → Int → Int → zS → zFn) (r25 : Int → Int → Int → Int → zS → zFn) (hr14 : ∀ b0 b2 b3 τ, zo (r14 b0 b2 b3 τ) Q → zw g Y_X8_doPass R_X8_doPass 14 [(0, (4, b0)), (2, (0, b2)), (3, (0, b3))] [] τ 0 0 Q) (hr25 : ∀ b0 b2 b3 b4 τ, zo (r25 b0 b2 b3 b4 τ) Q → zw g Y_X8_doPass R_X8_doPass 25 [(0, (4, b0)), (2, (0, b2)), (3, (0, b3)), (4, (0, b4))] [] τ 0 0 Q) {a0 a2 a3 a4 s0 : Int} {σ : zS} (h : zo (f_X8_doPass_60 r14 r25 a0 a2 a3 a4 s0 σ) Q) : zw g Y_X8_doPass R_X8_doPass 60 [(0, (4, a0)), (2, (0, a2)), (3, (0, a3)), (4, (0, a4))] [(0, s0)] σ 0 0 Q := by
  unfold f_X8_doPass_60 at h
  refine r_istore (L' := [(5, (0, s0)), (0, (4, a0)), (2, (0, a2)), (3, (0, a3)), (4, (0, a4))]) dX8_doPass_60 (by decide) rfl ?_
  refine r_iload 0 dX8_doPass_62 rfl ?_
  refine r_if_eq 77 dX8_doPass_64 (by decide) h (fun h => ?_) (fun h => ?_)
  · refine r_iinc (L' := [(4, (0, (w32 (a4 + 1)))), (5, (0, s0)), (0, (4, a0)), (2, (0, a2)), (3, (0, a3))]) 4 dX8_doPass_77 rfl (by decide) rfl ?_
    refine r_weak (L' := [(0, (4, a0)), (2, (0, a2)), (3, (0, a3)), (4, (0, (w32 (a4 + 1)))), (5, (0, s0))]) [2, 3, 4, 0, 1] rfl ?_
    exact t_X8_doPass_80 hl0 r14 r25 hr14 hr25 h
  · refine r_aload_n 1 dX8_doPass_67 rfl ?_
    refine r_iload_n 3 dX8_doPass_68 rfl ?_
    refine r_iload 4 dX8_doPass_69 rfl ?_
    refine r_callV (K' := Y_X8_dropReport) (R' := R_X8_dropReport) (idx := 147) (n := 2) (b := a0) (as := [(0, a3), (0, a4)]) (rest := []) (C' := 0) (D' := 0) (cn := 8) rfl k0_X8_dropReport kV_X8_dropReport kl_X8_147 ⟨by decide, by decide⟩ dX8_doPass_71 rfl rfl (Nat.le_of_ble_eq_true rfl) (by decide) (by decide) rfl h (fun r hr => m_X8_dropReport hl0 ⟨r, hr, hr⟩) (fun _ τ2 _ h => ?_)
    refine r_goto 80 dX8_doPass_74 (by decide) ?_
    refine r_weak (L' := [(0, (4, a0)), (2, (0, a2)), (3, (0, a3)), (4, (0, a4)), (5, (0, s0))]) [1, 2, 3, 4, 0] rfl ?_
    exact t_X8_doPass_80 hl0 r14 r25 hr14 hr25 h

set_option maxRecDepth 100000 in
set_option maxHeartbeats 4000000 in
theorem t_X8_doPass_25 {g : zF} (hl0 : g.2.2.2.1.stackTraces = false) {Q : zR × zS → Prop} (r14 : Int → Int → Int → zS → zFn) (hr14 : ∀ b0 b2 b3 τ, zo (r14 b0 b2 b3 τ) Q → zw g Y_X8_doPass R_X8_doPass 14 [(0, (4, b0)), (2, (0, b2)), (3, (0, b3))] [] τ 0 0 Q) : ∀ (n : Nat) (a0 a2 a3 a4 : Int) (σ : zS), zo (f_X8_doPass_25 r14 n a0 a2 a3 a4 σ) Q → zw g Y_X8_doPass R_X8_doPass 25 [(0, (4, a0)), (2, (0, a2)), (3, (0, a3)), (4, (0, a4))] [] σ 0 0 Q := by
  intro n
  induction n with
  | zero => intro a0 a2 a3 a4 σ h; obtain ⟨r, h, -⟩ := h; cases h
  | succ n ih =>
    intro a0 a2 a3 a4 σ h
    unfold f_X8_doPass_25 at h
    refine r_iload 3 dX8_doPass_25 rfl ?_
    refine r_aload_n 0 dX8_doPass_27 rfl ?_
    refine r_iload_n 2 dX8_doPass_28 rfl ?_
    refine r_callV (K' := Y_X8_manyOf) (R' := R_X8_manyOf) (idx := 92) (n := 1) (b := a0) (as := [(0, a3)]) (rest := [(0, a4)]) (C' := 0) (D' := 0) (cn := 8) rfl k0_X8_manyOf kV_X8_manyOf kl_X8_92 ⟨by decide, by decide⟩ dX8_doPass_29 rfl rfl (Nat.le_of_ble_eq_true rfl) (by decide) (by decide) rfl h (fun r hr => m_X8_manyOf hl0 ⟨r, hr, hr⟩) (fun x1 τ2 _ h => ?_)
    refine r_icmp_ge 96 dX8_doPass_32 (by decide) h (fun h => ?_) (fun h => ?_)
    · refine r_weak (L' := [(0, (4, a0)), (2, (0, a2)), (3, (0, a3))]) [0, 1, 2] rfl ?_
      exact t_X8_doPass_96 hl0 r14 hr14 h
    · refine r_aload_n 0 dX8_doPass_35 rfl ?_
      refine r_aload_n 0 dX8_doPass_36 rfl ?_
      refine r_iload_n 2 dX8_doPass_37 rfl ?_
      refine r_iload 3 dX8_doPass_38 rfl ?_
      refine r_iconst (v := 4) dX8_doPass_40 rfl rfl ?_
      refine r_callV (K' := Y_X8_ofReport) (R' := R_X8_ofReport) (idx := 95) (n := 3) (b := a0) (as := [(0, a3), (0, a4), (0, 4)]) (rest := [(4, a0)]) (C' := 0) (D' := 0) (cn := 8) rfl k0_X8_ofReport kV_X8_ofReport kl_X8_95 ⟨by decide, by decide⟩ dX8_doPass_41 rfl rfl (Nat.le_of_ble_eq_true rfl) (by decide) (by decide) rfl h (fun r hr => m_X8_ofReport hl0 ⟨r, hr, hr⟩) (fun x3 τ4 _ h => ?_)
      refine r_callV (K' := Y_X8_ageAt) (R' := R_X8_ageAt) (idx := 113) (n := 1) (b := a0) (as := [(0, x3)]) (rest := []) (C' := 0) (D' := 0) (cn := 8) rfl k0_X8_ageAt kV_X8_ageAt kl_X8_113 ⟨by decide, by decide⟩ dX8_doPass_44 rfl rfl (Nat.le_of_ble_eq_true rfl) (by decide) (by decide) rfl h (fun r hr => m_X8_ageAt hl0 ⟨r, hr, hr⟩) (fun x5 τ6 _ h => ?_)
      refine r_aload_n 0 dX8_doPass_47 rfl ?_
      refine r_iconst (v := 3) dX8_doPass_48 rfl rfl ?_
      refine r_callV (K' := Y_X8_rule) (R' := R_X8_rule) (idx := 110) (n := 1) (b := a0) (as := [(0, 3)]) (rest := [(0, x5)]) (C' := 0) (D' := 0) (cn := 8) rfl k0_X8_rule kV_X8_rule kl_X8_110 ⟨by decide, by decide⟩ dX8_doPass_49 rfl rfl (Nat.le_of_ble_eq_true rfl) (by decide) (by decide) rfl h (fun r hr => m_X8_rule hl0 ⟨r, hr, hr⟩) (fun x7 τ8 _ h => ?_)
      refine r_icmp_le 59 dX8_doPass_52 (by decide) h (fun h => ?_) (fun h => ?_)
      · refine r_iconst (v := 0) dX8_doPass_59 rfl rfl ?_
        exact t_X8_doPass_60 hl0 r14 (f_X8_doPass_25 r14 n) hr14 (fun b0 b2 b3 b4 τ h => ih b0 b2 b3 b4 τ h) h
      · refine r_iconst (v := 1) dX8_doPass_55 rfl rfl ?_
        refine r_goto 60 dX8_doPass_56 (by decide) ?_
        exact t_X8_doPass_60 hl0 r14 (f_X8_doPass_25 r14 n) hr14 (fun b0 b2 b3 b4 τ h => ih b0 b2 b3 b4 τ h) h

set_option maxRecDepth 100000 in
set_option maxHeartbeats 4000000 in
theorem t_X8_doPass_14 {g : zF} (hl0 : g.2.2.2.1.stackTraces = false) {Q : zR × zS → Prop}   : ∀ (n : Nat) (a0 a2 a3 : Int) (σ : zS), zo (f_X8_doPass_14  n a0 a2 a3 σ) Q → zw g Y_X8_doPass R_X8_doPass 14 [(0, (4, a0)), (2, (0, a2)), (3, (0, a3))] [] σ 0 0 Q := by
  intro n
  induction n with
  | zero => intro a0 a2 a3 σ h; obtain ⟨r, h, -⟩ := h; cases h
  | succ n ih =>
    intro a0 a2 a3 σ h
    unfold f_X8_doPass_14 at h
    refine r_iload_n 2 dX8_doPass_14 rfl ?_
    refine r_aload_n 0 dX8_doPass_15 rfl ?_
    refine r_callV (K' := Y_X8_agents) (R' := R_X8_agents) (idx := 66) (n := 0) (b := a0) (as := []) (rest := [(0, a3)]) (C' := 0) (D' := 0) (cn := 8) rfl k0_X8_agents kV_X8_agents kl_X8_66 ⟨by decide, by decide⟩ dX8_doPass_16 rfl rfl (Nat.le_of_ble_eq_true rfl) (by decide) (by decide) rfl h (fun r hr => m_X8_agents hl0 ⟨r, hr, hr⟩) (fun x1 τ2 _ h => ?_)
    refine r_icmp_ge 102 dX8_doPass_19 (by decide) h (fun h => ?_) (fun h => ?_)
    · refine r_iload_n 1 dX8_doPass_102 rfl ?_
      exact r_iret rfl dX8_doPass_103 h
    · refine r_iconst (v := 0) dX8_doPass_22 rfl rfl ?_
      refine r_istore (L' := [(4, (0, 0)), (0, (4, a0)), (2, (0, a2)), (3, (0, a3))]) dX8_doPass_23 (by decide) rfl ?_
      refine r_weak (L' := [(0, (4, a0)), (2, (0, a2)), (3, (0, a3)), (4, (0, 0))]) [1, 2, 3, 0] rfl ?_
      exact t_X8_doPass_25 hl0 (f_X8_doPass_14  n) (fun b0 b2 b3 τ h => ih b0 b2 b3 τ h) zFU _ _ _ _ _ h

set_option maxRecDepth 100000 in
set_option maxHeartbeats 4000000 in
theorem t_X8_doPass {g : zF} (hl0 : g.2.2.2.1.stackTraces = false) {Q : zR × zS → Prop}   {a0 a1 : Int} {σ : zS} (h : zo (f_X8_doPass  a0 a1 σ) Q) : zw g Y_X8_doPass R_X8_doPass 0 [(0, (4, a0)), (1, (0, a1))] [] σ 0 0 Q := by
  unfold f_X8_doPass at h
  refine r_aload_n 0 dX8_doPass_0 rfl ?_
  refine r_getr fd_X8_24 rfl dX8_doPass_1 h (fun x1 h => ?_)
  refine r_iconst (v := 2) dX8_doPass_4 rfl rfl ?_
  refine r_dup2 dX8_doPass_5 rfl rfl ?_
  refine r_iald dX8_doPass_6 h (fun x2 h => ?_)
  refine r_iload_n 1 dX8_doPass_7 rfl ?_
  refine r_iadd dX8_doPass_8 ?_
  refine r_iast dX8_doPass_9 h (fun τ3 h => ?_)
  refine r_iconst (v := 0) dX8_doPass_10 rfl rfl ?_
  refine r_istore_n (L' := [(2, (0, 0)), (0, (4, a0)), (1, (0, a1))]) dX8_doPass_11 (by decide) rfl ?_
  refine r_iconst (v := 0) dX8_doPass_12 rfl rfl ?_
  refine r_istore_n (L' := [(3, (0, 0)), (2, (0, 0)), (0, (4, a0)), (1, (0, a1))]) dX8_doPass_13 (by decide) rfl ?_
  refine r_weak (L' := [(0, (4, a0)), (2, (0, 0)), (3, (0, 0))]) [2, 1, 0] rfl ?_
  exact t_X8_doPass_14 hl0   zFU _ _ _ _ h
theorem m_X8_doPass {g : zF} (hl0 : g.2.2.2.1.stackTraces = false) {Q : zR × zS → Prop} {a0 a1 : Int} {σ : zS} (h : zo (f_X8_doPass a0 a1 σ) Q) : zm g Y_X8_doPass R_X8_doPass [(4, a0), (0, a1)] σ Q := zm_of (by decide) rfl (Nat.le_of_ble_eq_true rfl) (t_X8_doPass hl0 h)


/- X8_trustInVia -/

set_option maxRecDepth 100000 in
set_option maxHeartbeats 4000000 in
theorem t_X8_trustInVia {g : zF} (hl0 : g.2.2.2.1.stackTraces = false) {Q : zR × zS → Prop}   {a0 a1 a2 : Int} {σ : zS} (h : zo (f_X8_trustInVia  a0 a1 a2 σ) Q) : zw g Y_X8_trustInVia R_X8_trustInVia 0 [(0, (4, a0)), (1, (0, a1)), (2, (0, a2))] [] σ 0 0 Q := by
  unfold f_X8_trustInVia at h
  refine r_aload_n 0 dX8_trustInVia_0 rfl ?_
  refine r_iload_n 1 dX8_trustInVia_1 rfl ?_
  refine r_iload_n 2 dX8_trustInVia_2 rfl ?_
  refine r_callV (K' := Y_X8_isOwn) (R' := R_X8_isOwn) (idx := 179) (n := 2) (b := a0) (as := [(0, a1), (0, a2)]) (rest := []) (C' := 0) (D' := 0) (cn := 8) rfl k0_X8_isOwn kV_X8_isOwn kl_X8_179 ⟨by decide, by decide⟩ dX8_trustInVia_3 rfl rfl (Nat.le_of_ble_eq_true rfl) (by decide) (by decide) rfl h (fun r hr => m_X8_isOwn hl0 ⟨r, hr, hr⟩) (fun x1 τ2 _ h => ?_)
  refine r_if_eq 14 dX8_trustInVia_6 (by decide) h (fun h => ?_) (fun h => ?_)
  · refine r_aload_n 0 dX8_trustInVia_14 rfl ?_
    refine r_iload_n 1 dX8_trustInVia_15 rfl ?_
    refine r_aload_n 0 dX8_trustInVia_16 rfl ?_
    refine r_iload_n 1 dX8_trustInVia_17 rfl ?_
    refine r_iload_n 2 dX8_trustInVia_18 rfl ?_
    refine r_iconst (v := 1) dX8_trustInVia_19 rfl rfl ?_
    refine r_callV (K' := Y_X8_ofReport) (R' := R_X8_ofReport) (idx := 95) (n := 3) (b := a0) (as := [(0, a1), (0, a2), (0, 1)]) (rest := [(0, a1), (4, a0)]) (C' := 0) (D' := 0) (cn := 8) rfl k0_X8_ofReport kV_X8_ofReport kl_X8_95 ⟨by decide, by decide⟩ dX8_trustInVia_20 rfl rfl (Nat.le_of_ble_eq_true rfl) (by decide) (by decide) rfl h (fun r hr => m_X8_ofReport hl0 ⟨r, hr, hr⟩) (fun x3 τ4 _ h => ?_)
    refine r_callV (K' := Y_X8_trustOf) (R' := R_X8_trustOf) (idx := 77) (n := 2) (b := a0) (as := [(0, a1), (0, x3)]) (rest := []) (C' := 0) (D' := 0) (cn := 8) rfl k0_X8_trustOf kV_X8_trustOf kl_X8_77 ⟨by decide, by decide⟩ dX8_trustInVia_23 rfl rfl (Nat.le_of_ble_eq_true rfl) (by decide) (by decide) rfl h (fun r hr => m_X8_trustOf hl0 ⟨r, hr, hr⟩) (fun x5 τ6 _ h => ?_)
    exact r_iret rfl dX8_trustInVia_26 h
  · refine r_bipush (v := 10) dX8_trustInVia_9 rfl rfl ?_
    refine r_goto 26 dX8_trustInVia_11 (by decide) ?_
    exact r_iret rfl dX8_trustInVia_26 h
theorem m_X8_trustInVia {g : zF} (hl0 : g.2.2.2.1.stackTraces = false) {Q : zR × zS → Prop} {a0 a1 a2 : Int} {σ : zS} (h : zo (f_X8_trustInVia a0 a1 a2 σ) Q) : zm g Y_X8_trustInVia R_X8_trustInVia [(4, a0), (0, a1), (0, a2)] σ Q := zm_of (by decide) rfl (Nat.le_of_ble_eq_true rfl) (t_X8_trustInVia hl0 h)


/- X8_isOut -/

set_option maxRecDepth 100000 in
set_option maxHeartbeats 4000000 in
theorem t_X8_isOut {g : zF} (hl0 : g.2.2.2.1.stackTraces = false) {Q : zR × zS → Prop}   {a0 a1 a2 : Int} {σ : zS} (h : zo (f_X8_isOut  a0 a1 a2 σ) Q) : zw g Y_X8_isOut R_X8_isOut 0 [(0, (4, a0)), (1, (0, a1)), (2, (0, a2))] [] σ 0 0 Q := by
  unfold f_X8_isOut at h
  refine r_aload_n 0 dX8_isOut_0 rfl ?_
  refine r_iload_n 1 dX8_isOut_1 rfl ?_
  refine r_iload_n 2 dX8_isOut_2 rfl ?_
  refine r_callV (K' := Y_X8_isOwn) (R' := R_X8_isOwn) (idx := 179) (n := 2) (b := a0) (as := [(0, a1), (0, a2)]) (rest := []) (C' := 0) (D' := 0) (cn := 8) rfl k0_X8_isOwn kV_X8_isOwn kl_X8_179 ⟨by decide, by decide⟩ dX8_isOut_3 rfl rfl (Nat.le_of_ble_eq_true rfl) (by decide) (by decide) rfl h (fun r hr => m_X8_isOwn hl0 ⟨r, hr, hr⟩) (fun x1 τ2 _ h => ?_)
  refine r_if_ne 37 dX8_isOut_6 (by decide) h (fun h => ?_) (fun h => ?_)
  · refine r_iconst (v := 0) dX8_isOut_37 rfl rfl ?_
    exact r_zretc (by decide) rfl dX8_isOut_38 h
  · refine r_aload_n 0 dX8_isOut_9 rfl ?_
    refine r_iload_n 1 dX8_isOut_10 rfl ?_
    refine r_iload_n 2 dX8_isOut_11 rfl ?_
    refine r_callV (K' := Y_X8_trustInVia) (R' := R_X8_trustInVia) (idx := 182) (n := 2) (b := a0) (as := [(0, a1), (0, a2)]) (rest := []) (C' := 0) (D' := 0) (cn := 8) rfl k0_X8_trustInVia kV_X8_trustInVia kl_X8_182 ⟨by decide, by decide⟩ dX8_isOut_12 rfl rfl (Nat.le_of_ble_eq_true rfl) (by decide) (by decide) rfl h (fun r hr => m_X8_trustInVia hl0 ⟨r, hr, hr⟩) (fun x3 τ4 _ h => ?_)
    refine r_iconst (v := (-1)) dX8_isOut_15 rfl rfl ?_
    refine r_icmp_eq 33 dX8_isOut_16 (by decide) h (fun h => ?_) (fun h => ?_)
    · refine r_iconst (v := 1) dX8_isOut_33 rfl rfl ?_
      refine r_goto 38 dX8_isOut_34 (by decide) ?_
      exact r_zretc (by decide) rfl dX8_isOut_38 h
    · refine r_aload_n 0 dX8_isOut_19 rfl ?_
      refine r_iload_n 1 dX8_isOut_20 rfl ?_
      refine r_iload_n 2 dX8_isOut_21 rfl ?_
      refine r_callV (K' := Y_X8_trustInVia) (R' := R_X8_trustInVia) (idx := 182) (n := 2) (b := a0) (as := [(0, a1), (0, a2)]) (rest := []) (C' := 0) (D' := 0) (cn := 8) rfl k0_X8_trustInVia kV_X8_trustInVia kl_X8_182 ⟨by decide, by decide⟩ dX8_isOut_22 rfl rfl (Nat.le_of_ble_eq_true rfl) (by decide) (by decide) rfl h (fun r hr => m_X8_trustInVia hl0 ⟨r, hr, hr⟩) (fun x5 τ6 _ h => ?_)
      refine r_aload_n 0 dX8_isOut_25 rfl ?_
      refine r_iconst (v := 2) dX8_isOut_26 rfl rfl ?_
      refine r_callV (K' := Y_X8_rule) (R' := R_X8_rule) (idx := 110) (n := 1) (b := a0) (as := [(0, 2)]) (rest := [(0, x5)]) (C' := 0) (D' := 0) (cn := 8) rfl k0_X8_rule kV_X8_rule kl_X8_110 ⟨by decide, by decide⟩ dX8_isOut_27 rfl rfl (Nat.le_of_ble_eq_true rfl) (by decide) (by decide) rfl h (fun r hr => m_X8_rule hl0 ⟨r, hr, hr⟩) (fun x7 τ8 _ h => ?_)
      refine r_icmp_ge 37 dX8_isOut_30 (by decide) h (fun h => ?_) (fun h => ?_)
      · refine r_iconst (v := 0) dX8_isOut_37 rfl rfl ?_
        exact r_zretc (by decide) rfl dX8_isOut_38 h
      · refine r_iconst (v := 1) dX8_isOut_33 rfl rfl ?_
        refine r_goto 38 dX8_isOut_34 (by decide) ?_
        exact r_zretc (by decide) rfl dX8_isOut_38 h
theorem m_X8_isOut {g : zF} (hl0 : g.2.2.2.1.stackTraces = false) {Q : zR × zS → Prop} {a0 a1 a2 : Int} {σ : zS} (h : zo (f_X8_isOut a0 a1 a2 σ) Q) : zm g Y_X8_isOut R_X8_isOut [(4, a0), (0, a1), (0, a2)] σ Q := zm_of (by decide) rfl (Nat.le_of_ble_eq_true rfl) (t_X8_isOut hl0 h)


/- X8_movedBy -/

set_option maxRecDepth 100000 in
set_option maxHeartbeats 4000000 in
theorem t_X8_movedBy_36 {g : zF} (hl0 : g.2.2.2.1.stackTraces = false) {Q : zR × zS → Prop}   {a0 a1 a2 s0 : Int} {σ : zS} (h : zo (f_X8_movedBy_36  a0 a1 a2 s0 σ) Q) : zw g Y_X8_movedBy R_X8_movedBy 36 [(0, (4, a0)), (1, (0, a1)), (2, (0, a2))] [(0, s0)] σ 0 0 Q := by
  unfold f_X8_movedBy_36 at h
  refine r_istore_n (L' := [(3, (0, s0)), (0, (4, a0)), (1, (0, a1)), (2, (0, a2))]) dX8_movedBy_36 (by decide) rfl ?_
  refine r_aload_n 1 dX8_movedBy_37 rfl ?_
  refine r_iload_n 2 dX8_movedBy_38 rfl ?_
  refine r_iload_n 3 dX8_movedBy_39 rfl ?_
  refine r_callV (K' := Y_X8_driftOf) (R' := R_X8_driftOf) (idx := 122) (n := 2) (b := a0) (as := [(0, a1), (0, a2)]) (rest := []) (C' := 0) (D' := 0) (cn := 8) rfl k0_X8_driftOf kV_X8_driftOf kl_X8_122 ⟨by decide, by decide⟩ dX8_movedBy_40 rfl rfl (Nat.le_of_ble_eq_true rfl) (by decide) (by decide) rfl h (fun r hr => m_X8_driftOf hl0 ⟨r, hr, hr⟩) (fun x1 τ2 _ h => ?_)
  refine r_iload_n 0 dX8_movedBy_43 rfl ?_
  refine r_iadd dX8_movedBy_44 ?_
  exact r_iret rfl dX8_movedBy_45 h

set_option maxRecDepth 100000 in
set_option maxHeartbeats 4000000 in
theorem t_X8_movedBy {g : zF} (hl0 : g.2.2.2.1.stackTraces = false) {Q : zR × zS → Prop}   {a0 a1 a2 : Int} {σ : zS} (h : zo (f_X8_movedBy  a0 a1 a2 σ) Q) : zw g Y_X8_movedBy R_X8_movedBy 0 [(0, (4, a0)), (1, (0, a1)), (2, (0, a2))] [] σ 0 0 Q := by
  unfold f_X8_movedBy at h
  refine r_aload_n 0 dX8_movedBy_0 rfl ?_
  refine r_iload_n 1 dX8_movedBy_1 rfl ?_
  refine r_iload_n 2 dX8_movedBy_2 rfl ?_
  refine r_callV (K' := Y_X8_isOwn) (R' := R_X8_isOwn) (idx := 179) (n := 2) (b := a0) (as := [(0, a1), (0, a2)]) (rest := []) (C' := 0) (D' := 0) (cn := 8) rfl k0_X8_isOwn kV_X8_isOwn kl_X8_179 ⟨by decide, by decide⟩ dX8_movedBy_3 rfl rfl (Nat.le_of_ble_eq_true rfl) (by decide) (by decide) rfl h (fun r hr => m_X8_isOwn hl0 ⟨r, hr, hr⟩) (fun x1 τ2 _ h => ?_)
  refine r_if_eq 13 dX8_movedBy_6 (by decide) h (fun h => ?_) (fun h => ?_)
  · refine r_aload_n 0 dX8_movedBy_13 rfl ?_
    refine r_iconst (v := 1) dX8_movedBy_14 rfl rfl ?_
    refine r_callV (K' := Y_X8_rule) (R' := R_X8_rule) (idx := 110) (n := 1) (b := a0) (as := [(0, 1)]) (rest := []) (C' := 0) (D' := 0) (cn := 8) rfl k0_X8_rule kV_X8_rule kl_X8_110 ⟨by decide, by decide⟩ dX8_movedBy_15 rfl rfl (Nat.le_of_ble_eq_true rfl) (by decide) (by decide) rfl h (fun r hr => m_X8_rule hl0 ⟨r, hr, hr⟩) (fun x3 τ4 _ h => ?_)
    refine r_bipush (v := 10) dX8_movedBy_18 rfl rfl ?_
    refine r_aload_n 0 dX8_movedBy_20 rfl ?_
    refine r_iload_n 1 dX8_movedBy_21 rfl ?_
    refine r_iload_n 2 dX8_movedBy_22 rfl ?_
    refine r_callV (K' := Y_X8_trustInVia) (R' := R_X8_trustInVia) (idx := 182) (n := 2) (b := a0) (as := [(0, a1), (0, a2)]) (rest := [(0, 10), (0, x3)]) (C' := 0) (D' := 0) (cn := 8) rfl k0_X8_trustInVia kV_X8_trustInVia kl_X8_182 ⟨by decide, by decide⟩ dX8_movedBy_23 rfl rfl (Nat.le_of_ble_eq_true rfl) (by decide) (by decide) rfl h (fun r hr => m_X8_trustInVia hl0 ⟨r, hr, hr⟩) (fun x5 τ6 _ h => ?_)
    refine r_isub dX8_movedBy_26 ?_
    refine r_imul dX8_movedBy_27 ?_
    refine r_aload_n 0 dX8_movedBy_28 rfl ?_
    refine r_iload_n 1 dX8_movedBy_29 rfl ?_
    refine r_iload_n 2 dX8_movedBy_30 rfl ?_
    refine r_iconst (v := 2) dX8_movedBy_31 rfl rfl ?_
    refine r_callV (K' := Y_X8_ofReport) (R' := R_X8_ofReport) (idx := 95) (n := 3) (b := a0) (as := [(0, a1), (0, a2), (0, 2)]) (rest := [(0, (w32 (x3 * (w32 (10 - x5)))))]) (C' := 0) (D' := 0) (cn := 8) rfl k0_X8_ofReport kV_X8_ofReport kl_X8_95 ⟨by decide, by decide⟩ dX8_movedBy_32 rfl rfl (Nat.le_of_ble_eq_true rfl) (by decide) (by decide) rfl h (fun r hr => m_X8_ofReport hl0 ⟨r, hr, hr⟩) (fun x7 τ8 _ h => ?_)
    refine r_imul dX8_movedBy_35 ?_
    exact t_X8_movedBy_36 hl0   h
  · refine r_iconst (v := 0) dX8_movedBy_9 rfl rfl ?_
    refine r_goto 36 dX8_movedBy_10 (by decide) ?_
    exact t_X8_movedBy_36 hl0   h
theorem m_X8_movedBy {g : zF} (hl0 : g.2.2.2.1.stackTraces = false) {Q : zR × zS → Prop} {a0 a1 a2 : Int} {σ : zS} (h : zo (f_X8_movedBy a0 a1 a2 σ) Q) : zm g Y_X8_movedBy R_X8_movedBy [(4, a0), (0, a1), (0, a2)] σ Q := zm_of (by decide) rfl (Nat.le_of_ble_eq_true rfl) (t_X8_movedBy hl0 h)


/- X8_isAhead -/

set_option maxRecDepth 100000 in
set_option maxHeartbeats 4000000 in
theorem t_X8_isAhead_18 {g : zF} (hl0 : g.2.2.2.1.stackTraces = false) {Q : zR × zS → Prop}   {a0 a1 a2 : Int} {σ : zS} (h : zo (f_X8_isAhead_18  a0 a1 a2 σ) Q) : zw g Y_X8_isAhead R_X8_isAhead 18 [(0, (4, a0)), (1, (0, a1)), (2, (0, a2))] [] σ 0 0 Q := by
  unfold f_X8_isAhead_18 at h
  refine r_aload_n 0 dX8_isAhead_18 rfl ?_
  refine r_iload_n 1 dX8_isAhead_19 rfl ?_
  refine r_iload_n 2 dX8_isAhead_20 rfl ?_
  refine r_callV (K' := Y_X8_isOwn) (R' := R_X8_isOwn) (idx := 179) (n := 2) (b := a0) (as := [(0, a1), (0, a2)]) (rest := []) (C' := 0) (D' := 0) (cn := 8) rfl k0_X8_isOwn kV_X8_isOwn kl_X8_179 ⟨by decide, by decide⟩ dX8_isAhead_21 rfl rfl (Nat.le_of_ble_eq_true rfl) (by decide) (by decide) rfl h (fun r hr => m_X8_isOwn hl0 ⟨r, hr, hr⟩) (fun x1 τ2 _ h => ?_)
  exact r_zret rfl dX8_isAhead_24 h

set_option maxRecDepth 100000 in
set_option maxHeartbeats 4000000 in
theorem t_X8_isAhead {g : zF} (hl0 : g.2.2.2.1.stackTraces = false) {Q : zR × zS → Prop}   {a0 a1 a2 a3 : Int} {σ : zS} (h : zo (f_X8_isAhead  a0 a1 a2 a3 σ) Q) : zw g Y_X8_isAhead R_X8_isAhead 0 [(0, (4, a0)), (1, (0, a1)), (2, (0, a2)), (3, (0, a3))] [] σ 0 0 Q := by
  unfold f_X8_isAhead at h
  refine r_aload_n 0 dX8_isAhead_0 rfl ?_
  refine r_iload_n 1 dX8_isAhead_1 rfl ?_
  refine r_iload_n 2 dX8_isAhead_2 rfl ?_
  refine r_callV (K' := Y_X8_isOwn) (R' := R_X8_isOwn) (idx := 179) (n := 2) (b := a0) (as := [(0, a1), (0, a2)]) (rest := []) (C' := 0) (D' := 0) (cn := 8) rfl k0_X8_isOwn kV_X8_isOwn kl_X8_179 ⟨by decide, by decide⟩ dX8_isAhead_3 rfl rfl (Nat.le_of_ble_eq_true rfl) (by decide) (by decide) rfl h (fun r hr => m_X8_isOwn hl0 ⟨r, hr, hr⟩) (fun x1 τ2 _ h => ?_)
  refine r_if_ne 18 dX8_isAhead_6 (by decide) h (fun h => ?_) (fun h => ?_)
  · refine r_weak (L' := [(0, (4, a0)), (1, (0, a1)), (2, (0, a2))]) [0, 1, 2] rfl ?_
    exact t_X8_isAhead_18 hl0   h
  · refine r_aload_n 0 dX8_isAhead_9 rfl ?_
    refine r_iload_n 1 dX8_isAhead_10 rfl ?_
    refine r_iload_n 3 dX8_isAhead_11 rfl ?_
    refine r_callV (K' := Y_X8_isOwn) (R' := R_X8_isOwn) (idx := 179) (n := 2) (b := a0) (as := [(0, a1), (0, a3)]) (rest := []) (C' := 0) (D' := 0) (cn := 8) rfl k0_X8_isOwn kV_X8_isOwn kl_X8_179 ⟨by decide, by decide⟩ dX8_isAhead_12 rfl rfl (Nat.le_of_ble_eq_true rfl) (by decide) (by decide) rfl h (fun r hr => m_X8_isOwn hl0 ⟨r, hr, hr⟩) (fun x3 τ4 _ h => ?_)
    refine r_if_eq 25 dX8_isAhead_15 (by decide) h (fun h => ?_) (fun h => ?_)
    · refine r_aload_n 0 dX8_isAhead_25 rfl ?_
      refine r_iload_n 1 dX8_isAhead_26 rfl ?_
      refine r_iload_n 2 dX8_isAhead_27 rfl ?_
      refine r_callV (K' := Y_X8_trustInVia) (R' := R_X8_trustInVia) (idx := 182) (n := 2) (b := a0) (as := [(0, a1), (0, a2)]) (rest := []) (C' := 0) (D' := 0) (cn := 8) rfl k0_X8_trustInVia kV_X8_trustInVia kl_X8_182 ⟨by decide, by decide⟩ dX8_isAhead_28 rfl rfl (Nat.le_of_ble_eq_true rfl) (by decide) (by decide) rfl h (fun r hr => m_X8_trustInVia hl0 ⟨r, hr, hr⟩) (fun x5 τ6 _ h => ?_)
      refine r_aload_n 0 dX8_isAhead_31 rfl ?_
      refine r_iload_n 1 dX8_isAhead_32 rfl ?_
      refine r_iload_n 3 dX8_isAhead_33 rfl ?_
      refine r_callV (K' := Y_X8_trustInVia) (R' := R_X8_trustInVia) (idx := 182) (n := 2) (b := a0) (as := [(0, a1), (0, a3)]) (rest := [(0, x5)]) (C' := 0) (D' := 0) (cn := 8) rfl k0_X8_trustInVia kV_X8_trustInVia kl_X8_182 ⟨by decide, by decide⟩ dX8_isAhead_34 rfl rfl (Nat.le_of_ble_eq_true rfl) (by decide) (by decide) rfl h (fun r hr => m_X8_trustInVia hl0 ⟨r, hr, hr⟩) (fun x7 τ8 _ h => ?_)
      refine r_isub dX8_isAhead_37 ?_
      refine r_istore (L' := [(4, (0, (w32 (x5 - x7)))), (0, (4, a0)), (1, (0, a1)), (2, (0, a2)), (3, (0, a3))]) dX8_isAhead_38 (by decide) rfl ?_
      refine r_iload 0 dX8_isAhead_40 rfl ?_
      refine r_if_eq 56 dX8_isAhead_42 (by decide) h (fun h => ?_) (fun h => ?_)
      · refine r_aload_n 1 dX8_isAhead_56 rfl ?_
        refine r_iload_n 2 dX8_isAhead_57 rfl ?_
        refine r_iload_n 3 dX8_isAhead_58 rfl ?_
        refine r_iconst (v := 2) dX8_isAhead_59 rfl rfl ?_
        refine r_callV (K' := Y_X8_ofReport) (R' := R_X8_ofReport) (idx := 95) (n := 3) (b := a0) (as := [(0, a1), (0, a2), (0, 2)]) (rest := []) (C' := 0) (D' := 0) (cn := 8) rfl k0_X8_ofReport kV_X8_ofReport kl_X8_95 ⟨by decide, by decide⟩ dX8_isAhead_60 rfl rfl (Nat.le_of_ble_eq_true rfl) (by decide) (by decide) rfl h (fun r hr => m_X8_ofReport hl0 ⟨r, hr, hr⟩) (fun x9 τ10 _ h => ?_)
        refine r_aload_n 1 dX8_isAhead_63 rfl ?_
        refine r_iload_n 2 dX8_isAhead_64 rfl ?_
        refine r_iload_n 4 dX8_isAhead_65 rfl ?_
        refine r_iconst (v := 2) dX8_isAhead_66 rfl rfl ?_
        refine r_callV (K' := Y_X8_ofReport) (R' := R_X8_ofReport) (idx := 95) (n := 3) (b := a0) (as := [(0, a1), (0, a3), (0, 2)]) (rest := [(0, x9)]) (C' := 0) (D' := 0) (cn := 8) rfl k0_X8_ofReport kV_X8_ofReport kl_X8_95 ⟨by decide, by decide⟩ dX8_isAhead_67 rfl rfl (Nat.le_of_ble_eq_true rfl) (by decide) (by decide) rfl h (fun r hr => m_X8_ofReport hl0 ⟨r, hr, hr⟩) (fun x11 τ12 _ h => ?_)
        refine r_isub dX8_isAhead_70 ?_
        refine r_istore (L' := [(5, (0, (w32 (x9 - x11)))), (4, (0, (w32 (x5 - x7)))), (0, (4, a0)), (1, (0, a1)), (2, (0, a2)), (3, (0, a3))]) dX8_isAhead_71 (by decide) rfl ?_
        refine r_iload 0 dX8_isAhead_73 rfl ?_
        refine r_if_eq 91 dX8_isAhead_75 (by decide) h (fun h => ?_) (fun h => ?_)
        · refine r_aload_n 2 dX8_isAhead_91 rfl ?_
          refine r_iload_n 3 dX8_isAhead_92 rfl ?_
          refine r_iload_n 4 dX8_isAhead_93 rfl ?_
          refine r_iconst (v := 0) dX8_isAhead_94 rfl rfl ?_
          refine r_callV (K' := Y_X8_ofReport) (R' := R_X8_ofReport) (idx := 95) (n := 3) (b := a0) (as := [(0, a1), (0, a2), (0, 0)]) (rest := []) (C' := 0) (D' := 0) (cn := 8) rfl k0_X8_ofReport kV_X8_ofReport kl_X8_95 ⟨by decide, by decide⟩ dX8_isAhead_95 rfl rfl (Nat.le_of_ble_eq_true rfl) (by decide) (by decide) rfl h (fun r hr => m_X8_ofReport hl0 ⟨r, hr, hr⟩) (fun x13 τ14 _ h => ?_)
          refine r_aload_n 2 dX8_isAhead_98 rfl ?_
          refine r_iload_n 3 dX8_isAhead_99 rfl ?_
          refine r_iload_n 5 dX8_isAhead_100 rfl ?_
          refine r_iconst (v := 0) dX8_isAhead_101 rfl rfl ?_
          refine r_callV (K' := Y_X8_ofReport) (R' := R_X8_ofReport) (idx := 95) (n := 3) (b := a0) (as := [(0, a1), (0, a3), (0, 0)]) (rest := [(0, x13)]) (C' := 0) (D' := 0) (cn := 8) rfl k0_X8_ofReport kV_X8_ofReport kl_X8_95 ⟨by decide, by decide⟩ dX8_isAhead_102 rfl rfl (Nat.le_of_ble_eq_true rfl) (by decide) (by decide) rfl h (fun r hr => m_X8_ofReport hl0 ⟨r, hr, hr⟩) (fun x15 τ16 _ h => ?_)
          refine r_icmp_ge 112 dX8_isAhead_105 (by decide) h (fun h => ?_) (fun h => ?_)
          · refine r_iconst (v := 0) dX8_isAhead_112 rfl rfl ?_
            exact r_zretc (by decide) rfl dX8_isAhead_113 h
          · refine r_iconst (v := 1) dX8_isAhead_108 rfl rfl ?_
            refine r_goto 113 dX8_isAhead_109 (by decide) ?_
            exact r_zretc (by decide) rfl dX8_isAhead_113 h
        · refine r_iload 0 dX8_isAhead_78 rfl ?_
          refine r_if_ge 87 dX8_isAhead_80 (by decide) h (fun h => ?_) (fun h => ?_)
          · refine r_iconst (v := 0) dX8_isAhead_87 rfl rfl ?_
            refine r_goto 113 dX8_isAhead_88 (by decide) ?_
            exact r_zretc (by decide) rfl dX8_isAhead_113 h
          · refine r_iconst (v := 1) dX8_isAhead_83 rfl rfl ?_
            refine r_goto 113 dX8_isAhead_84 (by decide) ?_
            exact r_zretc (by decide) rfl dX8_isAhead_113 h
      · refine r_iload 0 dX8_isAhead_45 rfl ?_
        refine r_if_le 54 dX8_isAhead_47 (by decide) h (fun h => ?_) (fun h => ?_)
        · refine r_iconst (v := 0) dX8_isAhead_54 rfl rfl ?_
          exact r_zretc (by decide) rfl dX8_isAhead_55 h
        · refine r_iconst (v := 1) dX8_isAhead_50 rfl rfl ?_
          refine r_goto 55 dX8_isAhead_51 (by decide) ?_
          exact r_zretc (by decide) rfl dX8_isAhead_55 h
    · refine r_weak (L' := [(0, (4, a0)), (1, (0, a1)), (2, (0, a2))]) [0, 1, 2] rfl ?_
      exact t_X8_isAhead_18 hl0   h
theorem m_X8_isAhead {g : zF} (hl0 : g.2.2.2.1.stackTraces = false) {Q : zR × zS → Prop} {a0 a1 a2 a3 : Int} {σ : zS} (h : zo (f_X8_isAhead a0 a1 a2 a3 σ) Q) : zm g Y_X8_isAhead R_X8_isAhead [(4, a0), (0, a1), (0, a2), (0, a3)] σ Q := zm_of (by decide) rfl (Nat.le_of_ble_eq_true rfl) (t_X8_isAhead hl0 h)


/- X8_nextReport -/

set_option maxRecDepth 100000 in
set_option maxHeartbeats 4000000 in
theorem t_X8_nextReport_39 {g : zF} (hl0 : g.2.2.2.1.stackTraces = false) {Q : zR × zS → Prop} (r4 : Int → Int → Int → Int → zS → zFn) (hr4 : ∀ b0 b1 b2 b3 τ, zo (r4 b0 b1 b2 b3 τ) Q → zw g Y_X8_nextReport R_X8_nextReport 4 [(0, (4, b0)), (1, (0, b1)), (2, (0, b2)), (3, (0, b3))] [] τ 0 0 Q) {a0 a1 a2 a3 : Int} {σ : zS} (h : zo (f_X8_nextReport_39 r4 a0 a1 a2 a3 σ) Q) : zw g Y_X8_nextReport R_X8_nextReport 39 [(0, (4, a0)), (1, (0, a1)), (2, (0, a2)), (3, (0, a3))] [] σ 0 0 Q := by
  unfold f_X8_nextReport_39 at h
  refine r_iinc (L' := [(3, (0, (w32 (a3 + 1)))), (0, (4, a0)), (1, (0, a1)), (2, (0, a2))]) 3 dX8_nextReport_39 rfl (by decide) rfl ?_
  refine r_goto 4 dX8_nextReport_42 (by decide) ?_
  refine r_weak (L' := [(0, (4, a0)), (1, (0, a1)), (2, (0, a2)), (3, (0, (w32 (a3 + 1))))]) [1, 2, 3, 0] rfl ?_
  exact hr4 _ _ _ _ _ h

set_option maxRecDepth 100000 in
set_option maxHeartbeats 4000000 in
theorem t_X8_nextReport_37 {g : zF} (hl0 : g.2.2.2.1.stackTraces = false) {Q : zR × zS → Prop} (r4 : Int → Int → Int → Int → zS → zFn) (hr4 : ∀ b0 b1 b2 b3 τ, zo (r4 b0 b1 b2 b3 τ) Q → zw g Y_X8_nextReport R_X8_nextReport 4 [(0, (4, b0)), (1, (0, b1)), (2, (0, b2)), (3, (0, b3))] [] τ 0 0 Q) {a0 a1 a3 : Int} {σ : zS} (h : zo (f_X8_nextReport_37 r4 a0 a1 a3 σ) Q) : zw g Y_X8_nextReport R_X8_nextReport 37 [(0, (4, a0)), (1, (0, a1)), (3, (0, a3))] [] σ 0 0 Q := by
  unfold f_X8_nextReport_37 at h
  refine r_iload_n 2 dX8_nextReport_37 rfl ?_
  refine r_istore_n (L' := [(2, (0, a3)), (0, (4, a0)), (1, (0, a1)), (3, (0, a3))]) dX8_nextReport_38 (by decide) rfl ?_
  refine r_weak (L' := [(0, (4, a0)), (1, (0, a1)), (2, (0, a3)), (3, (0, a3))]) [1, 2, 0, 3] rfl ?_
  exact t_X8_nextReport_39 hl0 r4 hr4 h

set_option maxRecDepth 100000 in
set_option maxHeartbeats 4000000 in
theorem t_X8_nextReport_4 {g : zF} (hl0 : g.2.2.2.1.stackTraces = false) {Q : zR × zS → Prop}   : ∀ (n : Nat) (a0 a1 a2 a3 : Int) (σ : zS), zo (f_X8_nextReport_4  n a0 a1 a2 a3 σ) Q → zw g Y_X8_nextReport R_X8_nextReport 4 [(0, (4, a0)), (1, (0, a1)), (2, (0, a2)), (3, (0, a3))] [] σ 0 0 Q := by
  intro n
  induction n with
  | zero => intro a0 a1 a2 a3 σ h; obtain ⟨r, h, -⟩ := h; cases h
  | succ n ih =>
    intro a0 a1 a2 a3 σ h
    unfold f_X8_nextReport_4 at h
    refine r_iload_n 3 dX8_nextReport_4 rfl ?_
    refine r_aload_n 0 dX8_nextReport_5 rfl ?_
    refine r_iload_n 1 dX8_nextReport_6 rfl ?_
    refine r_callV (K' := Y_X8_manyOf) (R' := R_X8_manyOf) (idx := 92) (n := 1) (b := a0) (as := [(0, a1)]) (rest := [(0, a3)]) (C' := 0) (D' := 0) (cn := 8) rfl k0_X8_manyOf kV_X8_manyOf kl_X8_92 ⟨by decide, by decide⟩ dX8_nextReport_7 rfl rfl (Nat.le_of_ble_eq_true rfl) (by decide) (by decide) rfl h (fun r hr => m_X8_manyOf hl0 ⟨r, hr, hr⟩) (fun x1 τ2 _ h => ?_)
    refine r_icmp_ge 45 dX8_nextReport_10 (by decide) h (fun h => ?_) (fun h => ?_)
    · refine r_iload_n 2 dX8_nextReport_45 rfl ?_
      exact r_iret rfl dX8_nextReport_46 h
    · refine r_aload_n 0 dX8_nextReport_13 rfl ?_
      refine r_getr fd_X8_33 rfl dX8_nextReport_14 h (fun x3 h => ?_)
      refine r_iload_n 3 dX8_nextReport_17 rfl ?_
      refine r_zald dX8_nextReport_18 h (fun x4 h => ?_)
      refine r_if_ne 39 dX8_nextReport_19 (by decide) h (fun h => ?_) (fun h => ?_)
      · exact t_X8_nextReport_39 hl0 (f_X8_nextReport_4  n) (fun b0 b1 b2 b3 τ h => ih b0 b1 b2 b3 τ h) h
      · refine r_iload_n 2 dX8_nextReport_22 rfl ?_
        refine r_iconst (v := (-1)) dX8_nextReport_23 rfl rfl ?_
        refine r_icmp_eq 37 dX8_nextReport_24 (by decide) h (fun h => ?_) (fun h => ?_)
        · refine r_weak (L' := [(0, (4, a0)), (1, (0, a1)), (3, (0, a3))]) [0, 1, 3] rfl ?_
          exact t_X8_nextReport_37 hl0 (f_X8_nextReport_4  n) (fun b0 b1 b2 b3 τ h => ih b0 b1 b2 b3 τ h) h
        · refine r_aload_n 0 dX8_nextReport_27 rfl ?_
          refine r_iload_n 1 dX8_nextReport_28 rfl ?_
          refine r_iload_n 3 dX8_nextReport_29 rfl ?_
          refine r_iload_n 2 dX8_nextReport_30 rfl ?_
          refine r_callV (K' := Y_X8_isAhead) (R' := R_X8_isAhead) (idx := 185) (n := 3) (b := a0) (as := [(0, a1), (0, a3), (0, a2)]) (rest := []) (C' := 0) (D' := 0) (cn := 8) rfl k0_X8_isAhead kV_X8_isAhead kl_X8_185 ⟨by decide, by decide⟩ dX8_nextReport_31 rfl rfl (Nat.le_of_ble_eq_true rfl) (by decide) (by decide) rfl h (fun r hr => m_X8_isAhead hl0 ⟨r, hr, hr⟩) (fun x5 τ6 _ h => ?_)
          refine r_if_eq 39 dX8_nextReport_34 (by decide) h (fun h => ?_) (fun h => ?_)
          · exact t_X8_nextReport_39 hl0 (f_X8_nextReport_4  n) (fun b0 b1 b2 b3 τ h => ih b0 b1 b2 b3 τ h) h
          · refine r_weak (L' := [(0, (4, a0)), (1, (0, a1)), (3, (0, a3))]) [0, 1, 3] rfl ?_
            exact t_X8_nextReport_37 hl0 (f_X8_nextReport_4  n) (fun b0 b1 b2 b3 τ h => ih b0 b1 b2 b3 τ h) h

set_option maxRecDepth 100000 in
set_option maxHeartbeats 4000000 in
theorem t_X8_nextReport {g : zF} (hl0 : g.2.2.2.1.stackTraces = false) {Q : zR × zS → Prop}   {a0 a1 : Int} {σ : zS} (h : zo (f_X8_nextReport  a0 a1 σ) Q) : zw g Y_X8_nextReport R_X8_nextReport 0 [(0, (4, a0)), (1, (0, a1))] [] σ 0 0 Q := by
  unfold f_X8_nextReport at h
  refine r_iconst (v := (-1)) dX8_nextReport_0 rfl rfl ?_
  refine r_istore_n (L' := [(2, (0, (-1))), (0, (4, a0)), (1, (0, a1))]) dX8_nextReport_1 (by decide) rfl ?_
  refine r_iconst (v := 0) dX8_nextReport_2 rfl rfl ?_
  refine r_istore_n (L' := [(3, (0, 0)), (2, (0, (-1))), (0, (4, a0)), (1, (0, a1))]) dX8_nextReport_3 (by decide) rfl ?_
  refine r_weak (L' := [(0, (4, a0)), (1, (0, a1)), (2, (0, (-1))), (3, (0, 0))]) [2, 3, 1, 0] rfl ?_
  exact t_X8_nextReport_4 hl0   zFU _ _ _ _ _ h
theorem m_X8_nextReport {g : zF} (hl0 : g.2.2.2.1.stackTraces = false) {Q : zR × zS → Prop} {a0 a1 : Int} {σ : zS} (h : zo (f_X8_nextReport a0 a1 σ) Q) : zm g Y_X8_nextReport R_X8_nextReport [(4, a0), (0, a1)] σ Q := zm_of (by decide) rfl (Nat.le_of_ble_eq_true rfl) (t_X8_nextReport hl0 h)


/- X8_layBelief -/

set_option maxRecDepth 100000 in
set_option maxHeartbeats 4000000 in
theorem t_X8_layBelief_225 {g : zF} (hl0 : g.2.2.2.1.stackTraces = false) {Q : zR × zS → Prop} (r116 : Int → Int → Int → zS → zFn) (hr116 : ∀ b0 b1 b3 τ, zo (r116 b0 b1 b3 τ) Q → zw g Y_X8_layBelief R_X8_layBelief 116 [(0, (4, b0)), (1, (0, b1)), (3, (0, b3))] [] τ 0 0 Q) {a0 a1 s0 s1 : Int} {σ : zS} (h : zo (f_X8_layBelief_225 r116 a0 a1 s0 s1 σ) Q) : zw g Y_X8_layBelief R_X8_layBelief 225 [(0, (4, a0)), (1, (0, a1))] [(0, s1), (4, s0)] σ 0 0 Q := by
  unfold f_X8_layBelief_225 at h
  refine r_putf fd_X8_191 fp_X8_layBelief_191 dX8_layBelief_225 h (fun τ1 h => ?_)
  refine r_aload_n 0 dX8_layBelief_228 rfl ?_
  refine r_iload_n 1 dX8_layBelief_229 rfl ?_
  refine r_callV (K' := Y_X8_nextReport) (R' := R_X8_nextReport) (idx := 197) (n := 1) (b := a0) (as := [(0, a1)]) (rest := []) (C' := 0) (D' := 0) (cn := 8) rfl k0_X8_nextReport kV_X8_nextReport kl_X8_197 ⟨by decide, by decide⟩ dX8_layBelief_230 rfl rfl (Nat.le_of_ble_eq_true rfl) (by decide) (by decide) rfl h (fun r hr => m_X8_nextReport hl0 ⟨r, hr, hr⟩) (fun x2 τ3 _ h => ?_)
  refine r_istore_n (L' := [(3, (0, x2)), (0, (4, a0)), (1, (0, a1))]) dX8_layBelief_233 (by decide) rfl ?_
  refine r_goto 116 dX8_layBelief_234 (by decide) ?_
  refine r_weak (L' := [(0, (4, a0)), (1, (0, a1)), (3, (0, x2))]) [1, 2, 0] rfl ?_
  exact hr116 _ _ _ _ h

set_option maxRecDepth 100000 in
set_option maxHeartbeats 4000000 in
theorem t_X8_layBelief_205 {g : zF} (hl0 : g.2.2.2.1.stackTraces = false) {Q : zR × zS → Prop} (r116 : Int → Int → Int → zS → zFn) (hr116 : ∀ b0 b1 b3 τ, zo (r116 b0 b1 b3 τ) Q → zw g Y_X8_layBelief R_X8_layBelief 116 [(0, (4, b0)), (1, (0, b1)), (3, (0, b3))] [] τ 0 0 Q) {a0 a1 a4 a5 s0 s1 : Int} {σ : zS} (h : zo (f_X8_layBelief_205 r116 a0 a1 a4 a5 s0 s1 σ) Q) : zw g Y_X8_layBelief R_X8_layBelief 205 [(0, (4, a0)), (1, (0, a1)), (4, (0, a4)), (5, (0, a5))] [(0, s1), (4, s0)] σ 0 0 Q := by
  unfold f_X8_layBelief_205 at h
  refine r_putf fd_X8_188 fp_X8_layBelief_188 dX8_layBelief_205 h (fun τ1 h => ?_)
  refine r_aload_n 0 dX8_layBelief_208 rfl ?_
  refine r_iload 2 dX8_layBelief_209 rfl ?_
  refine r_iload 3 dX8_layBelief_211 rfl ?_
  refine r_icmp_gt 221 dX8_layBelief_213 (by decide) h (fun h => ?_) (fun h => ?_)
  · refine r_aload_n 0 dX8_layBelief_221 rfl ?_
    refine r_getf fd_X8_191 rfl dX8_layBelief_222 h (fun x2 h => ?_)
    refine r_weak (L' := [(0, (4, a0)), (1, (0, a1))]) [0, 1] rfl ?_
    exact t_X8_layBelief_225 hl0 r116 hr116 h
  · refine r_iload 3 dX8_layBelief_216 rfl ?_
    refine r_goto 225 dX8_layBelief_218 (by decide) ?_
    refine r_weak (L' := [(0, (4, a0)), (1, (0, a1))]) [0, 1] rfl ?_
    exact t_X8_layBelief_225 hl0 r116 hr116 h

set_option maxRecDepth 100000 in
set_option maxHeartbeats 4000000 in
theorem t_X8_layBelief_187 {g : zF} (hl0 : g.2.2.2.1.stackTraces = false) {Q : zR × zS → Prop} (r116 : Int → Int → Int → zS → zFn) (hr116 : ∀ b0 b1 b3 τ, zo (r116 b0 b1 b3 τ) Q → zw g Y_X8_layBelief R_X8_layBelief 116 [(0, (4, b0)), (1, (0, b1)), (3, (0, b3))] [] τ 0 0 Q) {a0 a1 a4 a5 s0 s1 s2 : Int} {σ : zS} (h : zo (f_X8_layBelief_187 r116 a0 a1 a4 a5 s0 s1 s2 σ) Q) : zw g Y_X8_layBelief R_X8_layBelief 187 [(0, (4, a0)), (1, (0, a1)), (4, (0, a4)), (5, (0, a5))] [(0, s2), (0, s1), (4, s0)] σ 0 0 Q := by
  unfold f_X8_layBelief_187 at h
  refine r_iast dX8_layBelief_187 h (fun τ1 h => ?_)
  refine r_aload_n 0 dX8_layBelief_188 rfl ?_
  refine r_iload 2 dX8_layBelief_189 rfl ?_
  refine r_iload 3 dX8_layBelief_191 rfl ?_
  refine r_icmp_gt 201 dX8_layBelief_193 (by decide) h (fun h => ?_) (fun h => ?_)
  · refine r_aload_n 0 dX8_layBelief_201 rfl ?_
    refine r_getf fd_X8_188 rfl dX8_layBelief_202 h (fun x2 h => ?_)
    exact t_X8_layBelief_205 hl0 r116 hr116 h
  · refine r_iload 2 dX8_layBelief_196 rfl ?_
    refine r_goto 205 dX8_layBelief_198 (by decide) ?_
    exact t_X8_layBelief_205 hl0 r116 hr116 h

set_option maxRecDepth 100000 in
set_option maxHeartbeats 4000000 in
theorem t_X8_layBelief_116 {g : zF} (hl0 : g.2.2.2.1.stackTraces = false) {Q : zR × zS → Prop}   : ∀ (n : Nat) (a0 a1 a3 : Int) (σ : zS), zo (f_X8_layBelief_116  n a0 a1 a3 σ) Q → zw g Y_X8_layBelief R_X8_layBelief 116 [(0, (4, a0)), (1, (0, a1)), (3, (0, a3))] [] σ 0 0 Q := by
  intro n
  induction n with
  | zero => intro a0 a1 a3 σ h; obtain ⟨r, h, -⟩ := h; cases h
  | succ n ih =>
    intro a0 a1 a3 σ h
    unfold f_X8_layBelief_116 at h
    refine r_iload_n 2 dX8_layBelief_116 rfl ?_
    refine r_iconst (v := (-1)) dX8_layBelief_117 rfl rfl ?_
    refine r_icmp_eq 237 dX8_layBelief_118 (by decide) h (fun h => ?_) (fun h => ?_)
    · exact r_vret rfl dX8_layBelief_237 h
    · refine r_aload_n 0 dX8_layBelief_121 rfl ?_
      refine r_getr fd_X8_33 rfl dX8_layBelief_122 h (fun x1 h => ?_)
      refine r_iload_n 2 dX8_layBelief_125 rfl ?_
      refine r_iconst (v := 1) dX8_layBelief_126 rfl rfl ?_
      refine r_zast dX8_layBelief_127 h (fun τ2 h => ?_)
      refine r_aload_n 0 dX8_layBelief_128 rfl ?_
      refine r_getf fd_X8_188 rfl dX8_layBelief_129 h (fun x3 h => ?_)
      refine r_aload_n 0 dX8_layBelief_132 rfl ?_
      refine r_iload_n 1 dX8_layBelief_133 rfl ?_
      refine r_iload_n 2 dX8_layBelief_134 rfl ?_
      refine r_aload_n 0 dX8_layBelief_135 rfl ?_
      refine r_iload_n 1 dX8_layBelief_136 rfl ?_
      refine r_iload_n 2 dX8_layBelief_137 rfl ?_
      refine r_callV (K' := Y_X8_movedBy) (R' := R_X8_movedBy) (idx := 200) (n := 2) (b := a0) (as := [(0, a1), (0, a3)]) (rest := [(0, a3), (0, a1), (4, a0), (0, x3)]) (C' := 0) (D' := 0) (cn := 8) rfl k0_X8_movedBy kV_X8_movedBy kl_X8_200 ⟨by decide, by decide⟩ dX8_layBelief_138 rfl rfl (Nat.le_of_ble_eq_true rfl) (by decide) (by decide) rfl h (fun r hr => m_X8_movedBy hl0 ⟨r, hr, hr⟩) (fun x4 τ5 _ h => ?_)
      refine r_callV (K' := Y_X8_lowBy) (R' := R_X8_lowBy) (idx := 125) (n := 3) (b := a0) (as := [(0, a1), (0, a3), (0, x4)]) (rest := [(0, x3)]) (C' := 0) (D' := 0) (cn := 8) rfl k0_X8_lowBy kV_X8_lowBy kl_X8_125 ⟨by decide, by decide⟩ dX8_layBelief_141 rfl rfl (Nat.le_of_ble_eq_true rfl) (by decide) (by decide) rfl h (fun r hr => m_X8_lowBy hl0 ⟨r, hr, hr⟩) (fun x6 τ7 _ h => ?_)
      refine r_mmax mq_X8_102 ⟨by decide, Nat.le_of_ble_eq_true rfl⟩ rfl dX8_layBelief_144 ?_
      refine r_istore (L' := [(4, (0, (max x3 x6))), (0, (4, a0)), (1, (0, a1)), (3, (0, a3))]) dX8_layBelief_147 (by decide) rfl ?_
      refine r_aload_n 1 dX8_layBelief_149 rfl ?_
      refine r_getf fd_X8_191 rfl dX8_layBelief_150 h (fun x8 h => ?_)
      refine r_aload_n 1 dX8_layBelief_153 rfl ?_
      refine r_iload_n 2 dX8_layBelief_154 rfl ?_
      refine r_iload_n 3 dX8_layBelief_155 rfl ?_
      refine r_aload_n 1 dX8_layBelief_156 rfl ?_
      refine r_iload_n 2 dX8_layBelief_157 rfl ?_
      refine r_iload_n 3 dX8_layBelief_158 rfl ?_
      refine r_callV (K' := Y_X8_movedBy) (R' := R_X8_movedBy) (idx := 200) (n := 2) (b := a0) (as := [(0, a1), (0, a3)]) (rest := [(0, a3), (0, a1), (4, a0), (0, x8)]) (C' := 0) (D' := 0) (cn := 8) rfl k0_X8_movedBy kV_X8_movedBy kl_X8_200 ⟨by decide, by decide⟩ dX8_layBelief_159 rfl rfl (Nat.le_of_ble_eq_true rfl) (by decide) (by decide) rfl h (fun r hr => m_X8_movedBy hl0 ⟨r, hr, hr⟩) (fun x9 τ10 _ h => ?_)
      refine r_callV (K' := Y_X8_topBy) (R' := R_X8_topBy) (idx := 128) (n := 3) (b := a0) (as := [(0, a1), (0, a3), (0, x9)]) (rest := [(0, x8)]) (C' := 0) (D' := 0) (cn := 8) rfl k0_X8_topBy kV_X8_topBy kl_X8_128 ⟨by decide, by decide⟩ dX8_layBelief_162 rfl rfl (Nat.le_of_ble_eq_true rfl) (by decide) (by decide) rfl h (fun r hr => m_X8_topBy hl0 ⟨r, hr, hr⟩) (fun x11 τ12 _ h => ?_)
      refine r_mmin mq_X8_107 ⟨by decide, Nat.le_of_ble_eq_true rfl⟩ rfl dX8_layBelief_165 ?_
      refine r_istore (L' := [(5, (0, (min x8 x11))), (4, (0, (max x3 x6))), (0, (4, a0)), (1, (0, a1)), (3, (0, a3))]) dX8_layBelief_168 (by decide) rfl ?_
      refine r_aload_n 2 dX8_layBelief_170 rfl ?_
      refine r_getr fd_X8_30 rfl dX8_layBelief_171 h (fun x13 h => ?_)
      refine r_iload_n 4 dX8_layBelief_174 rfl ?_
      refine r_iload 1 dX8_layBelief_175 rfl ?_
      refine r_iload 0 dX8_layBelief_177 rfl ?_
      refine r_icmp_gt 186 dX8_layBelief_179 (by decide) h (fun h => ?_) (fun h => ?_)
      · refine r_iconst (v := 1) dX8_layBelief_186 rfl rfl ?_
        refine r_weak (L' := [(0, (4, a0)), (1, (0, a1)), (4, (0, (max x3 x6))), (5, (0, (min x8 x11)))]) [2, 3, 1, 0] rfl ?_
        exact t_X8_layBelief_187 hl0 (f_X8_layBelief_116  n) (fun b0 b1 b3 τ h => ih b0 b1 b3 τ h) h
      · refine r_iconst (v := 0) dX8_layBelief_182 rfl rfl ?_
        refine r_goto 187 dX8_layBelief_183 (by decide) ?_
        refine r_weak (L' := [(0, (4, a0)), (1, (0, a1)), (4, (0, (max x3 x6))), (5, (0, (min x8 x11)))]) [2, 3, 1, 0] rfl ?_
        exact t_X8_layBelief_187 hl0 (f_X8_layBelief_116  n) (fun b0 b1 b3 τ h => ih b0 b1 b3 τ h) h

set_option maxRecDepth 100000 in
set_option maxHeartbeats 4000000 in
theorem t_X8_layBelief_110 {g : zF} (hl0 : g.2.2.2.1.stackTraces = false) {Q : zR × zS → Prop}   {a0 a1 : Int} {σ : zS} (h : zo (f_X8_layBelief_110  a0 a1 σ) Q) : zw g Y_X8_layBelief R_X8_layBelief 110 [(0, (4, a0)), (1, (0, a1))] [] σ 0 0 Q := by
  unfold f_X8_layBelief_110 at h
  refine r_aload_n 0 dX8_layBelief_110 rfl ?_
  refine r_iload_n 1 dX8_layBelief_111 rfl ?_
  refine r_callV (K' := Y_X8_nextReport) (R' := R_X8_nextReport) (idx := 197) (n := 1) (b := a0) (as := [(0, a1)]) (rest := []) (C' := 0) (D' := 0) (cn := 8) rfl k0_X8_nextReport kV_X8_nextReport kl_X8_197 ⟨by decide, by decide⟩ dX8_layBelief_112 rfl rfl (Nat.le_of_ble_eq_true rfl) (by decide) (by decide) rfl h (fun r hr => m_X8_nextReport hl0 ⟨r, hr, hr⟩) (fun x1 τ2 _ h => ?_)
  refine r_istore_n (L' := [(3, (0, x1)), (0, (4, a0)), (1, (0, a1))]) dX8_layBelief_115 (by decide) rfl ?_
  refine r_weak (L' := [(0, (4, a0)), (1, (0, a1)), (3, (0, x1))]) [1, 2, 0] rfl ?_
  exact t_X8_layBelief_116 hl0   zFU _ _ _ _ h

set_option maxRecDepth 100000 in
set_option maxHeartbeats 4000000 in
theorem t_X8_layBelief_103 {g : zF} (hl0 : g.2.2.2.1.stackTraces = false) {Q : zR × zS → Prop} (r14 : Int → Int → Int → Int → zS → zFn) (hr14 : ∀ b0 b1 b2 b3 τ, zo (r14 b0 b1 b2 b3 τ) Q → zw g Y_X8_layBelief R_X8_layBelief 14 [(0, (4, b0)), (1, (0, b1)), (2, (0, b2)), (3, (0, b3))] [] τ 0 0 Q) {a0 a1 a2 a3 s0 s1 s2 : Int} {σ : zS} (h : zo (f_X8_layBelief_103 r14 a0 a1 a2 a3 s0 s1 s2 σ) Q) : zw g Y_X8_layBelief R_X8_layBelief 103 [(0, (4, a0)), (1, (0, a1)), (2, (0, a2)), (3, (0, a3))] [(0, s2), (0, s1), (4, s0)] σ 0 0 Q := by
  unfold f_X8_layBelief_103 at h
  refine r_zast dX8_layBelief_103 h (fun τ1 h => ?_)
  refine r_iinc (L' := [(3, (0, (w32 (a3 + 1)))), (0, (4, a0)), (1, (0, a1)), (2, (0, a2))]) 3 dX8_layBelief_104 rfl (by decide) rfl ?_
  refine r_goto 14 dX8_layBelief_107 (by decide) ?_
  refine r_weak (L' := [(0, (4, a0)), (1, (0, a1)), (2, (0, a2)), (3, (0, (w32 (a3 + 1))))]) [1, 2, 3, 0] rfl ?_
  exact hr14 _ _ _ _ _ h

set_option maxRecDepth 100000 in
set_option maxHeartbeats 4000000 in
theorem t_X8_layBelief_83 {g : zF} (hl0 : g.2.2.2.1.stackTraces = false) {Q : zR × zS → Prop} (r14 : Int → Int → Int → Int → zS → zFn) (hr14 : ∀ b0 b1 b2 b3 τ, zo (r14 b0 b1 b2 b3 τ) Q → zw g Y_X8_layBelief R_X8_layBelief 14 [(0, (4, b0)), (1, (0, b1)), (2, (0, b2)), (3, (0, b3))] [] τ 0 0 Q) {a0 a1 a2 a3 s0 s1 s2 : Int} {σ : zS} (h : zo (f_X8_layBelief_83 r14 a0 a1 a2 a3 s0 s1 s2 σ) Q) : zw g Y_X8_layBelief R_X8_layBelief 83 [(0, (4, a0)), (1, (0, a1)), (2, (0, a2)), (3, (0, a3))] [(0, s2), (0, s1), (4, s0)] σ 0 0 Q := by
  unfold f_X8_layBelief_83 at h
  refine r_iast dX8_layBelief_83 h (fun τ1 h => ?_)
  refine r_aload_n 0 dX8_layBelief_84 rfl ?_
  refine r_getr fd_X8_33 rfl dX8_layBelief_85 h (fun x2 h => ?_)
  refine r_iload_n 3 dX8_layBelief_88 rfl ?_
  refine r_aload_n 0 dX8_layBelief_89 rfl ?_
  refine r_getr fd_X8_30 rfl dX8_layBelief_90 h (fun x3 h => ?_)
  refine r_iload_n 3 dX8_layBelief_93 rfl ?_
  refine r_iald dX8_layBelief_94 h (fun x4 h => ?_)
  refine r_if_eq 102 dX8_layBelief_95 (by decide) h (fun h => ?_) (fun h => ?_)
  · refine r_iconst (v := 0) dX8_layBelief_102 rfl rfl ?_
    exact t_X8_layBelief_103 hl0 r14 hr14 h
  · refine r_iconst (v := 1) dX8_layBelief_98 rfl rfl ?_
    refine r_goto 103 dX8_layBelief_99 (by decide) ?_
    exact t_X8_layBelief_103 hl0 r14 hr14 h

set_option maxRecDepth 100000 in
set_option maxHeartbeats 4000000 in
theorem t_X8_layBelief_53 {g : zF} (hl0 : g.2.2.2.1.stackTraces = false) {Q : zR × zS → Prop} (r14 : Int → Int → Int → Int → zS → zFn) (hr14 : ∀ b0 b1 b2 b3 τ, zo (r14 b0 b1 b2 b3 τ) Q → zw g Y_X8_layBelief R_X8_layBelief 14 [(0, (4, b0)), (1, (0, b1)), (2, (0, b2)), (3, (0, b3))] [] τ 0 0 Q) {a0 a1 a2 a3 s0 : Int} {σ : zS} (h : zo (f_X8_layBelief_53 r14 a0 a1 a2 a3 s0 σ) Q) : zw g Y_X8_layBelief R_X8_layBelief 53 [(0, (4, a0)), (1, (0, a1)), (2, (0, a2)), (3, (0, a3))] [(0, s0)] σ 0 0 Q := by
  unfold f_X8_layBelief_53 at h
  refine r_istore (L' := [(4, (0, s0)), (0, (4, a0)), (1, (0, a1)), (2, (0, a2)), (3, (0, a3))]) dX8_layBelief_53 (by decide) rfl ?_
  refine r_aload_n 1 dX8_layBelief_55 rfl ?_
  refine r_getr fd_X8_30 rfl dX8_layBelief_56 h (fun x1 h => ?_)
  refine r_iload_n 4 dX8_layBelief_59 rfl ?_
  refine r_iload 0 dX8_layBelief_60 rfl ?_
  refine r_if_ne 69 dX8_layBelief_62 (by decide) h (fun h => ?_) (fun h => ?_)
  · refine r_aload_n 1 dX8_layBelief_69 rfl ?_
    refine r_iload_n 2 dX8_layBelief_70 rfl ?_
    refine r_iload_n 4 dX8_layBelief_71 rfl ?_
    refine r_callV (K' := Y_X8_isOut) (R' := R_X8_isOut) (idx := 194) (n := 2) (b := a0) (as := [(0, a1), (0, a3)]) (rest := [(0, a3), (4, x1)]) (C' := 0) (D' := 0) (cn := 8) rfl k0_X8_isOut kV_X8_isOut kl_X8_194 ⟨by decide, by decide⟩ dX8_layBelief_72 rfl rfl (Nat.le_of_ble_eq_true rfl) (by decide) (by decide) rfl h (fun r hr => m_X8_isOut hl0 ⟨r, hr, hr⟩) (fun x2 τ3 _ h => ?_)
    refine r_if_eq 82 dX8_layBelief_75 (by decide) h (fun h => ?_) (fun h => ?_)
    · refine r_iconst (v := 0) dX8_layBelief_82 rfl rfl ?_
      refine r_weak (L' := [(0, (4, a0)), (1, (0, a1)), (2, (0, a2)), (3, (0, a3))]) [1, 2, 3, 4] rfl ?_
      exact t_X8_layBelief_83 hl0 r14 hr14 h
    · refine r_iconst (v := 2) dX8_layBelief_78 rfl rfl ?_
      refine r_goto 83 dX8_layBelief_79 (by decide) ?_
      refine r_weak (L' := [(0, (4, a0)), (1, (0, a1)), (2, (0, a2)), (3, (0, a3))]) [1, 2, 3, 4] rfl ?_
      exact t_X8_layBelief_83 hl0 r14 hr14 h
  · refine r_iconst (v := (-1)) dX8_layBelief_65 rfl rfl ?_
    refine r_goto 83 dX8_layBelief_66 (by decide) ?_
    refine r_weak (L' := [(0, (4, a0)), (1, (0, a1)), (2, (0, a2)), (3, (0, a3))]) [1, 2, 3, 4] rfl ?_
    exact t_X8_layBelief_83 hl0 r14 hr14 h

set_option maxRecDepth 100000 in
set_option maxHeartbeats 4000000 in
theorem t_X8_layBelief_52 {g : zF} (hl0 : g.2.2.2.1.stackTraces = false) {Q : zR × zS → Prop} (r14 : Int → Int → Int → Int → zS → zFn) (hr14 : ∀ b0 b1 b2 b3 τ, zo (r14 b0 b1 b2 b3 τ) Q → zw g Y_X8_layBelief R_X8_layBelief 14 [(0, (4, b0)), (1, (0, b1)), (2, (0, b2)), (3, (0, b3))] [] τ 0 0 Q) {a0 a1 a2 a3 : Int} {σ : zS} (h : zo (f_X8_layBelief_52 r14 a0 a1 a2 a3 σ) Q) : zw g Y_X8_layBelief R_X8_layBelief 52 [(0, (4, a0)), (1, (0, a1)), (2, (0, a2)), (3, (0, a3))] [] σ 0 0 Q := by
  unfold f_X8_layBelief_52 at h
  refine r_iconst (v := 0) dX8_layBelief_52 rfl rfl ?_
  exact t_X8_layBelief_53 hl0 r14 hr14 h

set_option maxRecDepth 100000 in
set_option maxHeartbeats 4000000 in
theorem t_X8_layBelief_14 {g : zF} (hl0 : g.2.2.2.1.stackTraces = false) {Q : zR × zS → Prop}   : ∀ (n : Nat) (a0 a1 a2 a3 : Int) (σ : zS), zo (f_X8_layBelief_14  n a0 a1 a2 a3 σ) Q → zw g Y_X8_layBelief R_X8_layBelief 14 [(0, (4, a0)), (1, (0, a1)), (2, (0, a2)), (3, (0, a3))] [] σ 0 0 Q := by
  intro n
  induction n with
  | zero => intro a0 a1 a2 a3 σ h; obtain ⟨r, h, -⟩ := h; cases h
  | succ n ih =>
    intro a0 a1 a2 a3 σ h
    unfold f_X8_layBelief_14 at h
    refine r_iload_n 3 dX8_layBelief_14 rfl ?_
    refine r_aload_n 0 dX8_layBelief_15 rfl ?_
    refine r_iload_n 1 dX8_layBelief_16 rfl ?_
    refine r_callV (K' := Y_X8_manyOf) (R' := R_X8_manyOf) (idx := 92) (n := 1) (b := a0) (as := [(0, a1)]) (rest := [(0, a3)]) (C' := 0) (D' := 0) (cn := 8) rfl k0_X8_manyOf kV_X8_manyOf kl_X8_92 ⟨by decide, by decide⟩ dX8_layBelief_17 rfl rfl (Nat.le_of_ble_eq_true rfl) (by decide) (by decide) rfl h (fun r hr => m_X8_manyOf hl0 ⟨r, hr, hr⟩) (fun x1 τ2 _ h => ?_)
    refine r_icmp_ge 110 dX8_layBelief_20 (by decide) h (fun h => ?_) (fun h => ?_)
    · refine r_weak (L' := [(0, (4, a0)), (1, (0, a1))]) [0, 1] rfl ?_
      exact t_X8_layBelief_110 hl0   h
    · refine r_aload_n 0 dX8_layBelief_23 rfl ?_
      refine r_iload_n 1 dX8_layBelief_24 rfl ?_
      refine r_iload_n 3 dX8_layBelief_25 rfl ?_
      refine r_iconst (v := 3) dX8_layBelief_26 rfl rfl ?_
      refine r_callV (K' := Y_X8_ofReport) (R' := R_X8_ofReport) (idx := 95) (n := 3) (b := a0) (as := [(0, a1), (0, a3), (0, 3)]) (rest := []) (C' := 0) (D' := 0) (cn := 8) rfl k0_X8_ofReport kV_X8_ofReport kl_X8_95 ⟨by decide, by decide⟩ dX8_layBelief_27 rfl rfl (Nat.le_of_ble_eq_true rfl) (by decide) (by decide) rfl h (fun r hr => m_X8_ofReport hl0 ⟨r, hr, hr⟩) (fun x3 τ4 _ h => ?_)
      refine r_iload_n 2 dX8_layBelief_30 rfl ?_
      refine r_icmp_ne 52 dX8_layBelief_31 (by decide) h (fun h => ?_) (fun h => ?_)
      · exact t_X8_layBelief_52 hl0 (f_X8_layBelief_14  n) (fun b0 b1 b2 b3 τ h => ih b0 b1 b2 b3 τ h) h
      · refine r_aload_n 0 dX8_layBelief_34 rfl ?_
        refine r_iload_n 1 dX8_layBelief_35 rfl ?_
        refine r_iload_n 3 dX8_layBelief_36 rfl ?_
        refine r_iconst (v := 1) dX8_layBelief_37 rfl rfl ?_
        refine r_callV (K' := Y_X8_ofReport) (R' := R_X8_ofReport) (idx := 95) (n := 3) (b := a0) (as := [(0, a1), (0, a3), (0, 1)]) (rest := []) (C' := 0) (D' := 0) (cn := 8) rfl k0_X8_ofReport kV_X8_ofReport kl_X8_95 ⟨by decide, by decide⟩ dX8_layBelief_38 rfl rfl (Nat.le_of_ble_eq_true rfl) (by decide) (by decide) rfl h (fun r hr => m_X8_ofReport hl0 ⟨r, hr, hr⟩) (fun x5 τ6 _ h => ?_)
        refine r_aload_n 0 dX8_layBelief_41 rfl ?_
        refine r_getf fd_X8_27 rfl dX8_layBelief_42 h (fun x7 h => ?_)
        refine r_icmp_eq 52 dX8_layBelief_45 (by decide) h (fun h => ?_) (fun h => ?_)
        · exact t_X8_layBelief_52 hl0 (f_X8_layBelief_14  n) (fun b0 b1 b2 b3 τ h => ih b0 b1 b2 b3 τ h) h
        · refine r_iconst (v := 1) dX8_layBelief_48 rfl rfl ?_
          refine r_goto 53 dX8_layBelief_49 (by decide) ?_
          exact t_X8_layBelief_53 hl0 (f_X8_layBelief_14  n) (fun b0 b1 b2 b3 τ h => ih b0 b1 b2 b3 τ h) h

set_option maxRecDepth 100000 in
set_option maxHeartbeats 4000000 in
theorem t_X8_layBelief {g : zF} (hl0 : g.2.2.2.1.stackTraces = false) {Q : zR × zS → Prop}   {a0 a1 a2 : Int} {σ : zS} (h : zo (f_X8_layBelief  a0 a1 a2 σ) Q) : zw g Y_X8_layBelief R_X8_layBelief 0 [(0, (4, a0)), (1, (0, a1)), (2, (0, a2))] [] σ 0 0 Q := by
  unfold f_X8_layBelief at h
  refine r_aload_n 0 dX8_layBelief_0 rfl ?_
  refine r_iconst (v := 0) dX8_layBelief_1 rfl rfl ?_
  refine r_putf fd_X8_188 fp_X8_layBelief_188 dX8_layBelief_2 h (fun τ1 h => ?_)
  refine r_aload_n 0 dX8_layBelief_5 rfl ?_
  refine r_sipush (v := 999) dX8_layBelief_6 rfl rfl ?_
  refine r_putf fd_X8_191 fp_X8_layBelief_191 dX8_layBelief_9 h (fun τ2 h => ?_)
  refine r_iconst (v := 0) dX8_layBelief_12 rfl rfl ?_
  refine r_istore_n (L' := [(3, (0, 0)), (0, (4, a0)), (1, (0, a1)), (2, (0, a2))]) dX8_layBelief_13 (by decide) rfl ?_
  refine r_weak (L' := [(0, (4, a0)), (1, (0, a1)), (2, (0, a2)), (3, (0, 0))]) [1, 2, 3, 0] rfl ?_
  exact t_X8_layBelief_14 hl0   zFU _ _ _ _ _ h
theorem m_X8_layBelief {g : zF} (hl0 : g.2.2.2.1.stackTraces = false) {Q : zR × zS → Prop} {a0 a1 a2 : Int} {σ : zS} (h : zo (f_X8_layBelief a0 a1 a2 σ) Q) : zm g Y_X8_layBelief R_X8_layBelief [(4, a0), (0, a1), (0, a2)] σ Q := zm_of (by decide) rfl (Nat.le_of_ble_eq_true rfl) (t_X8_layBelief hl0 h)


/- X8_widthOf -/

set_option maxRecDepth 100000 in
set_option maxHeartbeats 4000000 in
theorem t_X8_widthOf {g : zF} (hl0 : g.2.2.2.1.stackTraces = false) {Q : zR × zS → Prop}   {a0 a1 a2 : Int} {σ : zS} (h : zo (f_X8_widthOf  a0 a1 a2 σ) Q) : zw g Y_X8_widthOf R_X8_widthOf 0 [(0, (4, a0)), (1, (0, a1)), (2, (0, a2))] [] σ 0 0 Q := by
  unfold f_X8_widthOf at h
  refine r_aload_n 0 dX8_widthOf_0 rfl ?_
  refine r_iload_n 1 dX8_widthOf_1 rfl ?_
  refine r_iload_n 2 dX8_widthOf_2 rfl ?_
  refine r_callV (K' := Y_X8_layBelief) (R' := R_X8_layBelief) (idx := 203) (n := 2) (b := a0) (as := [(0, a1), (0, a2)]) (rest := []) (C' := 0) (D' := 0) (cn := 8) rfl k0_X8_layBelief kV_X8_layBelief kl_X8_203 ⟨by decide, by decide⟩ dX8_widthOf_3 rfl rfl (Nat.le_of_ble_eq_true rfl) (by decide) (by decide) rfl h (fun r hr => m_X8_layBelief hl0 ⟨r, hr, hr⟩) (fun _ τ2 _ h => ?_)
  refine r_aload_n 0 dX8_widthOf_6 rfl ?_
  refine r_getf fd_X8_191 rfl dX8_widthOf_7 h (fun x3 h => ?_)
  refine r_aload_n 0 dX8_widthOf_10 rfl ?_
  refine r_getf fd_X8_188 rfl dX8_widthOf_11 h (fun x4 h => ?_)
  refine r_isub dX8_widthOf_14 ?_
  exact r_iret rfl dX8_widthOf_15 h
theorem m_X8_widthOf {g : zF} (hl0 : g.2.2.2.1.stackTraces = false) {Q : zR × zS → Prop} {a0 a1 a2 : Int} {σ : zS} (h : zo (f_X8_widthOf a0 a1 a2 σ) Q) : zm g Y_X8_widthOf R_X8_widthOf [(4, a0), (0, a1), (0, a2)] σ Q := zm_of (by decide) rfl (Nat.le_of_ble_eq_true rfl) (t_X8_widthOf hl0 h)


/- X8_valueOf -/

set_option maxRecDepth 100000 in
set_option maxHeartbeats 4000000 in
theorem t_X8_valueOf {g : zF} (hl0 : g.2.2.2.1.stackTraces = false) {Q : zR × zS → Prop}   {a0 a1 a2 a3 : Int} {σ : zS} (h : zo (f_X8_valueOf  a0 a1 a2 a3 σ) Q) : zw g Y_X8_valueOf R_X8_valueOf 0 [(0, (4, a0)), (1, (0, a1)), (2, (0, a2)), (3, (0, a3))] [] σ 0 0 Q := by
  unfold f_X8_valueOf at h
  refine r_aload_n 0 dX8_valueOf_0 rfl ?_
  refine r_iload_n 1 dX8_valueOf_1 rfl ?_
  refine r_iload_n 2 dX8_valueOf_2 rfl ?_
  refine r_callV (K' := Y_X8_layBelief) (R' := R_X8_layBelief) (idx := 203) (n := 2) (b := a0) (as := [(0, a1), (0, a2)]) (rest := []) (C' := 0) (D' := 0) (cn := 8) rfl k0_X8_layBelief kV_X8_layBelief kl_X8_203 ⟨by decide, by decide⟩ dX8_valueOf_3 rfl rfl (Nat.le_of_ble_eq_true rfl) (by decide) (by decide) rfl h (fun r hr => m_X8_layBelief hl0 ⟨r, hr, hr⟩) (fun _ τ2 _ h => ?_)
  refine r_iload_n 3 dX8_valueOf_6 rfl ?_
  refine r_if_ne 17 dX8_valueOf_7 (by decide) h (fun h => ?_) (fun h => ?_)
  · refine r_iload_n 3 dX8_valueOf_17 rfl ?_
    refine r_iconst (v := 1) dX8_valueOf_18 rfl rfl ?_
    refine r_icmp_ne 29 dX8_valueOf_19 (by decide) h (fun h => ?_) (fun h => ?_)
    · refine r_aload_n 0 dX8_valueOf_29 rfl ?_
      refine r_getf fd_X8_188 rfl dX8_valueOf_30 h (fun x3 h => ?_)
      refine r_aload_n 0 dX8_valueOf_33 rfl ?_
      refine r_getf fd_X8_191 rfl dX8_valueOf_34 h (fun x4 h => ?_)
      refine r_iadd dX8_valueOf_37 ?_
      exact r_iret rfl dX8_valueOf_38 h
    · refine r_aload_n 0 dX8_valueOf_22 rfl ?_
      refine r_getf fd_X8_188 rfl dX8_valueOf_23 h (fun x5 h => ?_)
      refine r_goto 38 dX8_valueOf_26 (by decide) ?_
      exact r_iret rfl dX8_valueOf_38 h
  · refine r_aload_n 0 dX8_valueOf_10 rfl ?_
    refine r_getf fd_X8_191 rfl dX8_valueOf_11 h (fun x6 h => ?_)
    refine r_goto 38 dX8_valueOf_14 (by decide) ?_
    exact r_iret rfl dX8_valueOf_38 h
theorem m_X8_valueOf {g : zF} (hl0 : g.2.2.2.1.stackTraces = false) {Q : zR × zS → Prop} {a0 a1 a2 a3 : Int} {σ : zS} (h : zo (f_X8_valueOf a0 a1 a2 a3 σ) Q) : zm g Y_X8_valueOf R_X8_valueOf [(4, a0), (0, a1), (0, a2), (0, a3)] σ Q := zm_of (by decide) rfl (Nat.le_of_ble_eq_true rfl) (t_X8_valueOf hl0 h)


/- X8_bestOf -/

set_option maxRecDepth 100000 in
set_option maxHeartbeats 4000000 in
theorem t_X8_bestOf_49 {g : zF} (hl0 : g.2.2.2.1.stackTraces = false) {Q : zR × zS → Prop} (r8 : Int → Int → Int → Int → Int → Int → zS → zFn) (hr8 : ∀ b0 b1 b2 b3 b4 b5 τ, zo (r8 b0 b1 b2 b3 b4 b5 τ) Q → zw g Y_X8_bestOf R_X8_bestOf 8 [(0, (4, b0)), (1, (0, b1)), (2, (0, b2)), (3, (0, b3)), (4, (0, b4)), (5, (0, b5))] [] τ 0 0 Q) {a0 a1 a2 a3 a4 a5 : Int} {σ : zS} (h : zo (f_X8_bestOf_49 r8 a0 a1 a2 a3 a4 a5 σ) Q) : zw g Y_X8_bestOf R_X8_bestOf 49 [(0, (4, a0)), (1, (0, a1)), (2, (0, a2)), (3, (0, a3)), (4, (0, a4)), (5, (0, a5))] [] σ 0 0 Q := by
  unfold f_X8_bestOf_49 at h
  refine r_iinc (L' := [(5, (0, (w32 (a5 + 1)))), (0, (4, a0)), (1, (0, a1)), (2, (0, a2)), (3, (0, a3)), (4, (0, a4))]) 5 dX8_bestOf_49 rfl (by decide) rfl ?_
  refine r_goto 8 dX8_bestOf_52 (by decide) ?_
  refine r_weak (L' := [(0, (4, a0)), (1, (0, a1)), (2, (0, a2)), (3, (0, a3)), (4, (0, a4)), (5, (0, (w32 (a5 + 1))))]) [1, 2, 3, 4, 5, 0] rfl ?_
  exact hr8 _ _ _ _ _ _ _ h

set_option maxRecDepth 100000 in
set_option maxHeartbeats 4000000 in
theorem t_X8_bestOf_42 {g : zF} (hl0 : g.2.2.2.1.stackTraces = false) {Q : zR × zS → Prop} (r8 : Int → Int → Int → Int → Int → Int → zS → zFn) (hr8 : ∀ b0 b1 b2 b3 b4 b5 τ, zo (r8 b0 b1 b2 b3 b4 b5 τ) Q → zw g Y_X8_bestOf R_X8_bestOf 8 [(0, (4, b0)), (1, (0, b1)), (2, (0, b2)), (3, (0, b3)), (4, (0, b4)), (5, (0, b5))] [] τ 0 0 Q) {a0 a1 a2 a5 a6 : Int} {σ : zS} (h : zo (f_X8_bestOf_42 r8 a0 a1 a2 a5 a6 σ) Q) : zw g Y_X8_bestOf R_X8_bestOf 42 [(0, (4, a0)), (1, (0, a1)), (2, (0, a2)), (5, (0, a5)), (6, (0, a6))] [] σ 0 0 Q := by
  unfold f_X8_bestOf_42 at h
  refine r_iload 3 dX8_bestOf_42 rfl ?_
  refine r_istore_n (L' := [(3, (0, a5)), (0, (4, a0)), (1, (0, a1)), (2, (0, a2)), (5, (0, a5)), (6, (0, a6))]) dX8_bestOf_44 (by decide) rfl ?_
  refine r_iload 5 dX8_bestOf_45 rfl ?_
  refine r_istore (L' := [(4, (0, a6)), (3, (0, a5)), (0, (4, a0)), (1, (0, a1)), (2, (0, a2)), (5, (0, a5)), (6, (0, a6))]) dX8_bestOf_47 (by decide) rfl ?_
  refine r_weak (L' := [(0, (4, a0)), (1, (0, a1)), (2, (0, a2)), (3, (0, a5)), (4, (0, a6)), (5, (0, a5))]) [2, 3, 4, 1, 0, 5] rfl ?_
  exact t_X8_bestOf_49 hl0 r8 hr8 h

set_option maxRecDepth 100000 in
set_option maxHeartbeats 4000000 in
theorem t_X8_bestOf_8 {g : zF} (hl0 : g.2.2.2.1.stackTraces = false) {Q : zR × zS → Prop}   : ∀ (n : Nat) (a0 a1 a2 a3 a4 a5 : Int) (σ : zS), zo (f_X8_bestOf_8  n a0 a1 a2 a3 a4 a5 σ) Q → zw g Y_X8_bestOf R_X8_bestOf 8 [(0, (4, a0)), (1, (0, a1)), (2, (0, a2)), (3, (0, a3)), (4, (0, a4)), (5, (0, a5))] [] σ 0 0 Q := by
  intro n
  induction n with
  | zero => intro a0 a1 a2 a3 a4 a5 σ h; obtain ⟨r, h, -⟩ := h; cases h
  | succ n ih =>
    intro a0 a1 a2 a3 a4 a5 σ h
    unfold f_X8_bestOf_8 at h
    refine r_iload 5 dX8_bestOf_8 rfl ?_
    refine r_aload_n 0 dX8_bestOf_10 rfl ?_
    refine r_callV (K' := Y_X8_ways) (R' := R_X8_ways) (idx := 74) (n := 0) (b := a0) (as := []) (rest := [(0, a5)]) (C' := 0) (D' := 0) (cn := 8) rfl k0_X8_ways kV_X8_ways kl_X8_74 ⟨by decide, by decide⟩ dX8_bestOf_11 rfl rfl (Nat.le_of_ble_eq_true rfl) (by decide) (by decide) rfl h (fun r hr => m_X8_ways hl0 ⟨r, hr, hr⟩) (fun x1 τ2 _ h => ?_)
    refine r_icmp_ge 55 dX8_bestOf_14 (by decide) h (fun h => ?_) (fun h => ?_)
    · refine r_iload_n 3 dX8_bestOf_55 rfl ?_
      exact r_iret rfl dX8_bestOf_56 h
    · refine r_aload_n 0 dX8_bestOf_17 rfl ?_
      refine r_iload_n 1 dX8_bestOf_18 rfl ?_
      refine r_iload 5 dX8_bestOf_19 rfl ?_
      refine r_iload_n 2 dX8_bestOf_21 rfl ?_
      refine r_callV (K' := Y_X8_valueOf) (R' := R_X8_valueOf) (idx := 206) (n := 3) (b := a0) (as := [(0, a1), (0, a5), (0, a2)]) (rest := []) (C' := 0) (D' := 0) (cn := 8) rfl k0_X8_valueOf kV_X8_valueOf kl_X8_206 ⟨by decide, by decide⟩ dX8_bestOf_22 rfl rfl (Nat.le_of_ble_eq_true rfl) (by decide) (by decide) rfl h (fun r hr => m_X8_valueOf hl0 ⟨r, hr, hr⟩) (fun x3 τ4 _ h => ?_)
      refine r_istore (L' := [(6, (0, x3)), (0, (4, a0)), (1, (0, a1)), (2, (0, a2)), (3, (0, a3)), (4, (0, a4)), (5, (0, a5))]) dX8_bestOf_25 (by decide) rfl ?_
      refine r_iload_n 4 dX8_bestOf_27 rfl ?_
      refine r_iconst (v := (-1)) dX8_bestOf_28 rfl rfl ?_
      refine r_icmp_eq 42 dX8_bestOf_29 (by decide) h (fun h => ?_) (fun h => ?_)
      · refine r_weak (L' := [(0, (4, a0)), (1, (0, a1)), (2, (0, a2)), (5, (0, a5)), (6, (0, x3))]) [1, 2, 3, 6, 0] rfl ?_
        exact t_X8_bestOf_42 hl0 (f_X8_bestOf_8  n) (fun b0 b1 b2 b3 b4 b5 τ h => ih b0 b1 b2 b3 b4 b5 τ h) h
      · refine r_iload 0 dX8_bestOf_32 rfl ?_
        refine r_iload 5 dX8_bestOf_34 rfl ?_
        refine r_icmp_lt 42 dX8_bestOf_36 (by decide) h (fun h => ?_) (fun h => ?_)
        · refine r_weak (L' := [(0, (4, a0)), (1, (0, a1)), (2, (0, a2)), (5, (0, a5)), (6, (0, x3))]) [1, 2, 3, 6, 0] rfl ?_
          exact t_X8_bestOf_42 hl0 (f_X8_bestOf_8  n) (fun b0 b1 b2 b3 b4 b5 τ h => ih b0 b1 b2 b3 b4 b5 τ h) h
        · refine r_goto 49 dX8_bestOf_39 (by decide) ?_
          refine r_weak (L' := [(0, (4, a0)), (1, (0, a1)), (2, (0, a2)), (3, (0, a3)), (4, (0, a4)), (5, (0, a5))]) [1, 2, 3, 4, 5, 6] rfl ?_
          exact t_X8_bestOf_49 hl0 (f_X8_bestOf_8  n) (fun b0 b1 b2 b3 b4 b5 τ h => ih b0 b1 b2 b3 b4 b5 τ h) h

set_option maxRecDepth 100000 in
set_option maxHeartbeats 4000000 in
theorem t_X8_bestOf {g : zF} (hl0 : g.2.2.2.1.stackTraces = false) {Q : zR × zS → Prop}   {a0 a1 a2 : Int} {σ : zS} (h : zo (f_X8_bestOf  a0 a1 a2 σ) Q) : zw g Y_X8_bestOf R_X8_bestOf 0 [(0, (4, a0)), (1, (0, a1)), (2, (0, a2))] [] σ 0 0 Q := by
  unfold f_X8_bestOf at h
  refine r_iconst (v := (-1)) dX8_bestOf_0 rfl rfl ?_
  refine r_istore_n (L' := [(3, (0, (-1))), (0, (4, a0)), (1, (0, a1)), (2, (0, a2))]) dX8_bestOf_1 (by decide) rfl ?_
  refine r_iconst (v := 0) dX8_bestOf_2 rfl rfl ?_
  refine r_istore (L' := [(4, (0, 0)), (3, (0, (-1))), (0, (4, a0)), (1, (0, a1)), (2, (0, a2))]) dX8_bestOf_3 (by decide) rfl ?_
  refine r_iconst (v := 0) dX8_bestOf_5 rfl rfl ?_
  refine r_istore (L' := [(5, (0, 0)), (4, (0, 0)), (3, (0, (-1))), (0, (4, a0)), (1, (0, a1)), (2, (0, a2))]) dX8_bestOf_6 (by decide) rfl ?_
  refine r_weak (L' := [(0, (4, a0)), (1, (0, a1)), (2, (0, a2)), (3, (0, (-1))), (4, (0, 0)), (5, (0, 0))]) [3, 4, 5, 2, 1, 0] rfl ?_
  exact t_X8_bestOf_8 hl0   zFU _ _ _ _ _ _ _ h
theorem m_X8_bestOf {g : zF} (hl0 : g.2.2.2.1.stackTraces = false) {Q : zR × zS → Prop} {a0 a1 a2 : Int} {σ : zS} (h : zo (f_X8_bestOf a0 a1 a2 σ) Q) : zm g Y_X8_bestOf R_X8_bestOf [(4, a0), (0, a1), (0, a2)] σ Q := zm_of (by decide) rfl (Nat.le_of_ble_eq_true rfl) (t_X8_bestOf hl0 h)


/- X8_rivalsOf -/

set_option maxRecDepth 100000 in
set_option maxHeartbeats 4000000 in
theorem t_X8_rivalsOf_54 {g : zF} (hl0 : g.2.2.2.1.stackTraces = false) {Q : zR × zS → Prop} (r12 : Int → Int → Int → Int → Int → zS → zFn) (hr12 : ∀ b0 b1 b2 b3 b4 τ, zo (r12 b0 b1 b2 b3 b4 τ) Q → zw g Y_X8_rivalsOf R_X8_rivalsOf 12 [(0, (4, b0)), (1, (0, b1)), (2, (0, b2)), (3, (0, b3)), (4, (0, b4))] [] τ 0 0 Q) {a0 a1 a2 a4 s0 s1 : Int} {σ : zS} (h : zo (f_X8_rivalsOf_54 r12 a0 a1 a2 a4 s0 s1 σ) Q) : zw g Y_X8_rivalsOf R_X8_rivalsOf 54 [(0, (4, a0)), (1, (0, a1)), (2, (0, a2)), (4, (0, a4))] [(0, s1), (0, s0)] σ 0 0 Q := by
  unfold f_X8_rivalsOf_54 at h
  refine r_ior dX8_rivalsOf_54 ?_
  refine r_istore_n (L' := [(3, (0, (zor s0 s1))), (0, (4, a0)), (1, (0, a1)), (2, (0, a2)), (4, (0, a4))]) dX8_rivalsOf_55 (by decide) rfl ?_
  refine r_iinc (L' := [(4, (0, (w32 (a4 + 1)))), (3, (0, (zor s0 s1))), (0, (4, a0)), (1, (0, a1)), (2, (0, a2))]) 4 dX8_rivalsOf_56 rfl (by decide) rfl ?_
  refine r_goto 12 dX8_rivalsOf_59 (by decide) ?_
  refine r_weak (L' := [(0, (4, a0)), (1, (0, a1)), (2, (0, a2)), (3, (0, (zor s0 s1))), (4, (0, (w32 (a4 + 1))))]) [2, 3, 4, 1, 0] rfl ?_
  exact hr12 _ _ _ _ _ _ h

set_option maxRecDepth 100000 in
set_option maxHeartbeats 4000000 in
theorem t_X8_rivalsOf_53 {g : zF} (hl0 : g.2.2.2.1.stackTraces = false) {Q : zR × zS → Prop} (r12 : Int → Int → Int → Int → Int → zS → zFn) (hr12 : ∀ b0 b1 b2 b3 b4 τ, zo (r12 b0 b1 b2 b3 b4 τ) Q → zw g Y_X8_rivalsOf R_X8_rivalsOf 12 [(0, (4, b0)), (1, (0, b1)), (2, (0, b2)), (3, (0, b3)), (4, (0, b4))] [] τ 0 0 Q) {a0 a1 a2 a4 s0 : Int} {σ : zS} (h : zo (f_X8_rivalsOf_53 r12 a0 a1 a2 a4 s0 σ) Q) : zw g Y_X8_rivalsOf R_X8_rivalsOf 53 [(0, (4, a0)), (1, (0, a1)), (2, (0, a2)), (4, (0, a4))] [(0, s0)] σ 0 0 Q := by
  unfold f_X8_rivalsOf_53 at h
  refine r_iconst (v := 0) dX8_rivalsOf_53 rfl rfl ?_
  exact t_X8_rivalsOf_54 hl0 r12 hr12 h

set_option maxRecDepth 100000 in
set_option maxHeartbeats 4000000 in
theorem t_X8_rivalsOf_12 {g : zF} (hl0 : g.2.2.2.1.stackTraces = false) {Q : zR × zS → Prop}   : ∀ (n : Nat) (a0 a1 a2 a3 a4 : Int) (σ : zS), zo (f_X8_rivalsOf_12  n a0 a1 a2 a3 a4 σ) Q → zw g Y_X8_rivalsOf R_X8_rivalsOf 12 [(0, (4, a0)), (1, (0, a1)), (2, (0, a2)), (3, (0, a3)), (4, (0, a4))] [] σ 0 0 Q := by
  intro n
  induction n with
  | zero => intro a0 a1 a2 a3 a4 σ h; obtain ⟨r, h, -⟩ := h; cases h
  | succ n ih =>
    intro a0 a1 a2 a3 a4 σ h
    unfold f_X8_rivalsOf_12 at h
    refine r_iload 4 dX8_rivalsOf_12 rfl ?_
    refine r_aload_n 0 dX8_rivalsOf_14 rfl ?_
    refine r_callV (K' := Y_X8_ways) (R' := R_X8_ways) (idx := 74) (n := 0) (b := a0) (as := []) (rest := [(0, a4)]) (C' := 0) (D' := 0) (cn := 8) rfl k0_X8_ways kV_X8_ways kl_X8_74 ⟨by decide, by decide⟩ dX8_rivalsOf_15 rfl rfl (Nat.le_of_ble_eq_true rfl) (by decide) (by decide) rfl h (fun r hr => m_X8_ways hl0 ⟨r, hr, hr⟩) (fun x1 τ2 _ h => ?_)
    refine r_icmp_ge 62 dX8_rivalsOf_18 (by decide) h (fun h => ?_) (fun h => ?_)
    · refine r_iload_n 3 dX8_rivalsOf_62 rfl ?_
      exact r_iret rfl dX8_rivalsOf_63 h
    · refine r_iload_n 3 dX8_rivalsOf_21 rfl ?_
      refine r_iload 4 dX8_rivalsOf_22 rfl ?_
      refine r_iload_n 2 dX8_rivalsOf_24 rfl ?_
      refine r_icmp_eq 53 dX8_rivalsOf_25 (by decide) h (fun h => ?_) (fun h => ?_)
      · refine r_weak (L' := [(0, (4, a0)), (1, (0, a1)), (2, (0, a2)), (4, (0, a4))]) [0, 1, 2, 4] rfl ?_
        exact t_X8_rivalsOf_53 hl0 (f_X8_rivalsOf_12  n) (fun b0 b1 b2 b3 b4 τ h => ih b0 b1 b2 b3 b4 τ h) h
      · refine r_aload_n 0 dX8_rivalsOf_28 rfl ?_
        refine r_iload_n 1 dX8_rivalsOf_29 rfl ?_
        refine r_iload 4 dX8_rivalsOf_30 rfl ?_
        refine r_iconst (v := 1) dX8_rivalsOf_32 rfl rfl ?_
        refine r_callV (K' := Y_X8_valueOf) (R' := R_X8_valueOf) (idx := 206) (n := 3) (b := a0) (as := [(0, a1), (0, a4), (0, 1)]) (rest := [(0, a3)]) (C' := 0) (D' := 0) (cn := 8) rfl k0_X8_valueOf kV_X8_valueOf kl_X8_206 ⟨by decide, by decide⟩ dX8_rivalsOf_33 rfl rfl (Nat.le_of_ble_eq_true rfl) (by decide) (by decide) rfl h (fun r hr => m_X8_valueOf hl0 ⟨r, hr, hr⟩) (fun x3 τ4 _ h => ?_)
        refine r_aload_n 0 dX8_rivalsOf_36 rfl ?_
        refine r_iload_n 1 dX8_rivalsOf_37 rfl ?_
        refine r_iload_n 2 dX8_rivalsOf_38 rfl ?_
        refine r_iconst (v := 0) dX8_rivalsOf_39 rfl rfl ?_
        refine r_callV (K' := Y_X8_valueOf) (R' := R_X8_valueOf) (idx := 206) (n := 3) (b := a0) (as := [(0, a1), (0, a2), (0, 0)]) (rest := [(0, x3), (0, a3)]) (C' := 0) (D' := 0) (cn := 8) rfl k0_X8_valueOf kV_X8_valueOf kl_X8_206 ⟨by decide, by decide⟩ dX8_rivalsOf_40 rfl rfl (Nat.le_of_ble_eq_true rfl) (by decide) (by decide) rfl h (fun r hr => m_X8_valueOf hl0 ⟨r, hr, hr⟩) (fun x5 τ6 _ h => ?_)
        refine r_icmp_ge 53 dX8_rivalsOf_43 (by decide) h (fun h => ?_) (fun h => ?_)
        · refine r_weak (L' := [(0, (4, a0)), (1, (0, a1)), (2, (0, a2)), (4, (0, a4))]) [0, 1, 2, 4] rfl ?_
          exact t_X8_rivalsOf_53 hl0 (f_X8_rivalsOf_12  n) (fun b0 b1 b2 b3 b4 τ h => ih b0 b1 b2 b3 b4 τ h) h
        · refine r_iconst (v := 1) dX8_rivalsOf_46 rfl rfl ?_
          refine r_iload 4 dX8_rivalsOf_47 rfl ?_
          refine r_ishl dX8_rivalsOf_49 ?_
          refine r_goto 54 dX8_rivalsOf_50 (by decide) ?_
          refine r_weak (L' := [(0, (4, a0)), (1, (0, a1)), (2, (0, a2)), (4, (0, a4))]) [0, 1, 2, 4] rfl ?_
          exact t_X8_rivalsOf_54 hl0 (f_X8_rivalsOf_12  n) (fun b0 b1 b2 b3 b4 τ h => ih b0 b1 b2 b3 b4 τ h) h

set_option maxRecDepth 100000 in
set_option maxHeartbeats 4000000 in
theorem t_X8_rivalsOf {g : zF} (hl0 : g.2.2.2.1.stackTraces = false) {Q : zR × zS → Prop}   {a0 a1 : Int} {σ : zS} (h : zo (f_X8_rivalsOf  a0 a1 σ) Q) : zw g Y_X8_rivalsOf R_X8_rivalsOf 0 [(0, (4, a0)), (1, (0, a1))] [] σ 0 0 Q := by
  unfold f_X8_rivalsOf at h
  refine r_aload_n 0 dX8_rivalsOf_0 rfl ?_
  refine r_iload_n 1 dX8_rivalsOf_1 rfl ?_
  refine r_iconst (v := 0) dX8_rivalsOf_2 rfl rfl ?_
  refine r_callV (K' := Y_X8_bestOf) (R' := R_X8_bestOf) (idx := 209) (n := 2) (b := a0) (as := [(0, a1), (0, 0)]) (rest := []) (C' := 0) (D' := 0) (cn := 8) rfl k0_X8_bestOf kV_X8_bestOf kl_X8_209 ⟨by decide, by decide⟩ dX8_rivalsOf_3 rfl rfl (Nat.le_of_ble_eq_true rfl) (by decide) (by decide) rfl h (fun r hr => m_X8_bestOf hl0 ⟨r, hr, hr⟩) (fun x1 τ2 _ h => ?_)
  refine r_istore_n (L' := [(2, (0, x1)), (0, (4, a0)), (1, (0, a1))]) dX8_rivalsOf_6 (by decide) rfl ?_
  refine r_iconst (v := 0) dX8_rivalsOf_7 rfl rfl ?_
  refine r_istore_n (L' := [(3, (0, 0)), (2, (0, x1)), (0, (4, a0)), (1, (0, a1))]) dX8_rivalsOf_8 (by decide) rfl ?_
  refine r_iconst (v := 0) dX8_rivalsOf_9 rfl rfl ?_
  refine r_istore (L' := [(4, (0, 0)), (3, (0, 0)), (2, (0, x1)), (0, (4, a0)), (1, (0, a1))]) dX8_rivalsOf_10 (by decide) rfl ?_
  refine r_weak (L' := [(0, (4, a0)), (1, (0, a1)), (2, (0, x1)), (3, (0, 0)), (4, (0, 0))]) [3, 4, 2, 1, 0] rfl ?_
  exact t_X8_rivalsOf_12 hl0   zFU _ _ _ _ _ _ h
theorem m_X8_rivalsOf {g : zF} (hl0 : g.2.2.2.1.stackTraces = false) {Q : zR × zS → Prop} {a0 a1 : Int} {σ : zS} (h : zo (f_X8_rivalsOf a0 a1 σ) Q) : zm g Y_X8_rivalsOf R_X8_rivalsOf [(4, a0), (0, a1)] σ Q := zm_of (by decide) rfl (Nat.le_of_ble_eq_true rfl) (t_X8_rivalsOf hl0 h)

