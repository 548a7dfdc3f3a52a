/- X8_originsWith -/

set_option maxRecDepth 100000 in
set_option maxHeartbeats 4000000 in
theorem t_X8_originsWith_49 {g : zF} (hl0 : g.2.2.2.1.stackTraces = false) {Q : zR × zS → Prop} (r12 : Int → Int → Int → Int → Int → zS → zFn) (hr12 : ∀ b0 b1 b3 b4 b5 τ, zo (r12 b0 b1 b3 b4 b5 τ) Q → zw g Y_X8_originsWith R_X8_originsWith 12 [(0, (4, b0)), (1, (0, b1)), (3, (0, b3)), (4, (0, b4)), (5, (0, b5))] [] τ 0 0 Q) {a0 a1 a3 a5 s0 s1 : Int} {σ : zS} (h : zo (f_X8_originsWith_49 r12 a0 a1 a3 a5 s0 s1 σ) Q) : zw g Y_X8_originsWith R_X8_originsWith 49 [(0, (4, a0)), (1, (0, a1)), (3, (0, a3)), (5, (0, a5))] [(0, s1), (0, s0)] σ 0 0 Q := by
  unfold f_X8_originsWith_49 at h
  refine r_ior dX8_originsWith_49 ?_
  refine r_istore (L' := [(4, (0, (zor s0 s1))), (0, (4, a0)), (1, (0, a1)), (3, (0, a3)), (5, (0, a5))]) dX8_originsWith_50 (by decide) rfl ?_
  refine r_iinc (L' := [(5, (0, (w32 (a5 + 1)))), (4, (0, (zor s0 s1))), (0, (4, a0)), (1, (0, a1)), (3, (0, a3))]) 4 dX8_originsWith_52 rfl (by decide) rfl ?_
  refine r_goto 12 dX8_originsWith_55 (by decide) ?_
  refine r_weak (L' := [(0, (4, a0)), (1, (0, a1)), (3, (0, a3)), (4, (0, (zor s0 s1))), (5, (0, (w32 (a5 + 1))))]) [2, 3, 4, 1, 0] rfl ?_
  exact hr12 _ _ _ _ _ _ h

set_option maxRecDepth 100000 in
set_option maxHeartbeats 4000000 in
theorem t_X8_originsWith_12 {g : zF} (hl0 : g.2.2.2.1.stackTraces = false) {Q : zR × zS → Prop}   : ∀ (n : Nat) (a0 a1 a3 a4 a5 : Int) (σ : zS), zo (f_X8_originsWith_12  n a0 a1 a3 a4 a5 σ) Q → zw g Y_X8_originsWith R_X8_originsWith 12 [(0, (4, a0)), (1, (0, a1)), (3, (0, a3)), (4, (0, a4)), (5, (0, a5))] [] σ 0 0 Q := by
  intro n
  induction n with
  | zero => intro a0 a1 a3 a4 a5 σ h; obtain ⟨r, h, -⟩ := h; cases h
  | succ n ih =>
    intro a0 a1 a3 a4 a5 σ h
    unfold f_X8_originsWith_12 at h
    refine r_iload 4 dX8_originsWith_12 rfl ?_
    refine r_aload_n 0 dX8_originsWith_14 rfl ?_
    refine r_iload_n 1 dX8_originsWith_15 rfl ?_
    refine r_callV (K' := Y_X8_manyOf) (R' := R_X8_manyOf) (idx := 92) (n := 1) (b := a0) (as := [(0, a1)]) (rest := [(0, a5)]) (C' := 0) (D' := 0) (cn := 8) rfl k0_X8_manyOf kV_X8_manyOf kl_X8_92 ⟨by decide, by decide⟩ dX8_originsWith_16 rfl rfl (Nat.le_of_ble_eq_true rfl) (by decide) (by decide) rfl h (fun r hr => m_X8_manyOf hl0 ⟨r, hr, hr⟩) (fun x1 τ2 _ h => ?_)
    refine r_icmp_ge 58 dX8_originsWith_19 (by decide) h (fun h => ?_) (fun h => ?_)
    · refine r_iload 3 dX8_originsWith_58 rfl ?_
      exact r_iret rfl dX8_originsWith_60 h
    · refine r_iload 3 dX8_originsWith_22 rfl ?_
      refine r_aload_n 0 dX8_originsWith_24 rfl ?_
      refine r_getr fd_X8_30 rfl dX8_originsWith_25 h (fun x3 h => ?_)
      refine r_iload 4 dX8_originsWith_28 rfl ?_
      refine r_iald dX8_originsWith_30 h (fun x4 h => ?_)
      refine r_iload_n 2 dX8_originsWith_31 rfl ?_
      refine r_icmp_ne 48 dX8_originsWith_32 (by decide) h (fun h => ?_) (fun h => ?_)
      · refine r_iconst (v := 0) dX8_originsWith_48 rfl rfl ?_
        refine r_weak (L' := [(0, (4, a0)), (1, (0, a1)), (3, (0, a3)), (5, (0, a5))]) [0, 1, 2, 4] rfl ?_
        exact t_X8_originsWith_49 hl0 (f_X8_originsWith_12  n) (fun b0 b1 b3 b4 b5 τ h => ih b0 b1 b3 b4 b5 τ h) h
      · refine r_iconst (v := 1) dX8_originsWith_35 rfl rfl ?_
        refine r_aload_n 0 dX8_originsWith_36 rfl ?_
        refine r_iload_n 1 dX8_originsWith_37 rfl ?_
        refine r_iload 4 dX8_originsWith_38 rfl ?_
        refine r_iconst (v := 0) dX8_originsWith_40 rfl rfl ?_
        refine r_callV (K' := Y_X8_ofReport) (R' := R_X8_ofReport) (idx := 95) (n := 3) (b := a0) (as := [(0, a1), (0, a5), (0, 0)]) (rest := [(0, 1), (0, a4)]) (C' := 0) (D' := 0) (cn := 8) rfl k0_X8_ofReport kV_X8_ofReport kl_X8_95 ⟨by decide, by decide⟩ dX8_originsWith_41 rfl rfl (Nat.le_of_ble_eq_true rfl) (by decide) (by decide) rfl h (fun r hr => m_X8_ofReport hl0 ⟨r, hr, hr⟩) (fun x5 τ6 _ h => ?_)
        refine r_ishl dX8_originsWith_44 ?_
        refine r_goto 49 dX8_originsWith_45 (by decide) ?_
        refine r_weak (L' := [(0, (4, a0)), (1, (0, a1)), (3, (0, a3)), (5, (0, a5))]) [0, 1, 2, 4] rfl ?_
        exact t_X8_originsWith_49 hl0 (f_X8_originsWith_12  n) (fun b0 b1 b3 b4 b5 τ h => ih b0 b1 b3 b4 b5 τ h) h

set_option maxRecDepth 100000 in
set_option maxHeartbeats 4000000 in
theorem t_X8_originsWith {g : zF} (hl0 : g.2.2.2.1.stackTraces = false) {Q : zR × zS → Prop}   {a0 a1 a2 a3 : Int} {σ : zS} (h : zo (f_X8_originsWith  a0 a1 a2 a3 σ) Q) : zw g Y_X8_originsWith R_X8_originsWith 0 [(0, (4, a0)), (1, (0, a1)), (2, (0, a2)), (3, (0, a3))] [] σ 0 0 Q := by
  unfold f_X8_originsWith at h
  refine r_aload_n 0 dX8_originsWith_0 rfl ?_
  refine r_iload_n 1 dX8_originsWith_1 rfl ?_
  refine r_iload_n 2 dX8_originsWith_2 rfl ?_
  refine r_callV (K' := Y_X8_layBelief) (R' := R_X8_layBelief) (idx := 203) (n := 2) (b := a0) (as := [(0, a1), (0, a2)]) (rest := []) (C' := 0) (D' := 0) (cn := 8) rfl k0_X8_layBelief kV_X8_layBelief kl_X8_203 ⟨by decide, by decide⟩ dX8_originsWith_3 rfl rfl (Nat.le_of_ble_eq_true rfl) (by decide) (by decide) rfl h (fun r hr => m_X8_layBelief hl0 ⟨r, hr, hr⟩) (fun _ τ2 _ h => ?_)
  refine r_iconst (v := 0) dX8_originsWith_6 rfl rfl ?_
  refine r_istore (L' := [(4, (0, 0)), (0, (4, a0)), (1, (0, a1)), (2, (0, a2)), (3, (0, a3))]) dX8_originsWith_7 (by decide) rfl ?_
  refine r_iconst (v := 0) dX8_originsWith_9 rfl rfl ?_
  refine r_istore (L' := [(5, (0, 0)), (4, (0, 0)), (0, (4, a0)), (1, (0, a1)), (2, (0, a2)), (3, (0, a3))]) dX8_originsWith_10 (by decide) rfl ?_
  refine r_weak (L' := [(0, (4, a0)), (1, (0, a1)), (3, (0, a3)), (4, (0, 0)), (5, (0, 0))]) [2, 3, 5, 1, 0] rfl ?_
  exact t_X8_originsWith_12 hl0   zFU _ _ _ _ _ _ h
theorem m_X8_originsWith {g : zF} (hl0 : g.2.2.2.1.stackTraces = false) {Q : zR × zS → Prop} {a0 a1 a2 a3 : Int} {σ : zS} (h : zo (f_X8_originsWith a0 a1 a2 a3 σ) Q) : zm g Y_X8_originsWith R_X8_originsWith [(4, a0), (0, a1), (0, a2), (0, a3)] σ Q := zm_of (by decide) rfl (Nat.le_of_ble_eq_true rfl) (t_X8_originsWith hl0 h)


/- X8_keepAside -/

set_option maxRecDepth 100000 in
set_option maxHeartbeats 4000000 in
theorem t_X8_keepAside_2 {g : zF} (hl0 : g.2.2.2.1.stackTraces = false) {Q : zR × zS → Prop}   : ∀ (n : Nat) (a0 a1 : Int) (σ : zS), zo (f_X8_keepAside_2  n a0 a1 σ) Q → zw g Y_X8_keepAside R_X8_keepAside 2 [(0, (4, a0)), (1, (0, a1))] [] σ 0 0 Q := by
  intro n
  induction n with
  | zero => intro a0 a1 σ h; obtain ⟨r, h, -⟩ := h; cases h
  | succ n ih =>
    intro a0 a1 σ h
    unfold f_X8_keepAside_2 at h
    refine r_iload_n 1 dX8_keepAside_2 rfl ?_
    refine r_sipush (v := 2405) dX8_keepAside_3 rfl rfl ?_
    refine r_icmp_ge 27 dX8_keepAside_6 (by decide) h (fun h => ?_) (fun h => ?_)
    · exact r_vret rfl dX8_keepAside_27 h
    · refine r_aload_n 0 dX8_keepAside_9 rfl ?_
      refine r_getr fd_X8_37 rfl dX8_keepAside_10 h (fun x1 h => ?_)
      refine r_iload_n 1 dX8_keepAside_13 rfl ?_
      refine r_aload_n 0 dX8_keepAside_14 rfl ?_
      refine r_getr fd_X8_17 rfl dX8_keepAside_15 h (fun x2 h => ?_)
      refine r_iload_n 1 dX8_keepAside_18 rfl ?_
      refine r_iald dX8_keepAside_19 h (fun x3 h => ?_)
      refine r_iast dX8_keepAside_20 h (fun τ4 h => ?_)
      refine r_iinc (L' := [(1, (0, (w32 (a1 + 1)))), (0, (4, a0))]) 1 dX8_keepAside_21 rfl (by decide) rfl ?_
      refine r_goto 2 dX8_keepAside_24 (by decide) ?_
      refine r_weak (L' := [(0, (4, a0)), (1, (0, (w32 (a1 + 1))))]) [1, 0] rfl ?_
      exact ih _ _ _ h

set_option maxRecDepth 100000 in
set_option maxHeartbeats 4000000 in
theorem t_X8_keepAside {g : zF} (hl0 : g.2.2.2.1.stackTraces = false) {Q : zR × zS → Prop}   {a0 : Int} {σ : zS} (h : zo (f_X8_keepAside  a0 σ) Q) : zw g Y_X8_keepAside R_X8_keepAside 0 [(0, (4, a0))] [] σ 0 0 Q := by
  unfold f_X8_keepAside at h
  refine r_iconst (v := 0) dX8_keepAside_0 rfl rfl ?_
  refine r_istore_n (L' := [(1, (0, 0)), (0, (4, a0))]) dX8_keepAside_1 (by decide) rfl ?_
  refine r_weak (L' := [(0, (4, a0)), (1, (0, 0))]) [1, 0] rfl ?_
  exact t_X8_keepAside_2 hl0   zFU _ _ _ h
theorem m_X8_keepAside {g : zF} (hl0 : g.2.2.2.1.stackTraces = false) {Q : zR × zS → Prop} {a0 : Int} {σ : zS} (h : zo (f_X8_keepAside a0 σ) Q) : zm g Y_X8_keepAside R_X8_keepAside [(4, a0)] σ Q := zm_of (by decide) rfl (Nat.le_of_ble_eq_true rfl) (t_X8_keepAside hl0 h)


/- X8_layBack -/

set_option maxRecDepth 100000 in
set_option maxHeartbeats 4000000 in
theorem t_X8_layBack_2 {g : zF} (hl0 : g.2.2.2.1.stackTraces = false) {Q : zR × zS → Prop}   : ∀ (n : Nat) (a0 a1 a2 : Int) (σ : zS), zo (f_X8_layBack_2  n a0 a1 a2 σ) Q → zw g Y_X8_layBack R_X8_layBack 2 [(0, (4, a0)), (1, (0, a1)), (2, (0, a2))] [] σ 0 0 Q := by
  intro n
  induction n with
  | zero => intro a0 a1 a2 σ h; obtain ⟨r, h, -⟩ := h; cases h
  | succ n ih =>
    intro a0 a1 a2 σ h
    unfold f_X8_layBack_2 at h
    refine r_iload_n 2 dX8_layBack_2 rfl ?_
    refine r_sipush (v := 2405) dX8_layBack_3 rfl rfl ?_
    refine r_icmp_ge 27 dX8_layBack_6 (by decide) h (fun h => ?_) (fun h => ?_)
    · refine r_iload_n 1 dX8_layBack_27 rfl ?_
      exact r_iret rfl dX8_layBack_28 h
    · refine r_aload_n 0 dX8_layBack_9 rfl ?_
      refine r_getr fd_X8_17 rfl dX8_layBack_10 h (fun x1 h => ?_)
      refine r_iload_n 2 dX8_layBack_13 rfl ?_
      refine r_aload_n 0 dX8_layBack_14 rfl ?_
      refine r_getr fd_X8_37 rfl dX8_layBack_15 h (fun x2 h => ?_)
      refine r_iload_n 2 dX8_layBack_18 rfl ?_
      refine r_iald dX8_layBack_19 h (fun x3 h => ?_)
      refine r_iast dX8_layBack_20 h (fun τ4 h => ?_)
      refine r_iinc (L' := [(2, (0, (w32 (a2 + 1)))), (0, (4, a0)), (1, (0, a1))]) 2 dX8_layBack_21 rfl (by decide) rfl ?_
      refine r_goto 2 dX8_layBack_24 (by decide) ?_
      refine r_weak (L' := [(0, (4, a0)), (1, (0, a1)), (2, (0, (w32 (a2 + 1))))]) [1, 2, 0] rfl ?_
      exact ih _ _ _ _ h

set_option maxRecDepth 100000 in
set_option maxHeartbeats 4000000 in
theorem t_X8_layBack {g : zF} (hl0 : g.2.2.2.1.stackTraces = false) {Q : zR × zS → Prop}   {a0 a1 : Int} {σ : zS} (h : zo (f_X8_layBack  a0 a1 σ) Q) : zw g Y_X8_layBack R_X8_layBack 0 [(0, (4, a0)), (1, (0, a1))] [] σ 0 0 Q := by
  unfold f_X8_layBack at h
  refine r_iconst (v := 0) dX8_layBack_0 rfl rfl ?_
  refine r_istore_n (L' := [(2, (0, 0)), (0, (4, a0)), (1, (0, a1))]) dX8_layBack_1 (by decide) rfl ?_
  refine r_weak (L' := [(0, (4, a0)), (1, (0, a1)), (2, (0, 0))]) [1, 2, 0] rfl ?_
  exact t_X8_layBack_2 hl0   zFU _ _ _ _ h
theorem m_X8_layBack {g : zF} (hl0 : g.2.2.2.1.stackTraces = false) {Q : zR × zS → Prop} {a0 a1 : Int} {σ : zS} (h : zo (f_X8_layBack a0 a1 σ) Q) : zm g Y_X8_layBack R_X8_layBack [(4, a0), (0, a1)] σ Q := zm_of (by decide) rfl (Nat.le_of_ble_eq_true rfl) (t_X8_layBack hl0 h)


/- X8_appendFour -/

set_option maxRecDepth 100000 in
set_option maxHeartbeats 4000000 in
theorem t_X8_appendFour_3 {g : zF} (hl0 : g.2.2.2.1.stackTraces = false) {Q : zR × zS → Prop}   : ∀ (n : Nat) (a0 a1 a2 : Int) (σ : zS), zo (f_X8_appendFour_3  n a0 a1 a2 σ) Q → zw g Y_X8_appendFour R_X8_appendFour 3 [(0, (4, a0)), (1, (0, a1)), (2, (0, a2))] [] σ 0 0 Q := by
  intro n
  induction n with
  | zero => intro a0 a1 a2 σ h; obtain ⟨r, h, -⟩ := h; cases h
  | succ n ih =>
    intro a0 a1 a2 σ h
    unfold f_X8_appendFour_3 at h
    refine r_iload_n 2 dX8_appendFour_3 rfl ?_
    refine r_if_lt 36 dX8_appendFour_4 (by decide) h (fun h => ?_) (fun h => ?_)
    · exact r_vret rfl dX8_appendFour_36 h
    · refine r_aload_n 0 dX8_appendFour_7 rfl ?_
      refine r_getr fd_X8_40 rfl dX8_appendFour_8 h (fun x1 h => ?_)
      refine r_aload_n 0 dX8_appendFour_11 rfl ?_
      refine r_getf fd_X8_212 rfl dX8_appendFour_12 h (fun x2 h => ?_)
      refine r_iload_n 1 dX8_appendFour_15 rfl ?_
      refine r_iload_n 2 dX8_appendFour_16 rfl ?_
      refine r_ishr dX8_appendFour_17 ?_
      refine r_i2b dX8_appendFour_18 ?_
      refine r_bast dX8_appendFour_19 h (fun τ3 h => ?_)
      refine r_aload_n 0 dX8_appendFour_20 rfl ?_
      refine r_dup dX8_appendFour_21 rfl ?_
      refine r_getf fd_X8_212 rfl dX8_appendFour_22 h (fun x4 h => ?_)
      refine r_iconst (v := 1) dX8_appendFour_25 rfl rfl ?_
      refine r_iadd dX8_appendFour_26 ?_
      refine r_putf fd_X8_212 fp_X8_appendFour_212 dX8_appendFour_27 h (fun τ5 h => ?_)
      refine r_iinc (L' := [(2, (0, (w32 (a2 + (-8))))), (0, (4, a0)), (1, (0, a1))]) 2 dX8_appendFour_30 rfl (by decide) rfl ?_
      refine r_goto 3 dX8_appendFour_33 (by decide) ?_
      refine r_weak (L' := [(0, (4, a0)), (1, (0, a1)), (2, (0, (w32 (a2 + (-8)))))]) [1, 2, 0] rfl ?_
      exact ih _ _ _ _ h

set_option maxRecDepth 100000 in
set_option maxHeartbeats 4000000 in
theorem t_X8_appendFour {g : zF} (hl0 : g.2.2.2.1.stackTraces = false) {Q : zR × zS → Prop}   {a0 a1 : Int} {σ : zS} (h : zo (f_X8_appendFour  a0 a1 σ) Q) : zw g Y_X8_appendFour R_X8_appendFour 0 [(0, (4, a0)), (1, (0, a1))] [] σ 0 0 Q := by
  unfold f_X8_appendFour at h
  refine r_bipush (v := 24) dX8_appendFour_0 rfl rfl ?_
  refine r_istore_n (L' := [(2, (0, 24)), (0, (4, a0)), (1, (0, a1))]) dX8_appendFour_2 (by decide) rfl ?_
  refine r_weak (L' := [(0, (4, a0)), (1, (0, a1)), (2, (0, 24))]) [1, 2, 0] rfl ?_
  exact t_X8_appendFour_3 hl0   zFU _ _ _ _ h
theorem m_X8_appendFour {g : zF} (hl0 : g.2.2.2.1.stackTraces = false) {Q : zR × zS → Prop} {a0 a1 : Int} {σ : zS} (h : zo (f_X8_appendFour a0 a1 σ) Q) : zm g Y_X8_appendFour R_X8_appendFour [(4, a0), (0, a1)] σ Q := zm_of (by decide) rfl (Nat.le_of_ble_eq_true rfl) (t_X8_appendFour hl0 h)


/- X8_append -/

set_option maxRecDepth 100000 in
set_option maxHeartbeats 4000000 in
theorem t_X8_append_19 {g : zF} (hl0 : g.2.2.2.1.stackTraces = false) {Q : zR × zS → Prop}   {a0 a1 a2 a3 a4 a5 s0 s1 : Int} {σ : zS} (h : zo (f_X8_append_19  a0 a1 a2 a3 a4 a5 s0 s1 σ) Q) : zw g Y_X8_append R_X8_append 19 [(0, (4, a0)), (1, (0, a1)), (2, (0, a2)), (3, (0, a3)), (4, (0, a4)), (5, (0, a5))] [(0, s1), (4, s0)] σ 0 0 Q := by
  unfold f_X8_append_19 at h
  refine r_callV (K' := Y_X8_passes) (R' := R_X8_passes) (idx := 215) (n := 1) (b := s0) (as := [(0, s1)]) (rest := []) (C' := 0) (D' := 0) (cn := 8) rfl k0_X8_passes kV_X8_passes kl_X8_215 ⟨by decide, by decide⟩ dX8_append_19 rfl rfl (Nat.le_of_ble_eq_true rfl) (by decide) (by decide) rfl h (fun r hr => m_X8_passes hl0 ⟨r, hr, hr⟩) (fun x1 τ2 _ h => ?_)
  refine r_if_ne 27 dX8_append_22 (by decide) h (fun h => ?_) (fun h => ?_)
  · refine r_aload_n 0 dX8_append_27 rfl ?_
    refine r_iload_n 1 dX8_append_28 rfl ?_
    refine r_callV (K' := Y_X8_appendFour) (R' := R_X8_appendFour) (idx := 219) (n := 1) (b := a0) (as := [(0, a1)]) (rest := []) (C' := 0) (D' := 0) (cn := 8) rfl k0_X8_appendFour kV_X8_appendFour kl_X8_219 ⟨by decide, by decide⟩ dX8_append_29 rfl rfl (Nat.le_of_ble_eq_true rfl) (by decide) (by decide) rfl h (fun r hr => m_X8_appendFour hl0 ⟨r, hr, hr⟩) (fun _ τ4 _ h => ?_)
    refine r_aload_n 0 dX8_append_32 rfl ?_
    refine r_iload_n 2 dX8_append_33 rfl ?_
    refine r_callV (K' := Y_X8_appendFour) (R' := R_X8_appendFour) (idx := 219) (n := 1) (b := a0) (as := [(0, a2)]) (rest := []) (C' := 0) (D' := 0) (cn := 8) rfl k0_X8_appendFour kV_X8_appendFour kl_X8_219 ⟨by decide, by decide⟩ dX8_append_34 rfl rfl (Nat.le_of_ble_eq_true rfl) (by decide) (by decide) rfl h (fun r hr => m_X8_appendFour hl0 ⟨r, hr, hr⟩) (fun _ τ6 _ h => ?_)
    refine r_aload_n 0 dX8_append_37 rfl ?_
    refine r_iload_n 3 dX8_append_38 rfl ?_
    refine r_callV (K' := Y_X8_appendFour) (R' := R_X8_appendFour) (idx := 219) (n := 1) (b := a0) (as := [(0, a3)]) (rest := []) (C' := 0) (D' := 0) (cn := 8) rfl k0_X8_appendFour kV_X8_appendFour kl_X8_219 ⟨by decide, by decide⟩ dX8_append_39 rfl rfl (Nat.le_of_ble_eq_true rfl) (by decide) (by decide) rfl h (fun r hr => m_X8_appendFour hl0 ⟨r, hr, hr⟩) (fun _ τ8 _ h => ?_)
    refine r_aload_n 0 dX8_append_42 rfl ?_
    refine r_iload 4 dX8_append_43 rfl ?_
    refine r_callV (K' := Y_X8_appendFour) (R' := R_X8_appendFour) (idx := 219) (n := 1) (b := a0) (as := [(0, a4)]) (rest := []) (C' := 0) (D' := 0) (cn := 8) rfl k0_X8_appendFour kV_X8_appendFour kl_X8_219 ⟨by decide, by decide⟩ dX8_append_45 rfl rfl (Nat.le_of_ble_eq_true rfl) (by decide) (by decide) rfl h (fun r hr => m_X8_appendFour hl0 ⟨r, hr, hr⟩) (fun _ τ10 _ h => ?_)
    refine r_aload_n 0 dX8_append_48 rfl ?_
    refine r_iload 5 dX8_append_49 rfl ?_
    refine r_callV (K' := Y_X8_appendFour) (R' := R_X8_appendFour) (idx := 219) (n := 1) (b := a0) (as := [(0, a5)]) (rest := []) (C' := 0) (D' := 0) (cn := 8) rfl k0_X8_appendFour kV_X8_appendFour kl_X8_219 ⟨by decide, by decide⟩ dX8_append_51 rfl rfl (Nat.le_of_ble_eq_true rfl) (by decide) (by decide) rfl h (fun r hr => m_X8_appendFour hl0 ⟨r, hr, hr⟩) (fun _ τ12 _ h => ?_)
    refine r_aload_n 0 dX8_append_54 rfl ?_
    refine r_getf fd_X8_212 rfl dX8_append_55 h (fun x13 h => ?_)
    exact r_iret rfl dX8_append_58 h
  · refine r_iconst (v := 0) dX8_append_25 rfl rfl ?_
    exact r_iret rfl dX8_append_26 h

set_option maxRecDepth 100000 in
set_option maxHeartbeats 4000000 in
theorem t_X8_append {g : zF} (hl0 : g.2.2.2.1.stackTraces = false) {Q : zR × zS → Prop}   {a0 a1 a2 a3 a4 a5 : Int} {σ : zS} (h : zo (f_X8_append  a0 a1 a2 a3 a4 a5 σ) Q) : zw g Y_X8_append R_X8_append 0 [(0, (4, a0)), (1, (0, a1)), (2, (0, a2)), (3, (0, a3)), (4, (0, a4)), (5, (0, a5))] [] σ 0 0 Q := by
  unfold f_X8_append at h
  refine r_aload_n 0 dX8_append_0 rfl ?_
  refine r_aload_n 0 dX8_append_1 rfl ?_
  refine r_getf fd_X8_212 rfl dX8_append_2 h (fun x1 h => ?_)
  refine r_bipush (v := 20) dX8_append_5 rfl rfl ?_
  refine r_iadd dX8_append_7 ?_
  refine r_sipush (v := 600) dX8_append_8 rfl rfl ?_
  refine r_icmp_gt 18 dX8_append_11 (by decide) h (fun h => ?_) (fun h => ?_)
  · refine r_iconst (v := 0) dX8_append_18 rfl rfl ?_
    exact t_X8_append_19 hl0   h
  · refine r_iconst (v := 1) dX8_append_14 rfl rfl ?_
    refine r_goto 19 dX8_append_15 (by decide) ?_
    exact t_X8_append_19 hl0   h
theorem m_X8_append {g : zF} (hl0 : g.2.2.2.1.stackTraces = false) {Q : zR × zS → Prop} {a0 a1 a2 a3 a4 a5 : Int} {σ : zS} (h : zo (f_X8_append a0 a1 a2 a3 a4 a5 σ) Q) : zm g Y_X8_append R_X8_append [(4, a0), (0, a1), (0, a2), (0, a3), (0, a4), (0, a5)] σ Q := zm_of (by decide) rfl (Nat.le_of_ble_eq_true rfl) (t_X8_append hl0 h)


/- X8_truncate -/

set_option maxRecDepth 100000 in
set_option maxHeartbeats 4000000 in
theorem t_X8_truncate {g : zF} (hl0 : g.2.2.2.1.stackTraces = false) {Q : zR × zS → Prop}   {a0 a1 : Int} {σ : zS} (h : zo (f_X8_truncate  a0 a1 σ) Q) : zw g Y_X8_truncate R_X8_truncate 0 [(0, (4, a0)), (1, (0, a1))] [] σ 0 0 Q := by
  unfold f_X8_truncate at h
  refine r_aload_n 0 dX8_truncate_0 rfl ?_
  refine r_iload_n 1 dX8_truncate_1 rfl ?_
  refine r_i2l dX8_truncate_2 ?_
  refine r_lconst dX8_truncate_3 ?_
  refine r_aload_n 0 dX8_truncate_4 rfl ?_
  refine r_getf fd_X8_212 rfl dX8_truncate_5 h (fun x1 h => ?_)
  refine r_i2l dX8_truncate_8 ?_
  refine r_callS (K' := Y_X8_in) (R' := R_X8_in) (idx := 70) (n := 3) (as := [(1, a1), (1, 0), (1, x1)]) (rest := [(4, a0)]) (C' := 0) (D' := 0) rfl k0_X8_in wd_1562 kl_X8_70 ⟨by decide, by decide⟩ dX8_truncate_9 rfl rfl (Nat.le_of_ble_eq_true rfl) (by decide) (by decide) h (fun r hr => m_X8_in hl0 ⟨r, hr, hr⟩) (fun x2 τ3 _ h => ?_)
  refine r_callV (K' := Y_X8_passes) (R' := R_X8_passes) (idx := 215) (n := 1) (b := a0) (as := [(0, x2)]) (rest := []) (C' := 0) (D' := 0) (cn := 8) rfl k0_X8_passes kV_X8_passes kl_X8_215 ⟨by decide, by decide⟩ dX8_truncate_12 rfl rfl (Nat.le_of_ble_eq_true rfl) (by decide) (by decide) rfl h (fun r hr => m_X8_passes hl0 ⟨r, hr, hr⟩) (fun x4 τ5 _ h => ?_)
  refine r_if_eq 23 dX8_truncate_15 (by decide) h (fun h => ?_) (fun h => ?_)
  · exact r_vret rfl dX8_truncate_23 h
  · refine r_aload_n 0 dX8_truncate_18 rfl ?_
    refine r_iload_n 1 dX8_truncate_19 rfl ?_
    refine r_putf fd_X8_212 fp_X8_truncate_212 dX8_truncate_20 h (fun τ6 h => ?_)
    exact r_vret rfl dX8_truncate_23 h
theorem m_X8_truncate {g : zF} (hl0 : g.2.2.2.1.stackTraces = false) {Q : zR × zS → Prop} {a0 a1 : Int} {σ : zS} (h : zo (f_X8_truncate a0 a1 σ) Q) : zm g Y_X8_truncate R_X8_truncate [(4, a0), (0, a1)] σ Q := zm_of (by decide) rfl (Nat.le_of_ble_eq_true rfl) (t_X8_truncate hl0 h)


/- X8_good -/

set_option maxRecDepth 100000 in
set_option maxHeartbeats 4000000 in
theorem t_X8_good {g : zF} (hl0 : g.2.2.2.1.stackTraces = false) {Q : zR × zS → Prop}   {a0 : Int} {σ : zS} (h : zo (f_X8_good  a0 σ) Q) : zw g Y_X8_good R_X8_good 0 [(0, (4, a0))] [] σ 0 0 Q := by
  unfold f_X8_good at h
  refine r_aload_n 0 dX8_good_0 rfl ?_
  refine r_getf fd_X8_223 rfl dX8_good_1 h (fun x1 h => ?_)
  refine r_if_ne 11 dX8_good_4 (by decide) h (fun h => ?_) (fun h => ?_)
  · refine r_iconst (v := 0) dX8_good_11 rfl rfl ?_
    exact r_zretc (by decide) rfl dX8_good_12 h
  · refine r_iconst (v := 1) dX8_good_7 rfl rfl ?_
    refine r_goto 12 dX8_good_8 (by decide) ?_
    exact r_zretc (by decide) rfl dX8_good_12 h
theorem m_X8_good {g : zF} (hl0 : g.2.2.2.1.stackTraces = false) {Q : zR × zS → Prop} {a0 : Int} {σ : zS} (h : zo (f_X8_good a0 σ) Q) : zm g Y_X8_good R_X8_good [(4, a0)] σ Q := zm_of (by decide) rfl (Nat.le_of_ble_eq_true rfl) (t_X8_good hl0 h)


/- X8_errs -/

set_option maxRecDepth 100000 in
set_option maxHeartbeats 4000000 in
theorem t_X8_errs {g : zF} (hl0 : g.2.2.2.1.stackTraces = false) {Q : zR × zS → Prop}   {a0 a1 : Int} {σ : zS} (h : zo (f_X8_errs  a0 a1 σ) Q) : zw g Y_X8_errs R_X8_errs 0 [(0, (4, a0)), (1, (0, a1))] [] σ 0 0 Q := by
  unfold f_X8_errs at h
  refine r_aload_n 0 dX8_errs_0 rfl ?_
  refine r_callV (K' := Y_X8_good) (R' := R_X8_good) (idx := 226) (n := 0) (b := a0) (as := []) (rest := []) (C' := 0) (D' := 0) (cn := 8) rfl k0_X8_good kV_X8_good kl_X8_226 ⟨by decide, by decide⟩ dX8_errs_1 rfl rfl (Nat.le_of_ble_eq_true rfl) (by decide) (by decide) rfl h (fun r hr => m_X8_good hl0 ⟨r, hr, hr⟩) (fun x1 τ2 _ h => ?_)
  refine r_if_ne 8 dX8_errs_4 (by decide) h (fun h => ?_) (fun h => ?_)
  · refine r_aload_n 0 dX8_errs_8 rfl ?_
    refine r_iload_n 1 dX8_errs_9 rfl ?_
    refine r_putf fd_X8_223 fp_X8_errs_223 dX8_errs_10 h (fun τ3 h => ?_)
    refine r_aload_n 0 dX8_errs_13 rfl ?_
    refine r_aload_n 0 dX8_errs_14 rfl ?_
    refine r_getf fd_X8_229 rfl dX8_errs_15 h (fun x4 h => ?_)
    refine r_putf fd_X8_44 fp_X8_errs_44 dX8_errs_18 h (fun τ5 h => ?_)
    exact r_vret rfl dX8_errs_21 h
  · exact r_vret rfl dX8_errs_7 h
theorem m_X8_errs {g : zF} (hl0 : g.2.2.2.1.stackTraces = false) {Q : zR × zS → Prop} {a0 a1 : Int} {σ : zS} (h : zo (f_X8_errs a0 a1 σ) Q) : zm g Y_X8_errs R_X8_errs [(4, a0), (0, a1)] σ Q := zm_of (by decide) rfl (Nat.le_of_ble_eq_true rfl) (t_X8_errs hl0 h)


/- X8_byteAt -/

set_option maxRecDepth 100000 in
set_option maxHeartbeats 4000000 in
theorem t_X8_byteAt {g : zF} (hl0 : g.2.2.2.1.stackTraces = false) {Q : zR × zS → Prop}   {a0 a1 : Int} {σ : zS} (h : zo (f_X8_byteAt  a0 a1 σ) Q) : zw g Y_X8_byteAt R_X8_byteAt 0 [(0, (4, a0)), (1, (0, a1))] [] σ 0 0 Q := by
  unfold f_X8_byteAt at h
  refine r_iload_n 1 dX8_byteAt_0 rfl ?_
  refine r_aload_n 0 dX8_byteAt_1 rfl ?_
  refine r_getf fd_X8_232 rfl dX8_byteAt_2 h (fun x1 h => ?_)
  refine r_icmp_ge 21 dX8_byteAt_5 (by decide) h (fun h => ?_) (fun h => ?_)
  · refine r_iconst (v := (-1)) dX8_byteAt_21 rfl rfl ?_
    exact r_iret rfl dX8_byteAt_22 h
  · refine r_aload_n 0 dX8_byteAt_8 rfl ?_
    refine r_getr fd_X8_40 rfl dX8_byteAt_9 h (fun x2 h => ?_)
    refine r_iload_n 1 dX8_byteAt_12 rfl ?_
    refine r_bald dX8_byteAt_13 h (fun x3 h => ?_)
    refine r_sipush (v := 255) dX8_byteAt_14 rfl rfl ?_
    refine r_iand dX8_byteAt_17 ?_
    refine r_goto 22 dX8_byteAt_18 (by decide) ?_
    exact r_iret rfl dX8_byteAt_22 h
theorem m_X8_byteAt {g : zF} (hl0 : g.2.2.2.1.stackTraces = false) {Q : zR × zS → Prop} {a0 a1 : Int} {σ : zS} (h : zo (f_X8_byteAt a0 a1 σ) Q) : zm g Y_X8_byteAt R_X8_byteAt [(4, a0), (0, a1)] σ Q := zm_of (by decide) rfl (Nat.le_of_ble_eq_true rfl) (t_X8_byteAt hl0 h)


/- X8_scan -/

set_option maxRecDepth 100000 in
set_option maxHeartbeats 4000000 in
theorem t_X8_scan_26 {g : zF} (hl0 : g.2.2.2.1.stackTraces = false) {Q : zR × zS → Prop} (r0 : Int → zS → zFn) (hr0 : ∀ b0 τ, zo (r0 b0 τ) Q → zw g Y_X8_scan R_X8_scan 0 [(0, (4, b0))] [] τ 0 0 Q) {a0 : Int} {σ : zS} (h : zo (f_X8_scan_26 r0 a0 σ) Q) : zw g Y_X8_scan R_X8_scan 26 [(0, (4, a0))] [] σ 0 0 Q := by
  unfold f_X8_scan_26 at h
  refine r_aload_n 0 dX8_scan_26 rfl ?_
  refine r_dup dX8_scan_27 rfl ?_
  refine r_getf fd_X8_235 rfl dX8_scan_28 h (fun x1 h => ?_)
  refine r_iconst (v := 1) dX8_scan_31 rfl rfl ?_
  refine r_iadd dX8_scan_32 ?_
  refine r_putf fd_X8_235 fp_X8_scan_235 dX8_scan_33 h (fun τ2 h => ?_)
  refine r_goto 0 dX8_scan_36 (by decide) ?_
  exact hr0 _ _ h

set_option maxRecDepth 100000 in
set_option maxHeartbeats 4000000 in
theorem t_X8_scan_144 {g : zF} (hl0 : g.2.2.2.1.stackTraces = false) {Q : zR × zS → Prop}   : ∀ (n : Nat) (a0 : Int) (σ : zS), zo (f_X8_scan_144  n a0 σ) Q → zw g Y_X8_scan R_X8_scan 144 [(0, (4, a0))] [] σ 0 0 Q := by
  intro n
  induction n with
  | zero => intro a0 σ h; obtain ⟨r, h, -⟩ := h; cases h
  | succ n ih =>
    intro a0 σ h
    unfold f_X8_scan_144 at h
    refine r_aload_n 0 dX8_scan_144 rfl ?_
    refine r_aload_n 0 dX8_scan_145 rfl ?_
    refine r_getf fd_X8_235 rfl dX8_scan_146 h (fun x1 h => ?_)
    refine r_callV (K' := Y_X8_byteAt) (R' := R_X8_byteAt) (idx := 238) (n := 1) (b := a0) (as := [(0, x1)]) (rest := []) (C' := 0) (D' := 0) (cn := 8) rfl k0_X8_byteAt kV_X8_byteAt kl_X8_238 ⟨by decide, by decide⟩ dX8_scan_149 rfl rfl (Nat.le_of_ble_eq_true rfl) (by decide) (by decide) rfl h (fun r hr => m_X8_byteAt hl0 ⟨r, hr, hr⟩) (fun x2 τ3 _ h => ?_)
    refine r_i2l dX8_scan_152 ?_
    refine r_ldcL (z := 48) wd_1578 (by decide +kernel) dX8_scan_153 ?_
    refine r_ldcL (z := 57) wd_1579 (by decide +kernel) dX8_scan_156 ?_
    refine r_callS (K' := Y_X8_in) (R' := R_X8_in) (idx := 70) (n := 3) (as := [(1, x2), (1, 48), (1, 57)]) (rest := []) (C' := 0) (D' := 0) rfl k0_X8_in wd_1562 kl_X8_70 ⟨by decide, by decide⟩ dX8_scan_159 rfl rfl (Nat.le_of_ble_eq_true rfl) (by decide) (by decide) h (fun r hr => m_X8_in hl0 ⟨r, hr, hr⟩) (fun x4 τ5 _ h => ?_)
    refine r_if_eq 207 dX8_scan_162 (by decide) h (fun h => ?_) (fun h => ?_)
    · refine r_aload_n 0 dX8_scan_207 rfl ?_
      refine r_iconst (v := 2) dX8_scan_208 rfl rfl ?_
      refine r_putf fd_X8_241 fp_X8_scan_241 dX8_scan_209 h (fun τ6 h => ?_)
      refine r_goto 235 dX8_scan_212 (by decide) ?_
      exact r_vret rfl dX8_scan_235 h
    · refine r_aload_n 0 dX8_scan_165 rfl ?_
      refine r_sipush (v := 9999) dX8_scan_166 rfl rfl ?_
      refine r_bipush (v := 10) dX8_scan_169 rfl rfl ?_
      refine r_aload_n 0 dX8_scan_171 rfl ?_
      refine r_getf fd_X8_252 rfl dX8_scan_172 h (fun x7 h => ?_)
      refine r_imul dX8_scan_175 ?_
      refine r_aload_n 0 dX8_scan_176 rfl ?_
      refine r_aload_n 0 dX8_scan_177 rfl ?_
      refine r_getf fd_X8_235 rfl dX8_scan_178 h (fun x8 h => ?_)
      refine r_callV (K' := Y_X8_byteAt) (R' := R_X8_byteAt) (idx := 238) (n := 1) (b := a0) (as := [(0, x8)]) (rest := [(0, (w32 (10 * x7))), (0, 9999), (4, a0)]) (C' := 0) (D' := 0) (cn := 8) rfl k0_X8_byteAt kV_X8_byteAt kl_X8_238 ⟨by decide, by decide⟩ dX8_scan_181 rfl rfl (Nat.le_of_ble_eq_true rfl) (by decide) (by decide) rfl h (fun r hr => m_X8_byteAt hl0 ⟨r, hr, hr⟩) (fun x9 τ10 _ h => ?_)
      refine r_iadd dX8_scan_184 ?_
      refine r_bipush (v := 48) dX8_scan_185 rfl rfl ?_
      refine r_isub dX8_scan_187 ?_
      refine r_mmin mq_X8_107 ⟨by decide, Nat.le_of_ble_eq_true rfl⟩ rfl dX8_scan_188 ?_
      refine r_putf fd_X8_252 fp_X8_scan_252 dX8_scan_191 h (fun τ11 h => ?_)
      refine r_aload_n 0 dX8_scan_194 rfl ?_
      refine r_dup dX8_scan_195 rfl ?_
      refine r_getf fd_X8_235 rfl dX8_scan_196 h (fun x12 h => ?_)
      refine r_iconst (v := 1) dX8_scan_199 rfl rfl ?_
      refine r_iadd dX8_scan_200 ?_
      refine r_putf fd_X8_235 fp_X8_scan_235 dX8_scan_201 h (fun τ13 h => ?_)
      refine r_goto 144 dX8_scan_204 (by decide) ?_
      exact ih _ _ h

set_option maxRecDepth 100000 in
set_option maxHeartbeats 4000000 in
theorem t_X8_scan_83 {g : zF} (hl0 : g.2.2.2.1.stackTraces = false) {Q : zR × zS → Prop}   : ∀ (n : Nat) (a0 : Int) (σ : zS), zo (f_X8_scan_83  n a0 σ) Q → zw g Y_X8_scan R_X8_scan 83 [(0, (4, a0))] [] σ 0 0 Q := by
  intro n
  induction n with
  | zero => intro a0 σ h; obtain ⟨r, h, -⟩ := h; cases h
  | succ n ih =>
    intro a0 σ h
    unfold f_X8_scan_83 at h
    refine r_aload_n 0 dX8_scan_83 rfl ?_
    refine r_aload_n 0 dX8_scan_84 rfl ?_
    refine r_getf fd_X8_235 rfl dX8_scan_85 h (fun x1 h => ?_)
    refine r_callV (K' := Y_X8_byteAt) (R' := R_X8_byteAt) (idx := 238) (n := 1) (b := a0) (as := [(0, x1)]) (rest := []) (C' := 0) (D' := 0) (cn := 8) rfl k0_X8_byteAt kV_X8_byteAt kl_X8_238 ⟨by decide, by decide⟩ dX8_scan_88 rfl rfl (Nat.le_of_ble_eq_true rfl) (by decide) (by decide) rfl h (fun r hr => m_X8_byteAt hl0 ⟨r, hr, hr⟩) (fun x2 τ3 _ h => ?_)
    refine r_i2l dX8_scan_91 ?_
    refine r_ldcL (z := 97) wd_1576 (by decide +kernel) dX8_scan_92 ?_
    refine r_ldcL (z := 122) wd_1577 (by decide +kernel) dX8_scan_95 ?_
    refine r_callS (K' := Y_X8_in) (R' := R_X8_in) (idx := 70) (n := 3) (as := [(1, x2), (1, 97), (1, 122)]) (rest := []) (C' := 0) (D' := 0) rfl k0_X8_in wd_1562 kl_X8_70 ⟨by decide, by decide⟩ dX8_scan_98 rfl rfl (Nat.le_of_ble_eq_true rfl) (by decide) (by decide) h (fun r hr => m_X8_in hl0 ⟨r, hr, hr⟩) (fun x4 τ5 _ h => ?_)
    refine r_if_eq 117 dX8_scan_101 (by decide) h (fun h => ?_) (fun h => ?_)
    · refine r_aload_n 0 dX8_scan_117 rfl ?_
      refine r_iconst (v := 1) dX8_scan_118 rfl rfl ?_
      refine r_putf fd_X8_241 fp_X8_scan_241 dX8_scan_119 h (fun τ6 h => ?_)
      refine r_goto 235 dX8_scan_122 (by decide) ?_
      exact r_vret rfl dX8_scan_235 h
    · refine r_aload_n 0 dX8_scan_104 rfl ?_
      refine r_dup dX8_scan_105 rfl ?_
      refine r_getf fd_X8_235 rfl dX8_scan_106 h (fun x7 h => ?_)
      refine r_iconst (v := 1) dX8_scan_109 rfl rfl ?_
      refine r_iadd dX8_scan_110 ?_
      refine r_putf fd_X8_235 fp_X8_scan_235 dX8_scan_111 h (fun τ8 h => ?_)
      refine r_goto 83 dX8_scan_114 (by decide) ?_
      exact ih _ _ h

set_option maxRecDepth 100000 in
set_option maxHeartbeats 4000000 in
theorem t_X8_scan_39 {g : zF} (hl0 : g.2.2.2.1.stackTraces = false) {Q : zR × zS → Prop}   {a0 : Int} {σ : zS} (h : zo (f_X8_scan_39  a0 σ) Q) : zw g Y_X8_scan R_X8_scan 39 [(0, (4, a0))] [] σ 0 0 Q := by
  unfold f_X8_scan_39 at h
  refine r_aload_n 0 dX8_scan_39 rfl ?_
  refine r_aload_n 0 dX8_scan_40 rfl ?_
  refine r_getf fd_X8_235 rfl dX8_scan_41 h (fun x1 h => ?_)
  refine r_putf fd_X8_229 fp_X8_scan_229 dX8_scan_44 h (fun τ2 h => ?_)
  refine r_aload_n 0 dX8_scan_47 rfl ?_
  refine r_aload_n 0 dX8_scan_48 rfl ?_
  refine r_getf fd_X8_235 rfl dX8_scan_49 h (fun x3 h => ?_)
  refine r_callV (K' := Y_X8_byteAt) (R' := R_X8_byteAt) (idx := 238) (n := 1) (b := a0) (as := [(0, x3)]) (rest := []) (C' := 0) (D' := 0) (cn := 8) rfl k0_X8_byteAt kV_X8_byteAt kl_X8_238 ⟨by decide, by decide⟩ dX8_scan_52 rfl rfl (Nat.le_of_ble_eq_true rfl) (by decide) (by decide) rfl h (fun r hr => m_X8_byteAt hl0 ⟨r, hr, hr⟩) (fun x4 τ5 _ h => ?_)
  refine r_istore_n (L' := [(1, (0, x4)), (0, (4, a0))]) dX8_scan_55 (by decide) rfl ?_
  refine r_iload_n 0 dX8_scan_56 rfl ?_
  refine r_iconst (v := (-1)) dX8_scan_57 rfl rfl ?_
  refine r_icmp_ne 69 dX8_scan_58 (by decide) h (fun h => ?_) (fun h => ?_)
  · refine r_iload_n 0 dX8_scan_69 rfl ?_
    refine r_i2l dX8_scan_70 ?_
    refine r_ldcL (z := 97) wd_1576 (by decide +kernel) dX8_scan_71 ?_
    refine r_ldcL (z := 122) wd_1577 (by decide +kernel) dX8_scan_74 ?_
    refine r_callS (K' := Y_X8_in) (R' := R_X8_in) (idx := 70) (n := 3) (as := [(1, x4), (1, 97), (1, 122)]) (rest := []) (C' := 0) (D' := 0) rfl k0_X8_in wd_1562 kl_X8_70 ⟨by decide, by decide⟩ dX8_scan_77 rfl rfl (Nat.le_of_ble_eq_true rfl) (by decide) (by decide) h (fun r hr => m_X8_in hl0 ⟨r, hr, hr⟩) (fun x6 τ7 _ h => ?_)
    refine r_if_eq 125 dX8_scan_80 (by decide) h (fun h => ?_) (fun h => ?_)
    · refine r_iload_n 0 dX8_scan_125 rfl ?_
      refine r_i2l dX8_scan_126 ?_
      refine r_ldcL (z := 48) wd_1578 (by decide +kernel) dX8_scan_127 ?_
      refine r_ldcL (z := 57) wd_1579 (by decide +kernel) dX8_scan_130 ?_
      refine r_callS (K' := Y_X8_in) (R' := R_X8_in) (idx := 70) (n := 3) (as := [(1, x4), (1, 48), (1, 57)]) (rest := []) (C' := 0) (D' := 0) rfl k0_X8_in wd_1562 kl_X8_70 ⟨by decide, by decide⟩ dX8_scan_133 rfl rfl (Nat.le_of_ble_eq_true rfl) (by decide) (by decide) h (fun r hr => m_X8_in hl0 ⟨r, hr, hr⟩) (fun x8 τ9 _ h => ?_)
      refine r_if_eq 215 dX8_scan_136 (by decide) h (fun h => ?_) (fun h => ?_)
      · refine r_aload_n 1 dX8_scan_215 rfl ?_
        refine r_iconst (v := 3) dX8_scan_216 rfl rfl ?_
        refine r_putf fd_X8_241 fp_X8_scan_241 dX8_scan_217 h (fun τ10 h => ?_)
        refine r_aload_n 1 dX8_scan_220 rfl ?_
        refine r_iload_n 0 dX8_scan_221 rfl ?_
        refine r_putf fd_X8_252 fp_X8_scan_252 dX8_scan_222 h (fun τ11 h => ?_)
        refine r_aload_n 1 dX8_scan_225 rfl ?_
        refine r_dup dX8_scan_226 rfl ?_
        refine r_getf fd_X8_235 rfl dX8_scan_227 h (fun x12 h => ?_)
        refine r_iconst (v := 1) dX8_scan_230 rfl rfl ?_
        refine r_iadd dX8_scan_231 ?_
        refine r_putf fd_X8_235 fp_X8_scan_235 dX8_scan_232 h (fun τ13 h => ?_)
        exact r_vret rfl dX8_scan_235 h
      · refine r_aload_n 1 dX8_scan_139 rfl ?_
        refine r_iconst (v := 0) dX8_scan_140 rfl rfl ?_
        refine r_putf fd_X8_252 fp_X8_scan_252 dX8_scan_141 h (fun τ14 h => ?_)
        refine r_weak (L' := [(0, (4, a0))]) [1] rfl ?_
        exact t_X8_scan_144 hl0   zFU _ _ h
    · refine r_weak (L' := [(0, (4, a0))]) [1] rfl ?_
      exact t_X8_scan_83 hl0   zFU _ _ h
  · refine r_aload_n 1 dX8_scan_61 rfl ?_
    refine r_iconst (v := 0) dX8_scan_62 rfl rfl ?_
    refine r_putf fd_X8_241 fp_X8_scan_241 dX8_scan_63 h (fun τ15 h => ?_)
    refine r_goto 235 dX8_scan_66 (by decide) ?_
    exact r_vret rfl dX8_scan_235 h

set_option maxRecDepth 100000 in
set_option maxHeartbeats 4000000 in
theorem t_X8_scan_0 {g : zF} (hl0 : g.2.2.2.1.stackTraces = false) {Q : zR × zS → Prop}   : ∀ (n : Nat) (a0 : Int) (σ : zS), zo (f_X8_scan_0  n a0 σ) Q → zw g Y_X8_scan R_X8_scan 0 [(0, (4, a0))] [] σ 0 0 Q := by
  intro n
  induction n with
  | zero => intro a0 σ h; obtain ⟨r, h, -⟩ := h; cases h
  | succ n ih =>
    intro a0 σ h
    unfold f_X8_scan_0 at h
    refine r_aload_n 0 dX8_scan_0 rfl ?_
    refine r_aload_n 0 dX8_scan_1 rfl ?_
    refine r_getf fd_X8_235 rfl dX8_scan_2 h (fun x1 h => ?_)
    refine r_callV (K' := Y_X8_byteAt) (R' := R_X8_byteAt) (idx := 238) (n := 1) (b := a0) (as := [(0, x1)]) (rest := []) (C' := 0) (D' := 0) (cn := 8) rfl k0_X8_byteAt kV_X8_byteAt kl_X8_238 ⟨by decide, by decide⟩ dX8_scan_5 rfl rfl (Nat.le_of_ble_eq_true rfl) (by decide) (by decide) rfl h (fun r hr => m_X8_byteAt hl0 ⟨r, hr, hr⟩) (fun x2 τ3 _ h => ?_)
    refine r_bipush (v := 32) dX8_scan_8 rfl rfl ?_
    refine r_icmp_eq 26 dX8_scan_10 (by decide) h (fun h => ?_) (fun h => ?_)
    · exact t_X8_scan_26 hl0 (f_X8_scan_0  n) (fun b0 τ h => ih b0 τ h) h
    · refine r_aload_n 0 dX8_scan_13 rfl ?_
      refine r_aload_n 0 dX8_scan_14 rfl ?_
      refine r_getf fd_X8_235 rfl dX8_scan_15 h (fun x4 h => ?_)
      refine r_callV (K' := Y_X8_byteAt) (R' := R_X8_byteAt) (idx := 238) (n := 1) (b := a0) (as := [(0, x4)]) (rest := []) (C' := 0) (D' := 0) (cn := 8) rfl k0_X8_byteAt kV_X8_byteAt kl_X8_238 ⟨by decide, by decide⟩ dX8_scan_18 rfl rfl (Nat.le_of_ble_eq_true rfl) (by decide) (by decide) rfl h (fun r hr => m_X8_byteAt hl0 ⟨r, hr, hr⟩) (fun x5 τ6 _ h => ?_)
      refine r_bipush (v := 10) dX8_scan_21 rfl rfl ?_
      refine r_icmp_ne 39 dX8_scan_23 (by decide) h (fun h => ?_) (fun h => ?_)
      · exact t_X8_scan_39 hl0   h
      · exact t_X8_scan_26 hl0 (f_X8_scan_0  n) (fun b0 τ h => ih b0 τ h) h

set_option maxRecDepth 100000 in
set_option maxHeartbeats 4000000 in
theorem t_X8_scan {g : zF} (hl0 : g.2.2.2.1.stackTraces = false) {Q : zR × zS → Prop}   {a0 : Int} {σ : zS} (h : zo (f_X8_scan  a0 σ) Q) : zw g Y_X8_scan R_X8_scan 0 [(0, (4, a0))] [] σ 0 0 Q := by
  unfold f_X8_scan at h
  exact t_X8_scan_0 hl0   zFU _ _ h
theorem m_X8_scan {g : zF} (hl0 : g.2.2.2.1.stackTraces = false) {Q : zR × zS → Prop} {a0 : Int} {σ : zS} (h : zo (f_X8_scan a0 σ) Q) : zm g Y_X8_scan R_X8_scan [(4, a0)] σ Q := zm_of (by decide) rfl (Nat.le_of_ble_eq_true rfl) (t_X8_scan hl0 h)


/- X8_goOn -/

set_option maxRecDepth 100000 in
set_option maxHeartbeats 4000000 in
theorem t_X8_goOn {g : zF} (hl0 : g.2.2.2.1.stackTraces = false) {Q : zR × zS → Prop}   {a0 : Int} {σ : zS} (h : zo (f_X8_goOn  a0 σ) Q) : zw g Y_X8_goOn R_X8_goOn 0 [(0, (4, a0))] [] σ 0 0 Q := by
  unfold f_X8_goOn at h
  refine r_aload_n 0 dX8_goOn_0 rfl ?_
  refine r_callV (K' := Y_X8_good) (R' := R_X8_good) (idx := 226) (n := 0) (b := a0) (as := []) (rest := []) (C' := 0) (D' := 0) (cn := 8) rfl k0_X8_good kV_X8_good kl_X8_226 ⟨by decide, by decide⟩ dX8_goOn_1 rfl rfl (Nat.le_of_ble_eq_true rfl) (by decide) (by decide) rfl h (fun r hr => m_X8_good hl0 ⟨r, hr, hr⟩) (fun x1 τ2 _ h => ?_)
  refine r_if_eq 11 dX8_goOn_4 (by decide) h (fun h => ?_) (fun h => ?_)
  · exact r_vret rfl dX8_goOn_11 h
  · refine r_aload_n 0 dX8_goOn_7 rfl ?_
    refine r_callV (K' := Y_X8_scan) (R' := R_X8_scan) (idx := 255) (n := 0) (b := a0) (as := []) (rest := []) (C' := 0) (D' := 0) (cn := 8) rfl k0_X8_scan kV_X8_scan kl_X8_255 ⟨by decide, by decide⟩ dX8_goOn_8 rfl rfl (Nat.le_of_ble_eq_true rfl) (by decide) (by decide) rfl h (fun r hr => m_X8_scan hl0 ⟨r, hr, hr⟩) (fun _ τ4 _ h => ?_)
    exact r_vret rfl dX8_goOn_11 h
theorem m_X8_goOn {g : zF} (hl0 : g.2.2.2.1.stackTraces = false) {Q : zR × zS → Prop} {a0 : Int} {σ : zS} (h : zo (f_X8_goOn a0 σ) Q) : zm g Y_X8_goOn R_X8_goOn [(4, a0)] σ Q := zm_of (by decide) rfl (Nat.le_of_ble_eq_true rfl) (t_X8_goOn hl0 h)


/- X8_isWord -/

set_option maxRecDepth 100000 in
set_option maxHeartbeats 4000000 in
theorem t_X8_isWord_75 {g : zF} (hl0 : g.2.2.2.1.stackTraces = false) {Q : zR × zS → Prop} (r39 : Int → Int → Int → Int → zS → zFn) (hr39 : ∀ b0 b1 b2 b3 τ, zo (r39 b0 b1 b2 b3 τ) Q → zw g Y_X8_isWord R_X8_isWord 39 [(0, (4, b0)), (1, (6, b1)), (2, (0, b2)), (3, (0, b3))] [] τ 0 0 Q) {a0 a1 a3 s0 : Int} {σ : zS} (h : zo (f_X8_isWord_75 r39 a0 a1 a3 s0 σ) Q) : zw g Y_X8_isWord R_X8_isWord 75 [(0, (4, a0)), (1, (6, a1)), (3, (0, a3))] [(0, s0)] σ 0 0 Q := by
  unfold f_X8_isWord_75 at h
  refine r_istore_n (L' := [(2, (0, s0)), (0, (4, a0)), (1, (6, a1)), (3, (0, a3))]) dX8_isWord_75 (by decide) rfl ?_
  refine r_iinc (L' := [(3, (0, (w32 (a3 + 1)))), (2, (0, s0)), (0, (4, a0)), (1, (6, a1))]) 3 dX8_isWord_76 rfl (by decide) rfl ?_
  refine r_goto 39 dX8_isWord_79 (by decide) ?_
  refine r_weak (L' := [(0, (4, a0)), (1, (6, a1)), (2, (0, s0)), (3, (0, (w32 (a3 + 1))))]) [2, 3, 1, 0] rfl ?_
  exact hr39 _ _ _ _ _ h

set_option maxRecDepth 100000 in
set_option maxHeartbeats 4000000 in
theorem t_X8_isWord_39 {g : zF} (hl0 : g.2.2.2.1.stackTraces = false) {Q : zR × zS → Prop}   : ∀ (n : Nat) (a0 a1 a2 a3 : Int) (σ : zS), zo (f_X8_isWord_39  n a0 a1 a2 a3 σ) Q → zw g Y_X8_isWord R_X8_isWord 39 [(0, (4, a0)), (1, (6, a1)), (2, (0, a2)), (3, (0, a3))] [] σ 0 0 Q := by
  intro n
  induction n with
  | zero => intro a0 a1 a2 a3 σ h; obtain ⟨r, h, -⟩ := h; cases h
  | succ n ih =>
    intro a0 a1 a2 a3 σ h
    unfold f_X8_isWord_39 at h
    refine r_iload_n 3 dX8_isWord_39 rfl ?_
    refine r_aload_n 1 dX8_isWord_40 rfl ?_
    refine r_slenI sl_X8_258 rfl ⟨by decide, by decide⟩ (Nat.le_of_ble_eq_true rfl) dX8_isWord_41 h (fun x1 h => ?_)
    refine r_icmp_ge 82 dX8_isWord_44 (by decide) h (fun h => ?_) (fun h => ?_)
    · refine r_iload_n 2 dX8_isWord_82 rfl ?_
      exact r_zret rfl dX8_isWord_83 h
    · refine r_iload_n 2 dX8_isWord_47 rfl ?_
      refine r_if_eq 82 dX8_isWord_48 (by decide) h (fun h => ?_) (fun h => ?_)
      · refine r_iload_n 2 dX8_isWord_82 rfl ?_
        exact r_zret rfl dX8_isWord_83 h
      · refine r_aload_n 0 dX8_isWord_51 rfl ?_
        refine r_getr fd_X8_40 rfl dX8_isWord_52 h (fun x2 h => ?_)
        refine r_aload_n 0 dX8_isWord_55 rfl ?_
        refine r_getf fd_X8_229 rfl dX8_isWord_56 h (fun x3 h => ?_)
        refine r_iload_n 3 dX8_isWord_59 rfl ?_
        refine r_iadd dX8_isWord_60 ?_
        refine r_bald dX8_isWord_61 h (fun x4 h => ?_)
        refine r_aload_n 1 dX8_isWord_62 rfl ?_
        refine r_iload_n 3 dX8_isWord_63 rfl ?_
        refine r_schI sh_X8_263 rfl ⟨by decide, by decide⟩ (Nat.le_of_ble_eq_true rfl) dX8_isWord_64 h (fun x5 h => ?_)
        refine r_icmp_ne 74 dX8_isWord_67 (by decide) h (fun h => ?_) (fun h => ?_)
        · refine r_iconst (v := 0) dX8_isWord_74 rfl rfl ?_
          refine r_weak (L' := [(0, (4, a0)), (1, (6, a1)), (3, (0, a3))]) [0, 1, 3] rfl ?_
          exact t_X8_isWord_75 hl0 (f_X8_isWord_39  n) (fun b0 b1 b2 b3 τ h => ih b0 b1 b2 b3 τ h) h
        · refine r_iconst (v := 1) dX8_isWord_70 rfl rfl ?_
          refine r_goto 75 dX8_isWord_71 (by decide) ?_
          refine r_weak (L' := [(0, (4, a0)), (1, (6, a1)), (3, (0, a3))]) [0, 1, 3] rfl ?_
          exact t_X8_isWord_75 hl0 (f_X8_isWord_39  n) (fun b0 b1 b2 b3 τ h => ih b0 b1 b2 b3 τ h) h

set_option maxRecDepth 100000 in
set_option maxHeartbeats 4000000 in
theorem t_X8_isWord_36 {g : zF} (hl0 : g.2.2.2.1.stackTraces = false) {Q : zR × zS → Prop}   {a0 a1 s0 : Int} {σ : zS} (h : zo (f_X8_isWord_36  a0 a1 s0 σ) Q) : zw g Y_X8_isWord R_X8_isWord 36 [(0, (4, a0)), (1, (6, a1))] [(0, s0)] σ 0 0 Q := by
  unfold f_X8_isWord_36 at h
  refine r_istore_n (L' := [(2, (0, s0)), (0, (4, a0)), (1, (6, a1))]) dX8_isWord_36 (by decide) rfl ?_
  refine r_iconst (v := 0) dX8_isWord_37 rfl rfl ?_
  refine r_istore_n (L' := [(3, (0, 0)), (2, (0, s0)), (0, (4, a0)), (1, (6, a1))]) dX8_isWord_38 (by decide) rfl ?_
  refine r_weak (L' := [(0, (4, a0)), (1, (6, a1)), (2, (0, s0)), (3, (0, 0))]) [2, 3, 1, 0] rfl ?_
  exact t_X8_isWord_39 hl0   zFU _ _ _ _ _ h

set_option maxRecDepth 100000 in
set_option maxHeartbeats 4000000 in
theorem t_X8_isWord_35 {g : zF} (hl0 : g.2.2.2.1.stackTraces = false) {Q : zR × zS → Prop}   {a0 a1 : Int} {σ : zS} (h : zo (f_X8_isWord_35  a0 a1 σ) Q) : zw g Y_X8_isWord R_X8_isWord 35 [(0, (4, a0)), (1, (6, a1))] [] σ 0 0 Q := by
  unfold f_X8_isWord_35 at h
  refine r_iconst (v := 0) dX8_isWord_35 rfl rfl ?_
  exact t_X8_isWord_36 hl0   h

set_option maxRecDepth 100000 in
set_option maxHeartbeats 4000000 in
theorem t_X8_isWord {g : zF} (hl0 : g.2.2.2.1.stackTraces = false) {Q : zR × zS → Prop}   {a0 a1 : Int} {σ : zS} (h : zo (f_X8_isWord  a0 a1 σ) Q) : zw g Y_X8_isWord R_X8_isWord 0 [(0, (4, a0)), (1, (6, a1))] [] σ 0 0 Q := by
  unfold f_X8_isWord at h
  refine r_aload_n 0 dX8_isWord_0 rfl ?_
  refine r_callV (K' := Y_X8_good) (R' := R_X8_good) (idx := 226) (n := 0) (b := a0) (as := []) (rest := []) (C' := 0) (D' := 0) (cn := 8) rfl k0_X8_good kV_X8_good kl_X8_226 ⟨by decide, by decide⟩ dX8_isWord_1 rfl rfl (Nat.le_of_ble_eq_true rfl) (by decide) (by decide) rfl h (fun r hr => m_X8_good hl0 ⟨r, hr, hr⟩) (fun x1 τ2 _ h => ?_)
  refine r_if_eq 35 dX8_isWord_4 (by decide) h (fun h => ?_) (fun h => ?_)
  · exact t_X8_isWord_35 hl0   h
  · refine r_aload_n 0 dX8_isWord_7 rfl ?_
    refine r_getf fd_X8_241 rfl dX8_isWord_8 h (fun x3 h => ?_)
    refine r_iconst (v := 1) dX8_isWord_11 rfl rfl ?_
    refine r_icmp_ne 35 dX8_isWord_12 (by decide) h (fun h => ?_) (fun h => ?_)
    · exact t_X8_isWord_35 hl0   h
    · refine r_aload_n 0 dX8_isWord_15 rfl ?_
      refine r_getf fd_X8_235 rfl dX8_isWord_16 h (fun x4 h => ?_)
      refine r_aload_n 0 dX8_isWord_19 rfl ?_
      refine r_getf fd_X8_229 rfl dX8_isWord_20 h (fun x5 h => ?_)
      refine r_isub dX8_isWord_23 ?_
      refine r_aload_n 1 dX8_isWord_24 rfl ?_
      refine r_slenI sl_X8_258 rfl ⟨by decide, by decide⟩ (Nat.le_of_ble_eq_true rfl) dX8_isWord_25 h (fun x6 h => ?_)
      refine r_icmp_ne 35 dX8_isWord_28 (by decide) h (fun h => ?_) (fun h => ?_)
      · exact t_X8_isWord_35 hl0   h
      · refine r_iconst (v := 1) dX8_isWord_31 rfl rfl ?_
        refine r_goto 36 dX8_isWord_32 (by decide) ?_
        exact t_X8_isWord_36 hl0   h
theorem m_X8_isWord {g : zF} (hl0 : g.2.2.2.1.stackTraces = false) {Q : zR × zS → Prop} {a0 a1 : Int} {σ : zS} (h : zo (f_X8_isWord a0 a1 σ) Q) : zm g Y_X8_isWord R_X8_isWord [(4, a0), (6, a1)] σ Q := zm_of (by decide) rfl (Nat.le_of_ble_eq_true rfl) (t_X8_isWord hl0 h)


/- X8_number -/

set_option maxRecDepth 100000 in
set_option maxHeartbeats 4000000 in
theorem t_X8_number_62 {g : zF} (hl0 : g.2.2.2.1.stackTraces = false) {Q : zR × zS → Prop}   {a0 s0 : Int} {σ : zS} (h : zo (f_X8_number_62  a0 s0 σ) Q) : zw g Y_X8_number R_X8_number 62 [(0, (4, a0))] [(0, s0)] σ 0 0 Q := by
  unfold f_X8_number_62 at h
  refine r_istore_n (L' := [(3, (0, s0)), (0, (4, a0))]) dX8_number_62 (by decide) rfl ?_
  refine r_aload_n 1 dX8_number_63 rfl ?_
  refine r_callV (K' := Y_X8_goOn) (R' := R_X8_goOn) (idx := 270) (n := 0) (b := a0) (as := []) (rest := []) (C' := 0) (D' := 0) (cn := 8) rfl k0_X8_goOn kV_X8_goOn kl_X8_270 ⟨by decide, by decide⟩ dX8_number_64 rfl rfl (Nat.le_of_ble_eq_true rfl) (by decide) (by decide) rfl h (fun r hr => m_X8_goOn hl0 ⟨r, hr, hr⟩) (fun _ τ2 _ h => ?_)
  refine r_iload_n 0 dX8_number_67 rfl ?_
  exact r_iret rfl dX8_number_68 h

set_option maxRecDepth 100000 in
set_option maxHeartbeats 4000000 in
theorem t_X8_number_47 {g : zF} (hl0 : g.2.2.2.1.stackTraces = false) {Q : zR × zS → Prop}   {a0 a1 : Int} {σ : zS} (h : zo (f_X8_number_47  a0 a1 σ) Q) : zw g Y_X8_number R_X8_number 47 [(0, (4, a0)), (1, (0, a1))] [] σ 0 0 Q := by
  unfold f_X8_number_47 at h
  refine r_aload_n 0 dX8_number_47 rfl ?_
  refine r_callV (K' := Y_X8_good) (R' := R_X8_good) (idx := 226) (n := 0) (b := a0) (as := []) (rest := []) (C' := 0) (D' := 0) (cn := 8) rfl k0_X8_good kV_X8_good kl_X8_226 ⟨by decide, by decide⟩ dX8_number_48 rfl rfl (Nat.le_of_ble_eq_true rfl) (by decide) (by decide) rfl h (fun r hr => m_X8_good hl0 ⟨r, hr, hr⟩) (fun x1 τ2 _ h => ?_)
  refine r_if_eq 61 dX8_number_51 (by decide) h (fun h => ?_) (fun h => ?_)
  · refine r_iload_n 1 dX8_number_61 rfl ?_
    refine r_weak (L' := [(0, (4, a0))]) [0] rfl ?_
    exact t_X8_number_62 hl0   h
  · refine r_aload_n 0 dX8_number_54 rfl ?_
    refine r_getf fd_X8_252 rfl dX8_number_55 h (fun x3 h => ?_)
    refine r_goto 62 dX8_number_58 (by decide) ?_
    refine r_weak (L' := [(0, (4, a0))]) [0] rfl ?_
    exact t_X8_number_62 hl0   h

set_option maxRecDepth 100000 in
set_option maxHeartbeats 4000000 in
theorem t_X8_number_20 {g : zF} (hl0 : g.2.2.2.1.stackTraces = false) {Q : zR × zS → Prop}   {a0 a1 a2 : Int} {σ : zS} (h : zo (f_X8_number_20  a0 a1 a2 σ) Q) : zw g Y_X8_number R_X8_number 20 [(0, (4, a0)), (1, (0, a1)), (2, (0, a2))] [] σ 0 0 Q := by
  unfold f_X8_number_20 at h
  refine r_aload_n 0 dX8_number_20 rfl ?_
  refine r_callV (K' := Y_X8_good) (R' := R_X8_good) (idx := 226) (n := 0) (b := a0) (as := []) (rest := []) (C' := 0) (D' := 0) (cn := 8) rfl k0_X8_good kV_X8_good kl_X8_226 ⟨by decide, by decide⟩ dX8_number_21 rfl rfl (Nat.le_of_ble_eq_true rfl) (by decide) (by decide) rfl h (fun r hr => m_X8_good hl0 ⟨r, hr, hr⟩) (fun x1 τ2 _ h => ?_)
  refine r_if_eq 47 dX8_number_24 (by decide) h (fun h => ?_) (fun h => ?_)
  · refine r_weak (L' := [(0, (4, a0)), (1, (0, a1))]) [0, 1] rfl ?_
    exact t_X8_number_47 hl0   h
  · refine r_aload_n 0 dX8_number_27 rfl ?_
    refine r_getf fd_X8_252 rfl dX8_number_28 h (fun x3 h => ?_)
    refine r_i2l dX8_number_31 ?_
    refine r_iload_n 1 dX8_number_32 rfl ?_
    refine r_i2l dX8_number_33 ?_
    refine r_iload_n 2 dX8_number_34 rfl ?_
    refine r_i2l dX8_number_35 ?_
    refine r_callS (K' := Y_X8_in) (R' := R_X8_in) (idx := 70) (n := 3) (as := [(1, x3), (1, a1), (1, a2)]) (rest := []) (C' := 0) (D' := 0) rfl k0_X8_in wd_1562 kl_X8_70 ⟨by decide, by decide⟩ dX8_number_36 rfl rfl (Nat.le_of_ble_eq_true rfl) (by decide) (by decide) h (fun r hr => m_X8_in hl0 ⟨r, hr, hr⟩) (fun x4 τ5 _ h => ?_)
    refine r_if_ne 47 dX8_number_39 (by decide) h (fun h => ?_) (fun h => ?_)
    · refine r_weak (L' := [(0, (4, a0)), (1, (0, a1))]) [0, 1] rfl ?_
      exact t_X8_number_47 hl0   h
    · refine r_aload_n 0 dX8_number_42 rfl ?_
      refine r_iconst (v := 2) dX8_number_43 rfl rfl ?_
      refine r_callV (K' := Y_X8_errs) (R' := R_X8_errs) (idx := 267) (n := 1) (b := a0) (as := [(0, 2)]) (rest := []) (C' := 0) (D' := 0) (cn := 8) rfl k0_X8_errs kV_X8_errs kl_X8_267 ⟨by decide, by decide⟩ dX8_number_44 rfl rfl (Nat.le_of_ble_eq_true rfl) (by decide) (by decide) rfl h (fun r hr => m_X8_errs hl0 ⟨r, hr, hr⟩) (fun _ τ7 _ h => ?_)
      refine r_weak (L' := [(0, (4, a0)), (1, (0, a1))]) [0, 1] rfl ?_
      exact t_X8_number_47 hl0   h

set_option maxRecDepth 100000 in
set_option maxHeartbeats 4000000 in
theorem t_X8_number {g : zF} (hl0 : g.2.2.2.1.stackTraces = false) {Q : zR × zS → Prop}   {a0 a1 a2 : Int} {σ : zS} (h : zo (f_X8_number  a0 a1 a2 σ) Q) : zw g Y_X8_number R_X8_number 0 [(0, (4, a0)), (1, (0, a1)), (2, (0, a2))] [] σ 0 0 Q := by
  unfold f_X8_number at h
  refine r_aload_n 0 dX8_number_0 rfl ?_
  refine r_callV (K' := Y_X8_good) (R' := R_X8_good) (idx := 226) (n := 0) (b := a0) (as := []) (rest := []) (C' := 0) (D' := 0) (cn := 8) rfl k0_X8_good kV_X8_good kl_X8_226 ⟨by decide, by decide⟩ dX8_number_1 rfl rfl (Nat.le_of_ble_eq_true rfl) (by decide) (by decide) rfl h (fun r hr => m_X8_good hl0 ⟨r, hr, hr⟩) (fun x1 τ2 _ h => ?_)
  refine r_if_eq 20 dX8_number_4 (by decide) h (fun h => ?_) (fun h => ?_)
  · exact t_X8_number_20 hl0   h
  · refine r_aload_n 0 dX8_number_7 rfl ?_
    refine r_getf fd_X8_241 rfl dX8_number_8 h (fun x3 h => ?_)
    refine r_iconst (v := 2) dX8_number_11 rfl rfl ?_
    refine r_icmp_eq 20 dX8_number_12 (by decide) h (fun h => ?_) (fun h => ?_)
    · exact t_X8_number_20 hl0   h
    · refine r_aload_n 0 dX8_number_15 rfl ?_
      refine r_iconst (v := 1) dX8_number_16 rfl rfl ?_
      refine r_callV (K' := Y_X8_errs) (R' := R_X8_errs) (idx := 267) (n := 1) (b := a0) (as := [(0, 1)]) (rest := []) (C' := 0) (D' := 0) (cn := 8) rfl k0_X8_errs kV_X8_errs kl_X8_267 ⟨by decide, by decide⟩ dX8_number_17 rfl rfl (Nat.le_of_ble_eq_true rfl) (by decide) (by decide) rfl h (fun r hr => m_X8_errs hl0 ⟨r, hr, hr⟩) (fun _ τ5 _ h => ?_)
      exact t_X8_number_20 hl0   h
theorem m_X8_number {g : zF} (hl0 : g.2.2.2.1.stackTraces = false) {Q : zR × zS → Prop} {a0 a1 a2 : Int} {σ : zS} (h : zo (f_X8_number a0 a1 a2 σ) Q) : zm g Y_X8_number R_X8_number [(4, a0), (0, a1), (0, a2)] σ Q := zm_of (by decide) rfl (Nat.le_of_ble_eq_true rfl) (t_X8_number hl0 h)


/- X8_numberBehind -/

set_option maxRecDepth 100000 in
set_option maxHeartbeats 4000000 in
theorem t_X8_numberBehind_13 {g : zF} (hl0 : g.2.2.2.1.stackTraces = false) {Q : zR × zS → Prop}   {a0 a2 a3 : Int} {σ : zS} (h : zo (f_X8_numberBehind_13  a0 a2 a3 σ) Q) : zw g Y_X8_numberBehind R_X8_numberBehind 13 [(0, (4, a0)), (2, (0, a2)), (3, (0, a3))] [] σ 0 0 Q := by
  unfold f_X8_numberBehind_13 at h
  refine r_aload_n 0 dX8_numberBehind_13 rfl ?_
  refine r_callV (K' := Y_X8_goOn) (R' := R_X8_goOn) (idx := 270) (n := 0) (b := a0) (as := []) (rest := []) (C' := 0) (D' := 0) (cn := 8) rfl k0_X8_goOn kV_X8_goOn kl_X8_270 ⟨by decide, by decide⟩ dX8_numberBehind_14 rfl rfl (Nat.le_of_ble_eq_true rfl) (by decide) (by decide) rfl h (fun r hr => m_X8_goOn hl0 ⟨r, hr, hr⟩) (fun _ τ2 _ h => ?_)
  refine r_aload_n 0 dX8_numberBehind_17 rfl ?_
  refine r_iload_n 1 dX8_numberBehind_18 rfl ?_
  refine r_iload_n 2 dX8_numberBehind_19 rfl ?_
  refine r_callV (K' := Y_X8_number) (R' := R_X8_number) (idx := 277) (n := 2) (b := a0) (as := [(0, a2), (0, a3)]) (rest := []) (C' := 0) (D' := 0) (cn := 8) rfl k0_X8_number kV_X8_number kl_X8_277 ⟨by decide, by decide⟩ dX8_numberBehind_20 rfl rfl (Nat.le_of_ble_eq_true rfl) (by decide) (by decide) rfl h (fun r hr => m_X8_number hl0 ⟨r, hr, hr⟩) (fun x3 τ4 _ h => ?_)
  exact r_iret rfl dX8_numberBehind_23 h

set_option maxRecDepth 100000 in
set_option maxHeartbeats 4000000 in
theorem t_X8_numberBehind {g : zF} (hl0 : g.2.2.2.1.stackTraces = false) {Q : zR × zS → Prop}   {a0 a1 a2 a3 : Int} {σ : zS} (h : zo (f_X8_numberBehind  a0 a1 a2 a3 σ) Q) : zw g Y_X8_numberBehind R_X8_numberBehind 0 [(0, (4, a0)), (1, (6, a1)), (2, (0, a2)), (3, (0, a3))] [] σ 0 0 Q := by
  unfold f_X8_numberBehind at h
  refine r_aload_n 0 dX8_numberBehind_0 rfl ?_
  refine r_aload_n 1 dX8_numberBehind_1 rfl ?_
  refine r_callV (K' := Y_X8_isWord) (R' := R_X8_isWord) (idx := 273) (n := 1) (b := a0) (as := [(6, a1)]) (rest := []) (C' := 0) (D' := 0) (cn := 8) rfl k0_X8_isWord kV_X8_isWord kl_X8_273 ⟨by decide, by decide⟩ dX8_numberBehind_2 rfl rfl (Nat.le_of_ble_eq_true rfl) (by decide) (by decide) rfl h (fun r hr => m_X8_isWord hl0 ⟨r, hr, hr⟩) (fun x1 τ2 _ h => ?_)
  refine r_if_ne 13 dX8_numberBehind_5 (by decide) h (fun h => ?_) (fun h => ?_)
  · refine r_weak (L' := [(0, (4, a0)), (2, (0, a2)), (3, (0, a3))]) [0, 2, 3] rfl ?_
    exact t_X8_numberBehind_13 hl0   h
  · refine r_aload_n 0 dX8_numberBehind_8 rfl ?_
    refine r_iconst (v := 1) dX8_numberBehind_9 rfl rfl ?_
    refine r_callV (K' := Y_X8_errs) (R' := R_X8_errs) (idx := 267) (n := 1) (b := a0) (as := [(0, 1)]) (rest := []) (C' := 0) (D' := 0) (cn := 8) rfl k0_X8_errs kV_X8_errs kl_X8_267 ⟨by decide, by decide⟩ dX8_numberBehind_10 rfl rfl (Nat.le_of_ble_eq_true rfl) (by decide) (by decide) rfl h (fun r hr => m_X8_errs hl0 ⟨r, hr, hr⟩) (fun _ τ4 _ h => ?_)
    refine r_weak (L' := [(0, (4, a0)), (2, (0, a2)), (3, (0, a3))]) [0, 2, 3] rfl ?_
    exact t_X8_numberBehind_13 hl0   h
theorem m_X8_numberBehind {g : zF} (hl0 : g.2.2.2.1.stackTraces = false) {Q : zR × zS → Prop} {a0 a1 a2 a3 : Int} {σ : zS} (h : zo (f_X8_numberBehind a0 a1 a2 a3 σ) Q) : zm g Y_X8_numberBehind R_X8_numberBehind [(4, a0), (6, a1), (0, a2), (0, a3)] σ Q := zm_of (by decide) rfl (Nat.le_of_ble_eq_true rfl) (t_X8_numberBehind hl0 h)


/- X8_semicolon -/

set_option maxRecDepth 100000 in
set_option maxHeartbeats 4000000 in
theorem t_X8_semicolon_29 {g : zF} (hl0 : g.2.2.2.1.stackTraces = false) {Q : zR × zS → Prop}   {a0 : Int} {σ : zS} (h : zo (f_X8_semicolon_29  a0 σ) Q) : zw g Y_X8_semicolon R_X8_semicolon 29 [(0, (4, a0))] [] σ 0 0 Q := by
  unfold f_X8_semicolon_29 at h
  refine r_aload_n 0 dX8_semicolon_29 rfl ?_
  refine r_callV (K' := Y_X8_goOn) (R' := R_X8_goOn) (idx := 270) (n := 0) (b := a0) (as := []) (rest := []) (C' := 0) (D' := 0) (cn := 8) rfl k0_X8_goOn kV_X8_goOn kl_X8_270 ⟨by decide, by decide⟩ dX8_semicolon_30 rfl rfl (Nat.le_of_ble_eq_true rfl) (by decide) (by decide) rfl h (fun r hr => m_X8_goOn hl0 ⟨r, hr, hr⟩) (fun _ τ2 _ h => ?_)
  exact r_vret rfl dX8_semicolon_33 h

set_option maxRecDepth 100000 in
set_option maxHeartbeats 4000000 in
theorem t_X8_semicolon_24 {g : zF} (hl0 : g.2.2.2.1.stackTraces = false) {Q : zR × zS → Prop}   {a0 : Int} {σ : zS} (h : zo (f_X8_semicolon_24  a0 σ) Q) : zw g Y_X8_semicolon R_X8_semicolon 24 [(0, (4, a0))] [] σ 0 0 Q := by
  unfold f_X8_semicolon_24 at h
  refine r_aload_n 0 dX8_semicolon_24 rfl ?_
  refine r_iconst (v := 1) dX8_semicolon_25 rfl rfl ?_
  refine r_callV (K' := Y_X8_errs) (R' := R_X8_errs) (idx := 267) (n := 1) (b := a0) (as := [(0, 1)]) (rest := []) (C' := 0) (D' := 0) (cn := 8) rfl k0_X8_errs kV_X8_errs kl_X8_267 ⟨by decide, by decide⟩ dX8_semicolon_26 rfl rfl (Nat.le_of_ble_eq_true rfl) (by decide) (by decide) rfl h (fun r hr => m_X8_errs hl0 ⟨r, hr, hr⟩) (fun _ τ2 _ h => ?_)
  exact t_X8_semicolon_29 hl0   h

set_option maxRecDepth 100000 in
set_option maxHeartbeats 4000000 in
theorem t_X8_semicolon {g : zF} (hl0 : g.2.2.2.1.stackTraces = false) {Q : zR × zS → Prop}   {a0 : Int} {σ : zS} (h : zo (f_X8_semicolon  a0 σ) Q) : zw g Y_X8_semicolon R_X8_semicolon 0 [(0, (4, a0))] [] σ 0 0 Q := by
  unfold f_X8_semicolon at h
  refine r_aload_n 0 dX8_semicolon_0 rfl ?_
  refine r_callV (K' := Y_X8_good) (R' := R_X8_good) (idx := 226) (n := 0) (b := a0) (as := []) (rest := []) (C' := 0) (D' := 0) (cn := 8) rfl k0_X8_good kV_X8_good kl_X8_226 ⟨by decide, by decide⟩ dX8_semicolon_1 rfl rfl (Nat.le_of_ble_eq_true rfl) (by decide) (by decide) rfl h (fun r hr => m_X8_good hl0 ⟨r, hr, hr⟩) (fun x1 τ2 _ h => ?_)
  refine r_if_eq 29 dX8_semicolon_4 (by decide) h (fun h => ?_) (fun h => ?_)
  · exact t_X8_semicolon_29 hl0   h
  · refine r_aload_n 0 dX8_semicolon_7 rfl ?_
    refine r_getf fd_X8_241 rfl dX8_semicolon_8 h (fun x3 h => ?_)
    refine r_iconst (v := 3) dX8_semicolon_11 rfl rfl ?_
    refine r_icmp_ne 24 dX8_semicolon_12 (by decide) h (fun h => ?_) (fun h => ?_)
    · exact t_X8_semicolon_24 hl0   h
    · refine r_aload_n 0 dX8_semicolon_15 rfl ?_
      refine r_getf fd_X8_252 rfl dX8_semicolon_16 h (fun x4 h => ?_)
      refine r_bipush (v := 59) dX8_semicolon_19 rfl rfl ?_
      refine r_icmp_eq 29 dX8_semicolon_21 (by decide) h (fun h => ?_) (fun h => ?_)
      · exact t_X8_semicolon_29 hl0   h
      · exact t_X8_semicolon_24 hl0   h
theorem m_X8_semicolon {g : zF} (hl0 : g.2.2.2.1.stackTraces = false) {Q : zR × zS → Prop} {a0 : Int} {σ : zS} (h : zo (f_X8_semicolon a0 σ) Q) : zm g Y_X8_semicolon R_X8_semicolon [(4, a0)] σ Q := zm_of (by decide) rfl (Nat.le_of_ble_eq_true rfl) (t_X8_semicolon hl0 h)


/- X8_isKeyword -/

set_option maxRecDepth 100000 in
set_option maxHeartbeats 4000000 in
theorem t_X8_isKeyword_65 {g : zF} (hl0 : g.2.2.2.1.stackTraces = false) {Q : zR × zS → Prop}   {a0 s0 : Int} {σ : zS} (h : zo (f_X8_isKeyword_65  a0 s0 σ) Q) : zw g Y_X8_isKeyword R_X8_isKeyword 65 [(0, (4, a0))] [(0, s0)] σ 0 0 Q := by
  unfold f_X8_isKeyword_65 at h
  refine r_istore_n (L' := [(1, (0, s0)), (0, (4, a0))]) dX8_isKeyword_65 (by decide) rfl ?_
  refine r_iload_n 0 dX8_isKeyword_66 rfl ?_
  refine r_if_ne 120 dX8_isKeyword_67 (by decide) h (fun h => ?_) (fun h => ?_)
  · refine r_iconst (v := 1) dX8_isKeyword_120 rfl rfl ?_
    refine r_goto 125 dX8_isKeyword_121 (by decide) ?_
    exact r_zretc (by decide) rfl dX8_isKeyword_125 h
  · refine r_aload_n 1 dX8_isKeyword_70 rfl ?_
    refine r_ldcSW (j := 6) (text := "agent") (by decide +kernel) dX8_isKeyword_71 ?_
    refine r_callV (K' := Y_X8_isWord) (R' := R_X8_isWord) (idx := 273) (n := 1) (b := a0) (as := [(6, (6 : Nat))]) (rest := []) (C' := 0) (D' := 0) (cn := 8) rfl k0_X8_isWord kV_X8_isWord kl_X8_273 ⟨by decide, by decide⟩ dX8_isKeyword_74 rfl rfl (Nat.le_of_ble_eq_true rfl) (by decide) (by decide) rfl h (fun r hr => m_X8_isWord hl0 ⟨r, hr, hr⟩) (fun x1 τ2 _ h => ?_)
    refine r_if_ne 120 dX8_isKeyword_77 (by decide) h (fun h => ?_) (fun h => ?_)
    · refine r_iconst (v := 1) dX8_isKeyword_120 rfl rfl ?_
      refine r_goto 125 dX8_isKeyword_121 (by decide) ?_
      exact r_zretc (by decide) rfl dX8_isKeyword_125 h
    · refine r_aload_n 1 dX8_isKeyword_80 rfl ?_
      refine r_ldcSW (j := 7) (text := "way") (by decide +kernel) dX8_isKeyword_81 ?_
      refine r_callV (K' := Y_X8_isWord) (R' := R_X8_isWord) (idx := 273) (n := 1) (b := a0) (as := [(6, (7 : Nat))]) (rest := []) (C' := 0) (D' := 0) (cn := 8) rfl k0_X8_isWord kV_X8_isWord kl_X8_273 ⟨by decide, by decide⟩ dX8_isKeyword_84 rfl rfl (Nat.le_of_ble_eq_true rfl) (by decide) (by decide) rfl h (fun r hr => m_X8_isWord hl0 ⟨r, hr, hr⟩) (fun x3 τ4 _ h => ?_)
      refine r_if_ne 120 dX8_isKeyword_87 (by decide) h (fun h => ?_) (fun h => ?_)
      · refine r_iconst (v := 1) dX8_isKeyword_120 rfl rfl ?_
        refine r_goto 125 dX8_isKeyword_121 (by decide) ?_
        exact r_zretc (by decide) rfl dX8_isKeyword_125 h
      · refine r_aload_n 1 dX8_isKeyword_90 rfl ?_
        refine r_ldcSW (j := 8) (text := "link") (by decide +kernel) dX8_isKeyword_91 ?_
        refine r_callV (K' := Y_X8_isWord) (R' := R_X8_isWord) (idx := 273) (n := 1) (b := a0) (as := [(6, (8 : Nat))]) (rest := []) (C' := 0) (D' := 0) (cn := 8) rfl k0_X8_isWord kV_X8_isWord kl_X8_273 ⟨by decide, by decide⟩ dX8_isKeyword_94 rfl rfl (Nat.le_of_ble_eq_true rfl) (by decide) (by decide) rfl h (fun r hr => m_X8_isWord hl0 ⟨r, hr, hr⟩) (fun x5 τ6 _ h => ?_)
        refine r_if_ne 120 dX8_isKeyword_97 (by decide) h (fun h => ?_) (fun h => ?_)
        · refine r_iconst (v := 1) dX8_isKeyword_120 rfl rfl ?_
          refine r_goto 125 dX8_isKeyword_121 (by decide) ?_
          exact r_zretc (by decide) rfl dX8_isKeyword_125 h
        · refine r_aload_n 1 dX8_isKeyword_100 rfl ?_
          refine r_ldcSW (j := 9) (text := "trust") (by decide +kernel) dX8_isKeyword_101 ?_
          refine r_callV (K' := Y_X8_isWord) (R' := R_X8_isWord) (idx := 273) (n := 1) (b := a0) (as := [(6, (9 : Nat))]) (rest := []) (C' := 0) (D' := 0) (cn := 8) rfl k0_X8_isWord kV_X8_isWord kl_X8_273 ⟨by decide, by decide⟩ dX8_isKeyword_104 rfl rfl (Nat.le_of_ble_eq_true rfl) (by decide) (by decide) rfl h (fun r hr => m_X8_isWord hl0 ⟨r, hr, hr⟩) (fun x7 τ8 _ h => ?_)
          refine r_if_ne 120 dX8_isKeyword_107 (by decide) h (fun h => ?_) (fun h => ?_)
          · refine r_iconst (v := 1) dX8_isKeyword_120 rfl rfl ?_
            refine r_goto 125 dX8_isKeyword_121 (by decide) ?_
            exact r_zretc (by decide) rfl dX8_isKeyword_125 h
          · refine r_aload_n 1 dX8_isKeyword_110 rfl ?_
            refine r_ldcSW (j := 10) (text := "probe") (by decide +kernel) dX8_isKeyword_111 ?_
            refine r_callV (K' := Y_X8_isWord) (R' := R_X8_isWord) (idx := 273) (n := 1) (b := a0) (as := [(6, (10 : Nat))]) (rest := []) (C' := 0) (D' := 0) (cn := 8) rfl k0_X8_isWord kV_X8_isWord kl_X8_273 ⟨by decide, by decide⟩ dX8_isKeyword_114 rfl rfl (Nat.le_of_ble_eq_true rfl) (by decide) (by decide) rfl h (fun r hr => m_X8_isWord hl0 ⟨r, hr, hr⟩) (fun x9 τ10 _ h => ?_)
            refine r_if_eq 124 dX8_isKeyword_117 (by decide) h (fun h => ?_) (fun h => ?_)
            · refine r_iconst (v := 0) dX8_isKeyword_124 rfl rfl ?_
              exact r_zretc (by decide) rfl dX8_isKeyword_125 h
            · refine r_iconst (v := 1) dX8_isKeyword_120 rfl rfl ?_
              refine r_goto 125 dX8_isKeyword_121 (by decide) ?_
              exact r_zretc (by decide) rfl dX8_isKeyword_125 h

set_option maxRecDepth 100000 in
set_option maxHeartbeats 4000000 in
theorem t_X8_isKeyword_60 {g : zF} (hl0 : g.2.2.2.1.stackTraces = false) {Q : zR × zS → Prop}   {a0 : Int} {σ : zS} (h : zo (f_X8_isKeyword_60  a0 σ) Q) : zw g Y_X8_isKeyword R_X8_isKeyword 60 [(0, (4, a0))] [] σ 0 0 Q := by
  unfold f_X8_isKeyword_60 at h
  refine r_iconst (v := 1) dX8_isKeyword_60 rfl rfl ?_
  refine r_goto 65 dX8_isKeyword_61 (by decide) ?_
  exact t_X8_isKeyword_65 hl0   h

set_option maxRecDepth 100000 in
set_option maxHeartbeats 4000000 in
theorem t_X8_isKeyword {g : zF} (hl0 : g.2.2.2.1.stackTraces = false) {Q : zR × zS → Prop}   {a0 : Int} {σ : zS} (h : zo (f_X8_isKeyword  a0 σ) Q) : zw g Y_X8_isKeyword R_X8_isKeyword 0 [(0, (4, a0))] [] σ 0 0 Q := by
  unfold f_X8_isKeyword at h
  refine r_aload_n 0 dX8_isKeyword_0 rfl ?_
  refine r_ldcSW (j := 0) (text := "rules") (by decide +kernel) dX8_isKeyword_1 ?_
  refine r_callV (K' := Y_X8_isWord) (R' := R_X8_isWord) (idx := 273) (n := 1) (b := a0) (as := [(6, (0 : Nat))]) (rest := []) (C' := 0) (D' := 0) (cn := 8) rfl k0_X8_isWord kV_X8_isWord kl_X8_273 ⟨by decide, by decide⟩ dX8_isKeyword_4 rfl rfl (Nat.le_of_ble_eq_true rfl) (by decide) (by decide) rfl h (fun r hr => m_X8_isWord hl0 ⟨r, hr, hr⟩) (fun x1 τ2 _ h => ?_)
  refine r_if_ne 60 dX8_isKeyword_7 (by decide) h (fun h => ?_) (fun h => ?_)
  · exact t_X8_isKeyword_60 hl0   h
  · refine r_aload_n 0 dX8_isKeyword_10 rfl ?_
    refine r_ldcSW (j := 1) (text := "drift") (by decide +kernel) dX8_isKeyword_11 ?_
    refine r_callV (K' := Y_X8_isWord) (R' := R_X8_isWord) (idx := 273) (n := 1) (b := a0) (as := [(6, (1 : Nat))]) (rest := []) (C' := 0) (D' := 0) (cn := 8) rfl k0_X8_isWord kV_X8_isWord kl_X8_273 ⟨by decide, by decide⟩ dX8_isKeyword_14 rfl rfl (Nat.le_of_ble_eq_true rfl) (by decide) (by decide) rfl h (fun r hr => m_X8_isWord hl0 ⟨r, hr, hr⟩) (fun x3 τ4 _ h => ?_)
    refine r_if_ne 60 dX8_isKeyword_17 (by decide) h (fun h => ?_) (fun h => ?_)
    · exact t_X8_isKeyword_60 hl0   h
    · refine r_aload_n 0 dX8_isKeyword_20 rfl ?_
      refine r_ldcSW (j := 2) (text := "slack") (by decide +kernel) dX8_isKeyword_21 ?_
      refine r_callV (K' := Y_X8_isWord) (R' := R_X8_isWord) (idx := 273) (n := 1) (b := a0) (as := [(6, (2 : Nat))]) (rest := []) (C' := 0) (D' := 0) (cn := 8) rfl k0_X8_isWord kV_X8_isWord kl_X8_273 ⟨by decide, by decide⟩ dX8_isKeyword_24 rfl rfl (Nat.le_of_ble_eq_true rfl) (by decide) (by decide) rfl h (fun r hr => m_X8_isWord hl0 ⟨r, hr, hr⟩) (fun x5 τ6 _ h => ?_)
      refine r_if_ne 60 dX8_isKeyword_27 (by decide) h (fun h => ?_) (fun h => ?_)
      · exact t_X8_isKeyword_60 hl0   h
      · refine r_aload_n 0 dX8_isKeyword_30 rfl ?_
        refine r_ldcSW (j := 3) (text := "least") (by decide +kernel) dX8_isKeyword_31 ?_
        refine r_callV (K' := Y_X8_isWord) (R' := R_X8_isWord) (idx := 273) (n := 1) (b := a0) (as := [(6, (3 : Nat))]) (rest := []) (C' := 0) (D' := 0) (cn := 8) rfl k0_X8_isWord kV_X8_isWord kl_X8_273 ⟨by decide, by decide⟩ dX8_isKeyword_34 rfl rfl (Nat.le_of_ble_eq_true rfl) (by decide) (by decide) rfl h (fun r hr => m_X8_isWord hl0 ⟨r, hr, hr⟩) (fun x7 τ8 _ h => ?_)
        refine r_if_ne 60 dX8_isKeyword_37 (by decide) h (fun h => ?_) (fun h => ?_)
        · exact t_X8_isKeyword_60 hl0   h
        · refine r_aload_n 0 dX8_isKeyword_40 rfl ?_
          refine r_ldcSW (j := 4) (text := "age") (by decide +kernel) dX8_isKeyword_41 ?_
          refine r_callV (K' := Y_X8_isWord) (R' := R_X8_isWord) (idx := 273) (n := 1) (b := a0) (as := [(6, (4 : Nat))]) (rest := []) (C' := 0) (D' := 0) (cn := 8) rfl k0_X8_isWord kV_X8_isWord kl_X8_273 ⟨by decide, by decide⟩ dX8_isKeyword_44 rfl rfl (Nat.le_of_ble_eq_true rfl) (by decide) (by decide) rfl h (fun r hr => m_X8_isWord hl0 ⟨r, hr, hr⟩) (fun x9 τ10 _ h => ?_)
          refine r_if_ne 60 dX8_isKeyword_47 (by decide) h (fun h => ?_) (fun h => ?_)
          · exact t_X8_isKeyword_60 hl0   h
          · refine r_aload_n 0 dX8_isKeyword_50 rfl ?_
            refine r_ldcSW (j := 5) (text := "hops") (by decide +kernel) dX8_isKeyword_51 ?_
            refine r_callV (K' := Y_X8_isWord) (R' := R_X8_isWord) (idx := 273) (n := 1) (b := a0) (as := [(6, (5 : Nat))]) (rest := []) (C' := 0) (D' := 0) (cn := 8) rfl k0_X8_isWord kV_X8_isWord kl_X8_273 ⟨by decide, by decide⟩ dX8_isKeyword_54 rfl rfl (Nat.le_of_ble_eq_true rfl) (by decide) (by decide) rfl h (fun r hr => m_X8_isWord hl0 ⟨r, hr, hr⟩) (fun x11 τ12 _ h => ?_)
            refine r_if_eq 64 dX8_isKeyword_57 (by decide) h (fun h => ?_) (fun h => ?_)
            · refine r_iconst (v := 0) dX8_isKeyword_64 rfl rfl ?_
              exact t_X8_isKeyword_65 hl0   h
            · exact t_X8_isKeyword_60 hl0   h
theorem m_X8_isKeyword {g : zF} (hl0 : g.2.2.2.1.stackTraces = false) {Q : zR × zS → Prop} {a0 : Int} {σ : zS} (h : zo (f_X8_isKeyword a0 σ) Q) : zm g Y_X8_isKeyword R_X8_isKeyword [(4, a0)] σ Q := zm_of (by decide) rfl (Nat.le_of_ble_eq_true rfl) (t_X8_isKeyword hl0 h)


/- X8_nameOf -/

set_option maxRecDepth 100000 in
set_option maxHeartbeats 4000000 in
theorem t_X8_nameOf_5 {g : zF} (hl0 : g.2.2.2.1.stackTraces = false) {Q : zR × zS → Prop}   : ∀ (n : Nat) (a0 a2 a3 a4 : Int) (σ : zS), zo (f_X8_nameOf_5  n a0 a2 a3 a4 σ) Q → zw g Y_X8_nameOf R_X8_nameOf 5 [(0, (4, a0)), (2, (0, a2)), (3, (0, a3)), (4, (0, a4))] [] σ 0 0 Q := by
  intro n
  induction n with
  | zero => intro a0 a2 a3 a4 σ h; obtain ⟨r, h, -⟩ := h; cases h
  | succ n ih =>
    intro a0 a2 a3 a4 σ h
    unfold f_X8_nameOf_5 at h
    refine r_iload 3 dX8_nameOf_5 rfl ?_
    refine r_iload_n 1 dX8_nameOf_7 rfl ?_
    refine r_icmp_ge 30 dX8_nameOf_8 (by decide) h (fun h => ?_) (fun h => ?_)
    · refine r_iload_n 2 dX8_nameOf_30 rfl ?_
      exact r_iret rfl dX8_nameOf_31 h
    · refine r_bipush (v := 27) dX8_nameOf_11 rfl rfl ?_
      refine r_iload_n 2 dX8_nameOf_13 rfl ?_
      refine r_imul dX8_nameOf_14 ?_
      refine r_aload_n 0 dX8_nameOf_15 rfl ?_
      refine r_iload 3 dX8_nameOf_16 rfl ?_
      refine r_bald dX8_nameOf_18 h (fun x1 h => ?_)
      refine r_iadd dX8_nameOf_19 ?_
      refine r_bipush (v := 96) dX8_nameOf_20 rfl rfl ?_
      refine r_isub dX8_nameOf_22 ?_
      refine r_istore_n (L' := [(3, (0, (w32 ((w32 ((w32 (27 * a3)) + x1)) - 96)))), (0, (4, a0)), (2, (0, a2)), (4, (0, a4))]) dX8_nameOf_23 (by decide) rfl ?_
      refine r_iinc (L' := [(4, (0, (w32 (a4 + 1)))), (3, (0, (w32 ((w32 ((w32 (27 * a3)) + x1)) - 96)))), (0, (4, a0)), (2, (0, a2))]) 3 dX8_nameOf_24 rfl (by decide) rfl ?_
      refine r_goto 5 dX8_nameOf_27 (by decide) ?_
      refine r_weak (L' := [(0, (4, a0)), (2, (0, a2)), (3, (0, (w32 ((w32 ((w32 (27 * a3)) + x1)) - 96)))), (4, (0, (w32 (a4 + 1))))]) [2, 3, 1, 0] rfl ?_
      exact ih _ _ _ _ _ h

set_option maxRecDepth 100000 in
set_option maxHeartbeats 4000000 in
theorem t_X8_nameOf {g : zF} (hl0 : g.2.2.2.1.stackTraces = false) {Q : zR × zS → Prop}   {a0 a1 a2 : Int} {σ : zS} (h : zo (f_X8_nameOf  a0 a1 a2 σ) Q) : zw g Y_X8_nameOf R_X8_nameOf 0 [(0, (4, a0)), (1, (0, a1)), (2, (0, a2))] [] σ 0 0 Q := by
  unfold f_X8_nameOf at h
  refine r_iconst (v := 0) dX8_nameOf_0 rfl rfl ?_
  refine r_istore_n (L' := [(3, (0, 0)), (0, (4, a0)), (1, (0, a1)), (2, (0, a2))]) dX8_nameOf_1 (by decide) rfl ?_
  refine r_iload_n 2 dX8_nameOf_2 rfl ?_
  refine r_istore (L' := [(4, (0, a1)), (3, (0, 0)), (0, (4, a0)), (1, (0, a1)), (2, (0, a2))]) dX8_nameOf_3 (by decide) rfl ?_
  refine r_weak (L' := [(0, (4, a0)), (2, (0, a2)), (3, (0, 0)), (4, (0, a1))]) [2, 4, 1, 0] rfl ?_
  exact t_X8_nameOf_5 hl0   zFU _ _ _ _ _ h
theorem m_X8_nameOf {g : zF} (hl0 : g.2.2.2.1.stackTraces = false) {Q : zR × zS → Prop} {a0 a1 a2 : Int} {σ : zS} (h : zo (f_X8_nameOf a0 a1 a2 σ) Q) : zm g Y_X8_nameOf R_X8_nameOf [(4, a0), (0, a1), (0, a2)] σ Q := zm_of (by decide) rfl (Nat.le_of_ble_eq_true rfl) (t_X8_nameOf hl0 h)


/- X8_nameHere -/

set_option maxRecDepth 100000 in
set_option maxHeartbeats 4000000 in
theorem t_X8_nameHere_41 {g : zF} (hl0 : g.2.2.2.1.stackTraces = false) {Q : zR × zS → Prop}   {a0 : Int} {σ : zS} (h : zo (f_X8_nameHere_41  a0 σ) Q) : zw g Y_X8_nameHere R_X8_nameHere 41 [(0, (4, a0))] [] σ 0 0 Q := by
  unfold f_X8_nameHere_41 at h
  refine r_aload_n 0 dX8_nameHere_41 rfl ?_
  refine r_callV (K' := Y_X8_good) (R' := R_X8_good) (idx := 226) (n := 0) (b := a0) (as := []) (rest := []) (C' := 0) (D' := 0) (cn := 8) rfl k0_X8_good kV_X8_good kl_X8_226 ⟨by decide, by decide⟩ dX8_nameHere_42 rfl rfl (Nat.le_of_ble_eq_true rfl) (by decide) (by decide) rfl h (fun r hr => m_X8_good hl0 ⟨r, hr, hr⟩) (fun x1 τ2 _ h => ?_)
  refine r_if_eq 66 dX8_nameHere_45 (by decide) h (fun h => ?_) (fun h => ?_)
  · refine r_iconst (v := 0) dX8_nameHere_66 rfl rfl ?_
    exact r_iret rfl dX8_nameHere_67 h
  · refine r_aload_n 0 dX8_nameHere_48 rfl ?_
    refine r_getr fd_X8_40 rfl dX8_nameHere_49 h (fun x3 h => ?_)
    refine r_aload_n 0 dX8_nameHere_52 rfl ?_
    refine r_getf fd_X8_229 rfl dX8_nameHere_53 h (fun x4 h => ?_)
    refine r_aload_n 0 dX8_nameHere_56 rfl ?_
    refine r_getf fd_X8_235 rfl dX8_nameHere_57 h (fun x5 h => ?_)
    refine r_callS (K' := Y_X8_nameOf) (R' := R_X8_nameOf) (idx := 305) (n := 3) (as := [(4, x3), (0, x4), (0, x5)]) (rest := []) (C' := 0) (D' := 0) rfl k0_X8_nameOf wd_1643 kl_X8_305 ⟨by decide, by decide⟩ dX8_nameHere_60 rfl rfl (Nat.le_of_ble_eq_true rfl) (by decide) (by decide) h (fun r hr => m_X8_nameOf hl0 ⟨r, hr, hr⟩) (fun x6 τ7 _ h => ?_)
    refine r_goto 67 dX8_nameHere_63 (by decide) ?_
    exact r_iret rfl dX8_nameHere_67 h

set_option maxRecDepth 100000 in
set_option maxHeartbeats 4000000 in
theorem t_X8_nameHere_36 {g : zF} (hl0 : g.2.2.2.1.stackTraces = false) {Q : zR × zS → Prop}   {a0 : Int} {σ : zS} (h : zo (f_X8_nameHere_36  a0 σ) Q) : zw g Y_X8_nameHere R_X8_nameHere 36 [(0, (4, a0))] [] σ 0 0 Q := by
  unfold f_X8_nameHere_36 at h
  refine r_aload_n 0 dX8_nameHere_36 rfl ?_
  refine r_iconst (v := 1) dX8_nameHere_37 rfl rfl ?_
  refine r_callV (K' := Y_X8_errs) (R' := R_X8_errs) (idx := 267) (n := 1) (b := a0) (as := [(0, 1)]) (rest := []) (C' := 0) (D' := 0) (cn := 8) rfl k0_X8_errs kV_X8_errs kl_X8_267 ⟨by decide, by decide⟩ dX8_nameHere_38 rfl rfl (Nat.le_of_ble_eq_true rfl) (by decide) (by decide) rfl h (fun r hr => m_X8_errs hl0 ⟨r, hr, hr⟩) (fun _ τ2 _ h => ?_)
  exact t_X8_nameHere_41 hl0   h

set_option maxRecDepth 100000 in
set_option maxHeartbeats 4000000 in
theorem t_X8_nameHere {g : zF} (hl0 : g.2.2.2.1.stackTraces = false) {Q : zR × zS → Prop}   {a0 : Int} {σ : zS} (h : zo (f_X8_nameHere  a0 σ) Q) : zw g Y_X8_nameHere R_X8_nameHere 0 [(0, (4, a0))] [] σ 0 0 Q := by
  unfold f_X8_nameHere at h
  refine r_aload_n 0 dX8_nameHere_0 rfl ?_
  refine r_callV (K' := Y_X8_good) (R' := R_X8_good) (idx := 226) (n := 0) (b := a0) (as := []) (rest := []) (C' := 0) (D' := 0) (cn := 8) rfl k0_X8_good kV_X8_good kl_X8_226 ⟨by decide, by decide⟩ dX8_nameHere_1 rfl rfl (Nat.le_of_ble_eq_true rfl) (by decide) (by decide) rfl h (fun r hr => m_X8_good hl0 ⟨r, hr, hr⟩) (fun x1 τ2 _ h => ?_)
  refine r_if_eq 41 dX8_nameHere_4 (by decide) h (fun h => ?_) (fun h => ?_)
  · exact t_X8_nameHere_41 hl0   h
  · refine r_aload_n 0 dX8_nameHere_7 rfl ?_
    refine r_getf fd_X8_241 rfl dX8_nameHere_8 h (fun x3 h => ?_)
    refine r_iconst (v := 1) dX8_nameHere_11 rfl rfl ?_
    refine r_icmp_ne 36 dX8_nameHere_12 (by decide) h (fun h => ?_) (fun h => ?_)
    · exact t_X8_nameHere_36 hl0   h
    · refine r_aload_n 0 dX8_nameHere_15 rfl ?_
      refine r_getf fd_X8_235 rfl dX8_nameHere_16 h (fun x4 h => ?_)
      refine r_aload_n 0 dX8_nameHere_19 rfl ?_
      refine r_getf fd_X8_229 rfl dX8_nameHere_20 h (fun x5 h => ?_)
      refine r_isub dX8_nameHere_23 ?_
      refine r_bipush (v := 6) dX8_nameHere_24 rfl rfl ?_
      refine r_icmp_gt 36 dX8_nameHere_26 (by decide) h (fun h => ?_) (fun h => ?_)
      · exact t_X8_nameHere_36 hl0   h
      · refine r_aload_n 0 dX8_nameHere_29 rfl ?_
        refine r_callV (K' := Y_X8_isKeyword) (R' := R_X8_isKeyword) (idx := 302) (n := 0) (b := a0) (as := []) (rest := []) (C' := 0) (D' := 0) (cn := 8) rfl k0_X8_isKeyword kV_X8_isKeyword kl_X8_302 ⟨by decide, by decide⟩ dX8_nameHere_30 rfl rfl (Nat.le_of_ble_eq_true rfl) (by decide) (by decide) rfl h (fun r hr => m_X8_isKeyword hl0 ⟨r, hr, hr⟩) (fun x6 τ7 _ h => ?_)
        refine r_if_eq 41 dX8_nameHere_33 (by decide) h (fun h => ?_) (fun h => ?_)
        · exact t_X8_nameHere_41 hl0   h
        · exact t_X8_nameHere_36 hl0   h
theorem m_X8_nameHere {g : zF} (hl0 : g.2.2.2.1.stackTraces = false) {Q : zR × zS → Prop} {a0 : Int} {σ : zS} (h : zo (f_X8_nameHere a0 σ) Q) : zm g Y_X8_nameHere R_X8_nameHere [(4, a0)] σ Q := zm_of (by decide) rfl (Nat.le_of_ble_eq_true rfl) (t_X8_nameHere hl0 h)


/- X8_withName -/

set_option maxRecDepth 100000 in
set_option maxHeartbeats 4000000 in
theorem t_X8_withName_3 {g : zF} (hl0 : g.2.2.2.1.stackTraces = false) {Q : zR × zS → Prop}   : ∀ (n : Nat) (a0 a1 a2 a3 a4 : Int) (σ : zS), zo (f_X8_withName_3  n a0 a1 a2 a3 a4 σ) Q → zw g Y_X8_withName R_X8_withName 3 [(0, (4, a0)), (1, (0, a1)), (2, (0, a2)), (3, (0, a3)), (4, (0, a4))] [] σ 0 0 Q := by
  intro n
  induction n with
  | zero => intro a0 a1 a2 a3 a4 σ h; obtain ⟨r, h, -⟩ := h; cases h
  | succ n ih =>
    intro a0 a1 a2 a3 a4 σ h
    unfold f_X8_withName_3 at h
    refine r_iload 4 dX8_withName_3 rfl ?_
    refine r_iload_n 3 dX8_withName_5 rfl ?_
    refine r_icmp_ge 31 dX8_withName_6 (by decide) h (fun h => ?_) (fun h => ?_)
    · refine r_iconst (v := (-1)) dX8_withName_31 rfl rfl ?_
      exact r_iret rfl dX8_withName_32 h
    · refine r_aload_n 0 dX8_withName_9 rfl ?_
      refine r_getr fd_X8_24 rfl dX8_withName_10 h (fun x1 h => ?_)
      refine r_iload_n 2 dX8_withName_13 rfl ?_
      refine r_iload 4 dX8_withName_14 rfl ?_
      refine r_iadd dX8_withName_16 ?_
      refine r_iald dX8_withName_17 h (fun x2 h => ?_)
      refine r_iload_n 1 dX8_withName_18 rfl ?_
      refine r_icmp_ne 25 dX8_withName_19 (by decide) h (fun h => ?_) (fun h => ?_)
      · refine r_iinc (L' := [(4, (0, (w32 (a4 + 1)))), (0, (4, a0)), (1, (0, a1)), (2, (0, a2)), (3, (0, a3))]) 4 dX8_withName_25 rfl (by decide) rfl ?_
        refine r_goto 3 dX8_withName_28 (by decide) ?_
        refine r_weak (L' := [(0, (4, a0)), (1, (0, a1)), (2, (0, a2)), (3, (0, a3)), (4, (0, (w32 (a4 + 1))))]) [1, 2, 3, 4, 0] rfl ?_
        exact ih _ _ _ _ _ _ h
      · refine r_iload 4 dX8_withName_22 rfl ?_
        exact r_iret rfl dX8_withName_24 h

set_option maxRecDepth 100000 in
set_option maxHeartbeats 4000000 in
theorem t_X8_withName {g : zF} (hl0 : g.2.2.2.1.stackTraces = false) {Q : zR × zS → Prop}   {a0 a1 a2 a3 : Int} {σ : zS} (h : zo (f_X8_withName  a0 a1 a2 a3 σ) Q) : zw g Y_X8_withName R_X8_withName 0 [(0, (4, a0)), (1, (0, a1)), (2, (0, a2)), (3, (0, a3))] [] σ 0 0 Q := by
  unfold f_X8_withName at h
  refine r_iconst (v := 0) dX8_withName_0 rfl rfl ?_
  refine r_istore (L' := [(4, (0, 0)), (0, (4, a0)), (1, (0, a1)), (2, (0, a2)), (3, (0, a3))]) dX8_withName_1 (by decide) rfl ?_
  refine r_weak (L' := [(0, (4, a0)), (1, (0, a1)), (2, (0, a2)), (3, (0, a3)), (4, (0, 0))]) [1, 2, 3, 4, 0] rfl ?_
  exact t_X8_withName_3 hl0   zFU _ _ _ _ _ _ h
theorem m_X8_withName {g : zF} (hl0 : g.2.2.2.1.stackTraces = false) {Q : zR × zS → Prop} {a0 a1 a2 a3 : Int} {σ : zS} (h : zo (f_X8_withName a0 a1 a2 a3 σ) Q) : zm g Y_X8_withName R_X8_withName [(4, a0), (0, a1), (0, a2), (0, a3)] σ Q := zm_of (by decide) rfl (Nat.le_of_ble_eq_true rfl) (t_X8_withName hl0 h)

