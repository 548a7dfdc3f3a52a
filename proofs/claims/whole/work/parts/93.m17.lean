/- X8_writeBeliefs -/

set_option maxRecDepth 100000 in
set_option maxHeartbeats 4000000 in
theorem t_X8_writeBeliefs_39 {g : zF} (hl0 : g.2.2.2.1.stackTraces = false) {Q : zR × zS → Prop} (r21 : Int → Int → Int → zS → zFn) (hr21 : ∀ b0 b1 b2 τ, zo (r21 b0 b1 b2 τ) Q → zw g Y_X8_writeBeliefs R_X8_writeBeliefs 21 [(0, (4, b0)), (1, (0, b1)), (2, (0, b2))] [] τ 0 0 Q) {a0 a1 a2 : Int} {σ : zS} (h : zo (f_X8_writeBeliefs_39 r21 a0 a1 a2 σ) Q) : zw g Y_X8_writeBeliefs R_X8_writeBeliefs 39 [(0, (4, a0)), (1, (0, a1)), (2, (0, a2))] [] σ 0 0 Q := by
  unfold f_X8_writeBeliefs_39 at h
  refine r_aload_n 0 dX8_writeBeliefs_39 rfl ?_
  refine r_aload_n 0 dX8_writeBeliefs_40 rfl ?_
  refine r_getr fd_X8_17 rfl dX8_writeBeliefs_41 h (fun x1 h => ?_)
  refine r_bipush (v := 15) dX8_writeBeliefs_44 rfl rfl ?_
  refine r_iload_n 2 dX8_writeBeliefs_46 rfl ?_
  refine r_iadd dX8_writeBeliefs_47 ?_
  refine r_iald dX8_writeBeliefs_48 h (fun x2 h => ?_)
  refine r_callV (K' := Y_X8_writeName) (R' := R_X8_writeName) (idx := 477) (n := 1) (b := a0) (as := [(0, x2)]) (rest := []) (C' := 0) (D' := 0) (cn := 8) rfl k0_X8_writeName kV_X8_writeName kl_X8_477 ⟨by decide, by decide⟩ dX8_writeBeliefs_49 rfl rfl (Nat.le_of_ble_eq_true rfl) (by decide) (by decide) rfl h (fun r hr => m_X8_writeName hl0 ⟨r, hr, hr⟩) (fun _ τ4 _ h => ?_)
  refine r_aload_n 0 dX8_writeBeliefs_52 rfl ?_
  refine r_bipush (v := 58) dX8_writeBeliefs_53 rfl rfl ?_
  refine r_callV (K' := Y_X8_write) (R' := R_X8_write) (idx := 474) (n := 1) (b := a0) (as := [(0, 58)]) (rest := []) (C' := 0) (D' := 0) (cn := 8) rfl k0_X8_write kV_X8_write kl_X8_474 ⟨by decide, by decide⟩ dX8_writeBeliefs_55 rfl rfl (Nat.le_of_ble_eq_true rfl) (by decide) (by decide) rfl h (fun r hr => m_X8_write hl0 ⟨r, hr, hr⟩) (fun _ τ6 _ h => ?_)
  refine r_aload_n 0 dX8_writeBeliefs_58 rfl ?_
  refine r_aload_n 0 dX8_writeBeliefs_59 rfl ?_
  refine r_iload_n 1 dX8_writeBeliefs_60 rfl ?_
  refine r_iload_n 2 dX8_writeBeliefs_61 rfl ?_
  refine r_iconst (v := 0) dX8_writeBeliefs_62 rfl rfl ?_
  refine r_callV (K' := Y_X8_boundOf) (R' := R_X8_boundOf) (idx := 384) (n := 3) (b := a0) (as := [(0, a1), (0, a2), (0, 0)]) (rest := [(4, a0)]) (C' := 0) (D' := 0) (cn := 8) rfl k0_X8_boundOf kV_X8_boundOf kl_X8_384 ⟨by decide, by decide⟩ dX8_writeBeliefs_63 rfl rfl (Nat.le_of_ble_eq_true rfl) (by decide) (by decide) rfl h (fun r hr => m_X8_boundOf hl0 ⟨r, hr, hr⟩) (fun x7 τ8 _ h => ?_)
  refine r_callV (K' := Y_X8_writeNumber) (R' := R_X8_writeNumber) (idx := 480) (n := 1) (b := a0) (as := [(0, x7)]) (rest := []) (C' := 0) (D' := 0) (cn := 8) rfl k0_X8_writeNumber kV_X8_writeNumber kl_X8_480 ⟨by decide, by decide⟩ dX8_writeBeliefs_66 rfl rfl (Nat.le_of_ble_eq_true rfl) (by decide) (by decide) rfl h (fun r hr => m_X8_writeNumber hl0 ⟨r, hr, hr⟩) (fun _ τ10 _ h => ?_)
  refine r_aload_n 0 dX8_writeBeliefs_69 rfl ?_
  refine r_bipush (v := 45) dX8_writeBeliefs_70 rfl rfl ?_
  refine r_callV (K' := Y_X8_write) (R' := R_X8_write) (idx := 474) (n := 1) (b := a0) (as := [(0, 45)]) (rest := []) (C' := 0) (D' := 0) (cn := 8) rfl k0_X8_write kV_X8_write kl_X8_474 ⟨by decide, by decide⟩ dX8_writeBeliefs_72 rfl rfl (Nat.le_of_ble_eq_true rfl) (by decide) (by decide) rfl h (fun r hr => m_X8_write hl0 ⟨r, hr, hr⟩) (fun _ τ12 _ h => ?_)
  refine r_aload_n 0 dX8_writeBeliefs_75 rfl ?_
  refine r_aload_n 0 dX8_writeBeliefs_76 rfl ?_
  refine r_iload_n 1 dX8_writeBeliefs_77 rfl ?_
  refine r_iload_n 2 dX8_writeBeliefs_78 rfl ?_
  refine r_iconst (v := 1) dX8_writeBeliefs_79 rfl rfl ?_
  refine r_callV (K' := Y_X8_boundOf) (R' := R_X8_boundOf) (idx := 384) (n := 3) (b := a0) (as := [(0, a1), (0, a2), (0, 1)]) (rest := [(4, a0)]) (C' := 0) (D' := 0) (cn := 8) rfl k0_X8_boundOf kV_X8_boundOf kl_X8_384 ⟨by decide, by decide⟩ dX8_writeBeliefs_80 rfl rfl (Nat.le_of_ble_eq_true rfl) (by decide) (by decide) rfl h (fun r hr => m_X8_boundOf hl0 ⟨r, hr, hr⟩) (fun x13 τ14 _ h => ?_)
  refine r_callV (K' := Y_X8_writeNumber) (R' := R_X8_writeNumber) (idx := 480) (n := 1) (b := a0) (as := [(0, x13)]) (rest := []) (C' := 0) (D' := 0) (cn := 8) rfl k0_X8_writeNumber kV_X8_writeNumber kl_X8_480 ⟨by decide, by decide⟩ dX8_writeBeliefs_83 rfl rfl (Nat.le_of_ble_eq_true rfl) (by decide) (by decide) rfl h (fun r hr => m_X8_writeNumber hl0 ⟨r, hr, hr⟩) (fun _ τ16 _ h => ?_)
  refine r_iinc (L' := [(2, (0, (w32 (a2 + 1)))), (0, (4, a0)), (1, (0, a1))]) 2 dX8_writeBeliefs_86 rfl (by decide) rfl ?_
  refine r_goto 21 dX8_writeBeliefs_89 (by decide) ?_
  refine r_weak (L' := [(0, (4, a0)), (1, (0, a1)), (2, (0, (w32 (a2 + 1))))]) [1, 2, 0] rfl ?_
  exact hr21 _ _ _ _ h

set_option maxRecDepth 100000 in
set_option maxHeartbeats 4000000 in
theorem t_X8_writeBeliefs_21 {g : zF} (hl0 : g.2.2.2.1.stackTraces = false) {Q : zR × zS → Prop}   : ∀ (n : Nat) (a0 a1 a2 : Int) (σ : zS), zo (f_X8_writeBeliefs_21  n a0 a1 a2 σ) Q → zw g Y_X8_writeBeliefs R_X8_writeBeliefs 21 [(0, (4, a0)), (1, (0, a1)), (2, (0, a2))] [] σ 0 0 Q := by
  intro n
  induction n with
  | zero => intro a0 a1 a2 σ h; obtain ⟨r, h, -⟩ := h; cases h
  | succ n ih =>
    intro a0 a1 a2 σ h
    unfold f_X8_writeBeliefs_21 at h
    refine r_iload_n 2 dX8_writeBeliefs_21 rfl ?_
    refine r_aload_n 0 dX8_writeBeliefs_22 rfl ?_
    refine r_callV (K' := Y_X8_ways) (R' := R_X8_ways) (idx := 74) (n := 0) (b := a0) (as := []) (rest := [(0, a2)]) (C' := 0) (D' := 0) (cn := 8) rfl k0_X8_ways kV_X8_ways kl_X8_74 ⟨by decide, by decide⟩ dX8_writeBeliefs_23 rfl rfl (Nat.le_of_ble_eq_true rfl) (by decide) (by decide) rfl h (fun r hr => m_X8_ways hl0 ⟨r, hr, hr⟩) (fun x1 τ2 _ h => ?_)
    refine r_icmp_ge 92 dX8_writeBeliefs_26 (by decide) h (fun h => ?_) (fun h => ?_)
    · refine r_aload_n 0 dX8_writeBeliefs_92 rfl ?_
      refine r_getf fd_X8_471 rfl dX8_writeBeliefs_93 h (fun x3 h => ?_)
      exact r_iret rfl dX8_writeBeliefs_96 h
    · refine r_iload_n 2 dX8_writeBeliefs_29 rfl ?_
      refine r_if_le 39 dX8_writeBeliefs_30 (by decide) h (fun h => ?_) (fun h => ?_)
      · exact t_X8_writeBeliefs_39 hl0 (f_X8_writeBeliefs_21  n) (fun b0 b1 b2 τ h => ih b0 b1 b2 τ h) h
      · refine r_aload_n 0 dX8_writeBeliefs_33 rfl ?_
        refine r_bipush (v := 32) dX8_writeBeliefs_34 rfl rfl ?_
        refine r_callV (K' := Y_X8_write) (R' := R_X8_write) (idx := 474) (n := 1) (b := a0) (as := [(0, 32)]) (rest := []) (C' := 0) (D' := 0) (cn := 8) rfl k0_X8_write kV_X8_write kl_X8_474 ⟨by decide, by decide⟩ dX8_writeBeliefs_36 rfl rfl (Nat.le_of_ble_eq_true rfl) (by decide) (by decide) rfl h (fun r hr => m_X8_write hl0 ⟨r, hr, hr⟩) (fun _ τ5 _ h => ?_)
        exact t_X8_writeBeliefs_39 hl0 (f_X8_writeBeliefs_21  n) (fun b0 b1 b2 τ h => ih b0 b1 b2 τ h) h

set_option maxRecDepth 100000 in
set_option maxHeartbeats 4000000 in
theorem t_X8_writeBeliefs {g : zF} (hl0 : g.2.2.2.1.stackTraces = false) {Q : zR × zS → Prop}   {a0 a1 : Int} {σ : zS} (h : zo (f_X8_writeBeliefs  a0 a1 σ) Q) : zw g Y_X8_writeBeliefs R_X8_writeBeliefs 0 [(0, (4, a0)), (1, (0, a1))] [] σ 0 0 Q := by
  unfold f_X8_writeBeliefs at h
  refine r_aload_n 0 dX8_writeBeliefs_0 rfl ?_
  refine r_aload_n 0 dX8_writeBeliefs_1 rfl ?_
  refine r_iload_n 1 dX8_writeBeliefs_2 rfl ?_
  refine r_callV (K' := Y_X8_isAgent) (R' := R_X8_isAgent) (idx := 88) (n := 1) (b := a0) (as := [(0, a1)]) (rest := [(4, a0)]) (C' := 0) (D' := 0) (cn := 8) rfl k0_X8_isAgent kV_X8_isAgent kl_X8_88 ⟨by decide, by decide⟩ dX8_writeBeliefs_3 rfl rfl (Nat.le_of_ble_eq_true rfl) (by decide) (by decide) rfl h (fun r hr => m_X8_isAgent hl0 ⟨r, hr, hr⟩) (fun x1 τ2 _ h => ?_)
  refine r_callV (K' := Y_X8_passes) (R' := R_X8_passes) (idx := 215) (n := 1) (b := a0) (as := [(0, x1)]) (rest := []) (C' := 0) (D' := 0) (cn := 8) rfl k0_X8_passes kV_X8_passes kl_X8_215 ⟨by decide, by decide⟩ dX8_writeBeliefs_6 rfl rfl (Nat.le_of_ble_eq_true rfl) (by decide) (by decide) rfl h (fun r hr => m_X8_passes hl0 ⟨r, hr, hr⟩) (fun x3 τ4 _ h => ?_)
  refine r_if_ne 14 dX8_writeBeliefs_9 (by decide) h (fun h => ?_) (fun h => ?_)
  · refine r_aload_n 0 dX8_writeBeliefs_14 rfl ?_
    refine r_iconst (v := 0) dX8_writeBeliefs_15 rfl rfl ?_
    refine r_putf fd_X8_471 fp_X8_writeBeliefs_471 dX8_writeBeliefs_16 h (fun τ5 h => ?_)
    refine r_iconst (v := 0) dX8_writeBeliefs_19 rfl rfl ?_
    refine r_istore_n (L' := [(2, (0, 0)), (0, (4, a0)), (1, (0, a1))]) dX8_writeBeliefs_20 (by decide) rfl ?_
    refine r_weak (L' := [(0, (4, a0)), (1, (0, a1)), (2, (0, 0))]) [1, 2, 0] rfl ?_
    exact t_X8_writeBeliefs_21 hl0   zFU _ _ _ _ h
  · refine r_iconst (v := 0) dX8_writeBeliefs_12 rfl rfl ?_
    exact r_iret rfl dX8_writeBeliefs_13 h
theorem m_X8_writeBeliefs {g : zF} (hl0 : g.2.2.2.1.stackTraces = false) {Q : zR × zS → Prop} {a0 a1 : Int} {σ : zS} (h : zo (f_X8_writeBeliefs a0 a1 σ) Q) : zm g Y_X8_writeBeliefs R_X8_writeBeliefs [(4, a0), (0, a1)] σ Q := zm_of (by decide) rfl (Nat.le_of_ble_eq_true rfl) (t_X8_writeBeliefs hl0 h)


/- X8_writeReports -/

set_option maxRecDepth 100000 in
set_option maxHeartbeats 4000000 in
theorem t_X8_writeReports_153 {g : zF} (hl0 : g.2.2.2.1.stackTraces = false) {Q : zR × zS → Prop} (r21 : Int → Int → Int → zS → zFn) (hr21 : ∀ b0 b1 b2 τ, zo (r21 b0 b1 b2 τ) Q → zw g Y_X8_writeReports R_X8_writeReports 21 [(0, (4, b0)), (1, (0, b1)), (2, (0, b2))] [] τ 0 0 Q) {a0 a1 a2 : Int} {σ : zS} (h : zo (f_X8_writeReports_153 r21 a0 a1 a2 σ) Q) : zw g Y_X8_writeReports R_X8_writeReports 153 [(0, (4, a0)), (1, (0, a1)), (2, (0, a2))] [] σ 0 0 Q := by
  unfold f_X8_writeReports_153 at h
  refine r_aload_n 0 dX8_writeReports_153 rfl ?_
  refine r_bipush (v := 10) dX8_writeReports_154 rfl rfl ?_
  refine r_callV (K' := Y_X8_write) (R' := R_X8_write) (idx := 474) (n := 1) (b := a0) (as := [(0, 10)]) (rest := []) (C' := 0) (D' := 0) (cn := 8) rfl k0_X8_write kV_X8_write kl_X8_474 ⟨by decide, by decide⟩ dX8_writeReports_156 rfl rfl (Nat.le_of_ble_eq_true rfl) (by decide) (by decide) rfl h (fun r hr => m_X8_write hl0 ⟨r, hr, hr⟩) (fun _ τ2 _ h => ?_)
  refine r_iinc (L' := [(2, (0, (w32 (a2 + 1)))), (0, (4, a0)), (1, (0, a1))]) 2 dX8_writeReports_159 rfl (by decide) rfl ?_
  refine r_goto 21 dX8_writeReports_162 (by decide) ?_
  refine r_weak (L' := [(0, (4, a0)), (1, (0, a1)), (2, (0, (w32 (a2 + 1))))]) [1, 2, 0] rfl ?_
  exact hr21 _ _ _ _ h

set_option maxRecDepth 100000 in
set_option maxHeartbeats 4000000 in
theorem t_X8_writeReports_150 {g : zF} (hl0 : g.2.2.2.1.stackTraces = false) {Q : zR × zS → Prop} (r21 : Int → Int → Int → zS → zFn) (hr21 : ∀ b0 b1 b2 τ, zo (r21 b0 b1 b2 τ) Q → zw g Y_X8_writeReports R_X8_writeReports 21 [(0, (4, b0)), (1, (0, b1)), (2, (0, b2))] [] τ 0 0 Q) {a0 a1 a2 s0 s1 : Int} {σ : zS} (h : zo (f_X8_writeReports_150 r21 a0 a1 a2 s0 s1 σ) Q) : zw g Y_X8_writeReports R_X8_writeReports 150 [(0, (4, a0)), (1, (0, a1)), (2, (0, a2))] [(0, s1), (4, s0)] σ 0 0 Q := by
  unfold f_X8_writeReports_150 at h
  refine r_callV (K' := Y_X8_write) (R' := R_X8_write) (idx := 474) (n := 1) (b := s0) (as := [(0, s1)]) (rest := []) (C' := 0) (D' := 0) (cn := 8) rfl k0_X8_write kV_X8_write kl_X8_474 ⟨by decide, by decide⟩ dX8_writeReports_150 rfl rfl (Nat.le_of_ble_eq_true rfl) (by decide) (by decide) rfl h (fun r hr => m_X8_write hl0 ⟨r, hr, hr⟩) (fun _ τ2 _ h => ?_)
  exact t_X8_writeReports_153 hl0 r21 hr21 h

set_option maxRecDepth 100000 in
set_option maxHeartbeats 4000000 in
theorem t_X8_writeReports_21 {g : zF} (hl0 : g.2.2.2.1.stackTraces = false) {Q : zR × zS → Prop}   : ∀ (n : Nat) (a0 a1 a2 : Int) (σ : zS), zo (f_X8_writeReports_21  n a0 a1 a2 σ) Q → zw g Y_X8_writeReports R_X8_writeReports 21 [(0, (4, a0)), (1, (0, a1)), (2, (0, a2))] [] σ 0 0 Q := by
  intro n
  induction n with
  | zero => intro a0 a1 a2 σ h; obtain ⟨r, h, -⟩ := h; cases h
  | succ n ih =>
    intro a0 a1 a2 σ h
    unfold f_X8_writeReports_21 at h
    refine r_iload_n 2 dX8_writeReports_21 rfl ?_
    refine r_aload_n 0 dX8_writeReports_22 rfl ?_
    refine r_iload_n 1 dX8_writeReports_23 rfl ?_
    refine r_callV (K' := Y_X8_manyOf) (R' := R_X8_manyOf) (idx := 92) (n := 1) (b := a0) (as := [(0, a1)]) (rest := [(0, a2)]) (C' := 0) (D' := 0) (cn := 8) rfl k0_X8_manyOf kV_X8_manyOf kl_X8_92 ⟨by decide, by decide⟩ dX8_writeReports_24 rfl rfl (Nat.le_of_ble_eq_true rfl) (by decide) (by decide) rfl h (fun r hr => m_X8_manyOf hl0 ⟨r, hr, hr⟩) (fun x1 τ2 _ h => ?_)
    refine r_icmp_ge 165 dX8_writeReports_27 (by decide) h (fun h => ?_) (fun h => ?_)
    · refine r_aload_n 0 dX8_writeReports_165 rfl ?_
      refine r_getf fd_X8_471 rfl dX8_writeReports_166 h (fun x3 h => ?_)
      exact r_iret rfl dX8_writeReports_169 h
    · refine r_aload_n 0 dX8_writeReports_30 rfl ?_
      refine r_aload_n 0 dX8_writeReports_31 rfl ?_
      refine r_getr fd_X8_17 rfl dX8_writeReports_32 h (fun x4 h => ?_)
      refine r_bipush (v := 9) dX8_writeReports_35 rfl rfl ?_
      refine r_aload_n 0 dX8_writeReports_37 rfl ?_
      refine r_iload_n 1 dX8_writeReports_38 rfl ?_
      refine r_iload_n 2 dX8_writeReports_39 rfl ?_
      refine r_iconst (v := 0) dX8_writeReports_40 rfl rfl ?_
      refine r_callV (K' := Y_X8_ofReport) (R' := R_X8_ofReport) (idx := 95) (n := 3) (b := a0) (as := [(0, a1), (0, a2), (0, 0)]) (rest := [(0, 9), (4, x4), (4, a0)]) (C' := 0) (D' := 0) (cn := 8) rfl k0_X8_ofReport kV_X8_ofReport kl_X8_95 ⟨by decide, by decide⟩ dX8_writeReports_41 rfl rfl (Nat.le_of_ble_eq_true rfl) (by decide) (by decide) rfl h (fun r hr => m_X8_ofReport hl0 ⟨r, hr, hr⟩) (fun x5 τ6 _ h => ?_)
      refine r_iadd dX8_writeReports_44 ?_
      refine r_iald dX8_writeReports_45 h (fun x7 h => ?_)
      refine r_callV (K' := Y_X8_writeName) (R' := R_X8_writeName) (idx := 477) (n := 1) (b := a0) (as := [(0, x7)]) (rest := []) (C' := 0) (D' := 0) (cn := 8) rfl k0_X8_writeName kV_X8_writeName kl_X8_477 ⟨by decide, by decide⟩ dX8_writeReports_46 rfl rfl (Nat.le_of_ble_eq_true rfl) (by decide) (by decide) rfl h (fun r hr => m_X8_writeName hl0 ⟨r, hr, hr⟩) (fun _ τ9 _ h => ?_)
      refine r_aload_n 0 dX8_writeReports_49 rfl ?_
      refine r_bipush (v := 47) dX8_writeReports_50 rfl rfl ?_
      refine r_callV (K' := Y_X8_write) (R' := R_X8_write) (idx := 474) (n := 1) (b := a0) (as := [(0, 47)]) (rest := []) (C' := 0) (D' := 0) (cn := 8) rfl k0_X8_write kV_X8_write kl_X8_474 ⟨by decide, by decide⟩ dX8_writeReports_52 rfl rfl (Nat.le_of_ble_eq_true rfl) (by decide) (by decide) rfl h (fun r hr => m_X8_write hl0 ⟨r, hr, hr⟩) (fun _ τ11 _ h => ?_)
      refine r_aload_n 0 dX8_writeReports_55 rfl ?_
      refine r_aload_n 0 dX8_writeReports_56 rfl ?_
      refine r_getr fd_X8_17 rfl dX8_writeReports_57 h (fun x12 h => ?_)
      refine r_bipush (v := 15) dX8_writeReports_60 rfl rfl ?_
      refine r_aload_n 0 dX8_writeReports_62 rfl ?_
      refine r_iload_n 1 dX8_writeReports_63 rfl ?_
      refine r_iload_n 2 dX8_writeReports_64 rfl ?_
      refine r_iconst (v := 3) dX8_writeReports_65 rfl rfl ?_
      refine r_callV (K' := Y_X8_ofReport) (R' := R_X8_ofReport) (idx := 95) (n := 3) (b := a0) (as := [(0, a1), (0, a2), (0, 3)]) (rest := [(0, 15), (4, x12), (4, a0)]) (C' := 0) (D' := 0) (cn := 8) rfl k0_X8_ofReport kV_X8_ofReport kl_X8_95 ⟨by decide, by decide⟩ dX8_writeReports_66 rfl rfl (Nat.le_of_ble_eq_true rfl) (by decide) (by decide) rfl h (fun r hr => m_X8_ofReport hl0 ⟨r, hr, hr⟩) (fun x13 τ14 _ h => ?_)
      refine r_iadd dX8_writeReports_69 ?_
      refine r_iald dX8_writeReports_70 h (fun x15 h => ?_)
      refine r_callV (K' := Y_X8_writeName) (R' := R_X8_writeName) (idx := 477) (n := 1) (b := a0) (as := [(0, x15)]) (rest := []) (C' := 0) (D' := 0) (cn := 8) rfl k0_X8_writeName kV_X8_writeName kl_X8_477 ⟨by decide, by decide⟩ dX8_writeReports_71 rfl rfl (Nat.le_of_ble_eq_true rfl) (by decide) (by decide) rfl h (fun r hr => m_X8_writeName hl0 ⟨r, hr, hr⟩) (fun _ τ17 _ h => ?_)
      refine r_aload_n 0 dX8_writeReports_74 rfl ?_
      refine r_bipush (v := 32) dX8_writeReports_75 rfl rfl ?_
      refine r_callV (K' := Y_X8_write) (R' := R_X8_write) (idx := 474) (n := 1) (b := a0) (as := [(0, 32)]) (rest := []) (C' := 0) (D' := 0) (cn := 8) rfl k0_X8_write kV_X8_write kl_X8_474 ⟨by decide, by decide⟩ dX8_writeReports_77 rfl rfl (Nat.le_of_ble_eq_true rfl) (by decide) (by decide) rfl h (fun r hr => m_X8_write hl0 ⟨r, hr, hr⟩) (fun _ τ19 _ h => ?_)
      refine r_aload_n 0 dX8_writeReports_80 rfl ?_
      refine r_aload_n 0 dX8_writeReports_81 rfl ?_
      refine r_iload_n 1 dX8_writeReports_82 rfl ?_
      refine r_iload_n 2 dX8_writeReports_83 rfl ?_
      refine r_iconst (v := 5) dX8_writeReports_84 rfl rfl ?_
      refine r_callV (K' := Y_X8_ofReport) (R' := R_X8_ofReport) (idx := 95) (n := 3) (b := a0) (as := [(0, a1), (0, a2), (0, 5)]) (rest := [(4, a0)]) (C' := 0) (D' := 0) (cn := 8) rfl k0_X8_ofReport kV_X8_ofReport kl_X8_95 ⟨by decide, by decide⟩ dX8_writeReports_85 rfl rfl (Nat.le_of_ble_eq_true rfl) (by decide) (by decide) rfl h (fun r hr => m_X8_ofReport hl0 ⟨r, hr, hr⟩) (fun x20 τ21 _ h => ?_)
      refine r_callV (K' := Y_X8_writeNumber) (R' := R_X8_writeNumber) (idx := 480) (n := 1) (b := a0) (as := [(0, x20)]) (rest := []) (C' := 0) (D' := 0) (cn := 8) rfl k0_X8_writeNumber kV_X8_writeNumber kl_X8_480 ⟨by decide, by decide⟩ dX8_writeReports_88 rfl rfl (Nat.le_of_ble_eq_true rfl) (by decide) (by decide) rfl h (fun r hr => m_X8_writeNumber hl0 ⟨r, hr, hr⟩) (fun _ τ23 _ h => ?_)
      refine r_aload_n 0 dX8_writeReports_91 rfl ?_
      refine r_bipush (v := 45) dX8_writeReports_92 rfl rfl ?_
      refine r_callV (K' := Y_X8_write) (R' := R_X8_write) (idx := 474) (n := 1) (b := a0) (as := [(0, 45)]) (rest := []) (C' := 0) (D' := 0) (cn := 8) rfl k0_X8_write kV_X8_write kl_X8_474 ⟨by decide, by decide⟩ dX8_writeReports_94 rfl rfl (Nat.le_of_ble_eq_true rfl) (by decide) (by decide) rfl h (fun r hr => m_X8_write hl0 ⟨r, hr, hr⟩) (fun _ τ25 _ h => ?_)
      refine r_aload_n 0 dX8_writeReports_97 rfl ?_
      refine r_aload_n 0 dX8_writeReports_98 rfl ?_
      refine r_iload_n 1 dX8_writeReports_99 rfl ?_
      refine r_iload_n 2 dX8_writeReports_100 rfl ?_
      refine r_bipush (v := 6) dX8_writeReports_101 rfl rfl ?_
      refine r_callV (K' := Y_X8_ofReport) (R' := R_X8_ofReport) (idx := 95) (n := 3) (b := a0) (as := [(0, a1), (0, a2), (0, 6)]) (rest := [(4, a0)]) (C' := 0) (D' := 0) (cn := 8) rfl k0_X8_ofReport kV_X8_ofReport kl_X8_95 ⟨by decide, by decide⟩ dX8_writeReports_103 rfl rfl (Nat.le_of_ble_eq_true rfl) (by decide) (by decide) rfl h (fun r hr => m_X8_ofReport hl0 ⟨r, hr, hr⟩) (fun x26 τ27 _ h => ?_)
      refine r_callV (K' := Y_X8_writeNumber) (R' := R_X8_writeNumber) (idx := 480) (n := 1) (b := a0) (as := [(0, x26)]) (rest := []) (C' := 0) (D' := 0) (cn := 8) rfl k0_X8_writeNumber kV_X8_writeNumber kl_X8_480 ⟨by decide, by decide⟩ dX8_writeReports_106 rfl rfl (Nat.le_of_ble_eq_true rfl) (by decide) (by decide) rfl h (fun r hr => m_X8_writeNumber hl0 ⟨r, hr, hr⟩) (fun _ τ29 _ h => ?_)
      refine r_aload_n 0 dX8_writeReports_109 rfl ?_
      refine r_bipush (v := 64) dX8_writeReports_110 rfl rfl ?_
      refine r_callV (K' := Y_X8_write) (R' := R_X8_write) (idx := 474) (n := 1) (b := a0) (as := [(0, 64)]) (rest := []) (C' := 0) (D' := 0) (cn := 8) rfl k0_X8_write kV_X8_write kl_X8_474 ⟨by decide, by decide⟩ dX8_writeReports_112 rfl rfl (Nat.le_of_ble_eq_true rfl) (by decide) (by decide) rfl h (fun r hr => m_X8_write hl0 ⟨r, hr, hr⟩) (fun _ τ31 _ h => ?_)
      refine r_aload_n 0 dX8_writeReports_115 rfl ?_
      refine r_aload_n 0 dX8_writeReports_116 rfl ?_
      refine r_iload_n 1 dX8_writeReports_117 rfl ?_
      refine r_iload_n 2 dX8_writeReports_118 rfl ?_
      refine r_iconst (v := 4) dX8_writeReports_119 rfl rfl ?_
      refine r_callV (K' := Y_X8_ofReport) (R' := R_X8_ofReport) (idx := 95) (n := 3) (b := a0) (as := [(0, a1), (0, a2), (0, 4)]) (rest := [(4, a0)]) (C' := 0) (D' := 0) (cn := 8) rfl k0_X8_ofReport kV_X8_ofReport kl_X8_95 ⟨by decide, by decide⟩ dX8_writeReports_120 rfl rfl (Nat.le_of_ble_eq_true rfl) (by decide) (by decide) rfl h (fun r hr => m_X8_ofReport hl0 ⟨r, hr, hr⟩) (fun x32 τ33 _ h => ?_)
      refine r_callV (K' := Y_X8_writeNumber) (R' := R_X8_writeNumber) (idx := 480) (n := 1) (b := a0) (as := [(0, x32)]) (rest := []) (C' := 0) (D' := 0) (cn := 8) rfl k0_X8_writeNumber kV_X8_writeNumber kl_X8_480 ⟨by decide, by decide⟩ dX8_writeReports_123 rfl rfl (Nat.le_of_ble_eq_true rfl) (by decide) (by decide) rfl h (fun r hr => m_X8_writeNumber hl0 ⟨r, hr, hr⟩) (fun _ τ35 _ h => ?_)
      refine r_aload_n 0 dX8_writeReports_126 rfl ?_
      refine r_iload_n 1 dX8_writeReports_127 rfl ?_
      refine r_iload_n 2 dX8_writeReports_128 rfl ?_
      refine r_callV (K' := Y_X8_statusAt) (R' := R_X8_statusAt) (idx := 375) (n := 2) (b := a0) (as := [(0, a1), (0, a2)]) (rest := []) (C' := 0) (D' := 0) (cn := 8) rfl k0_X8_statusAt kV_X8_statusAt kl_X8_375 ⟨by decide, by decide⟩ dX8_writeReports_129 rfl rfl (Nat.le_of_ble_eq_true rfl) (by decide) (by decide) rfl h (fun r hr => m_X8_statusAt hl0 ⟨r, hr, hr⟩) (fun x36 τ37 _ h => ?_)
      refine r_istore_n (L' := [(3, (0, x36)), (0, (4, a0)), (1, (0, a1)), (2, (0, a2))]) dX8_writeReports_132 (by decide) rfl ?_
      refine r_iload_n 0 dX8_writeReports_133 rfl ?_
      refine r_if_le 153 dX8_writeReports_134 (by decide) h (fun h => ?_) (fun h => ?_)
      · refine r_weak (L' := [(0, (4, a0)), (1, (0, a1)), (2, (0, a2))]) [1, 2, 3] rfl ?_
        exact t_X8_writeReports_153 hl0 (f_X8_writeReports_21  n) (fun b0 b1 b2 τ h => ih b0 b1 b2 τ h) h
      · refine r_aload_n 1 dX8_writeReports_137 rfl ?_
        refine r_iload_n 0 dX8_writeReports_138 rfl ?_
        refine r_iconst (v := 1) dX8_writeReports_139 rfl rfl ?_
        refine r_icmp_ne 148 dX8_writeReports_140 (by decide) h (fun h => ?_) (fun h => ?_)
        · refine r_bipush (v := 63) dX8_writeReports_148 rfl rfl ?_
          refine r_weak (L' := [(0, (4, a0)), (1, (0, a1)), (2, (0, a2))]) [1, 2, 3] rfl ?_
          exact t_X8_writeReports_150 hl0 (f_X8_writeReports_21  n) (fun b0 b1 b2 τ h => ih b0 b1 b2 τ h) h
        · refine r_bipush (v := 33) dX8_writeReports_143 rfl rfl ?_
          refine r_goto 150 dX8_writeReports_145 (by decide) ?_
          refine r_weak (L' := [(0, (4, a0)), (1, (0, a1)), (2, (0, a2))]) [1, 2, 3] rfl ?_
          exact t_X8_writeReports_150 hl0 (f_X8_writeReports_21  n) (fun b0 b1 b2 τ h => ih b0 b1 b2 τ h) h

set_option maxRecDepth 100000 in
set_option maxHeartbeats 4000000 in
theorem t_X8_writeReports {g : zF} (hl0 : g.2.2.2.1.stackTraces = false) {Q : zR × zS → Prop}   {a0 a1 : Int} {σ : zS} (h : zo (f_X8_writeReports  a0 a1 σ) Q) : zw g Y_X8_writeReports R_X8_writeReports 0 [(0, (4, a0)), (1, (0, a1))] [] σ 0 0 Q := by
  unfold f_X8_writeReports at h
  refine r_aload_n 0 dX8_writeReports_0 rfl ?_
  refine r_aload_n 0 dX8_writeReports_1 rfl ?_
  refine r_iload_n 1 dX8_writeReports_2 rfl ?_
  refine r_callV (K' := Y_X8_isAgent) (R' := R_X8_isAgent) (idx := 88) (n := 1) (b := a0) (as := [(0, a1)]) (rest := [(4, a0)]) (C' := 0) (D' := 0) (cn := 8) rfl k0_X8_isAgent kV_X8_isAgent kl_X8_88 ⟨by decide, by decide⟩ dX8_writeReports_3 rfl rfl (Nat.le_of_ble_eq_true rfl) (by decide) (by decide) rfl h (fun r hr => m_X8_isAgent hl0 ⟨r, hr, hr⟩) (fun x1 τ2 _ h => ?_)
  refine r_callV (K' := Y_X8_passes) (R' := R_X8_passes) (idx := 215) (n := 1) (b := a0) (as := [(0, x1)]) (rest := []) (C' := 0) (D' := 0) (cn := 8) rfl k0_X8_passes kV_X8_passes kl_X8_215 ⟨by decide, by decide⟩ dX8_writeReports_6 rfl rfl (Nat.le_of_ble_eq_true rfl) (by decide) (by decide) rfl h (fun r hr => m_X8_passes hl0 ⟨r, hr, hr⟩) (fun x3 τ4 _ h => ?_)
  refine r_if_ne 14 dX8_writeReports_9 (by decide) h (fun h => ?_) (fun h => ?_)
  · refine r_aload_n 0 dX8_writeReports_14 rfl ?_
    refine r_iconst (v := 0) dX8_writeReports_15 rfl rfl ?_
    refine r_putf fd_X8_471 fp_X8_writeReports_471 dX8_writeReports_16 h (fun τ5 h => ?_)
    refine r_iconst (v := 0) dX8_writeReports_19 rfl rfl ?_
    refine r_istore_n (L' := [(2, (0, 0)), (0, (4, a0)), (1, (0, a1))]) dX8_writeReports_20 (by decide) rfl ?_
    refine r_weak (L' := [(0, (4, a0)), (1, (0, a1)), (2, (0, 0))]) [1, 2, 0] rfl ?_
    exact t_X8_writeReports_21 hl0   zFU _ _ _ _ h
  · refine r_iconst (v := 0) dX8_writeReports_12 rfl rfl ?_
    exact r_iret rfl dX8_writeReports_13 h
theorem m_X8_writeReports {g : zF} (hl0 : g.2.2.2.1.stackTraces = false) {Q : zR × zS → Prop} {a0 a1 : Int} {σ : zS} (h : zo (f_X8_writeReports a0 a1 σ) Q) : zm g Y_X8_writeReports R_X8_writeReports [(4, a0), (0, a1)] σ Q := zm_of (by decide) rfl (Nat.le_of_ble_eq_true rfl) (t_X8_writeReports hl0 h)


/- X8_outputByte -/

set_option maxRecDepth 100000 in
set_option maxHeartbeats 4000000 in
theorem t_X8_outputByte {g : zF} (hl0 : g.2.2.2.1.stackTraces = false) {Q : zR × zS → Prop}   {a0 a1 : Int} {σ : zS} (h : zo (f_X8_outputByte  a0 a1 σ) Q) : zw g Y_X8_outputByte R_X8_outputByte 0 [(0, (4, a0)), (1, (0, a1))] [] σ 0 0 Q := by
  unfold f_X8_outputByte at h
  refine r_aload_n 0 dX8_outputByte_0 rfl ?_
  refine r_iload_n 1 dX8_outputByte_1 rfl ?_
  refine r_i2l dX8_outputByte_2 ?_
  refine r_lconst dX8_outputByte_3 ?_
  refine r_aload_n 0 dX8_outputByte_4 rfl ?_
  refine r_getf fd_X8_471 rfl dX8_outputByte_5 h (fun x1 h => ?_)
  refine r_iconst (v := 1) dX8_outputByte_8 rfl rfl ?_
  refine r_isub dX8_outputByte_9 ?_
  refine r_i2l dX8_outputByte_10 ?_
  refine r_callS (K' := Y_X8_in) (R' := R_X8_in) (idx := 70) (n := 3) (as := [(1, a1), (1, 0), (1, (w32 (x1 - 1)))]) (rest := [(4, a0)]) (C' := 0) (D' := 0) rfl k0_X8_in wd_1562 kl_X8_70 ⟨by decide, by decide⟩ dX8_outputByte_11 rfl rfl (Nat.le_of_ble_eq_true rfl) (by decide) (by decide) h (fun r hr => m_X8_in hl0 ⟨r, hr, hr⟩) (fun x2 τ3 _ h => ?_)
  refine r_callV (K' := Y_X8_passes) (R' := R_X8_passes) (idx := 215) (n := 1) (b := a0) (as := [(0, x2)]) (rest := []) (C' := 0) (D' := 0) (cn := 8) rfl k0_X8_passes kV_X8_passes kl_X8_215 ⟨by decide, by decide⟩ dX8_outputByte_14 rfl rfl (Nat.le_of_ble_eq_true rfl) (by decide) (by decide) rfl h (fun r hr => m_X8_passes hl0 ⟨r, hr, hr⟩) (fun x4 τ5 _ h => ?_)
  refine r_if_eq 29 dX8_outputByte_17 (by decide) h (fun h => ?_) (fun h => ?_)
  · refine r_iconst (v := 0) dX8_outputByte_29 rfl rfl ?_
    exact r_iret rfl dX8_outputByte_30 h
  · refine r_aload_n 0 dX8_outputByte_20 rfl ?_
    refine r_getr fd_X8_59 rfl dX8_outputByte_21 h (fun x6 h => ?_)
    refine r_iload_n 1 dX8_outputByte_24 rfl ?_
    refine r_bald dX8_outputByte_25 h (fun x7 h => ?_)
    refine r_goto 30 dX8_outputByte_26 (by decide) ?_
    exact r_iret rfl dX8_outputByte_30 h
theorem m_X8_outputByte {g : zF} (hl0 : g.2.2.2.1.stackTraces = false) {Q : zR × zS → Prop} {a0 a1 : Int} {σ : zS} (h : zo (f_X8_outputByte a0 a1 σ) Q) : zm g Y_X8_outputByte R_X8_outputByte [(4, a0), (0, a1)] σ Q := zm_of (by decide) rfl (Nat.le_of_ble_eq_true rfl) (t_X8_outputByte hl0 h)

