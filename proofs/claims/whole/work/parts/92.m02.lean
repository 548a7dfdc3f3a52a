/- X1_sendReports -/

set_option maxRecDepth 100000 in
set_option maxHeartbeats 4000000 in
theorem t_X1_sendReports_52 {g : zF} (hl0 : g.2.2.2.1.stackTraces = false) {Q : zR × zS → Prop}   {a0 a4 : Int} {σ : zS} (h : zo (f_X1_sendReports_52  a0 a4 σ) Q) : zw g Y_X1_sendReports R_X1_sendReports 52 [(0, (4, a0)), (4, (0, a4))] [] σ 0 0 Q := by
  unfold f_X1_sendReports_52 at h
  refine r_aload_n 0 dX1_sendReports_52 rfl ?_
  refine r_getr fd_X1_41 rfl dX1_sendReports_53 h (fun x1 h => ?_)
  refine r_getf fd_X1_71 rfl dX1_sendReports_56 h (fun x2 h => ?_)
  refine r_iload 1 dX1_sendReports_59 rfl ?_
  refine r_isub dX1_sendReports_61 ?_
  exact r_iret rfl dX1_sendReports_62 h

set_option maxRecDepth 100000 in
set_option maxHeartbeats 4000000 in
theorem t_X1_sendReports_46 {g : zF} (hl0 : g.2.2.2.1.stackTraces = false) {Q : zR × zS → Prop} (r18 : Int → Int → Int → Int → Int → Int → zS → zFn) (hr18 : ∀ b0 b1 b2 b3 b4 b5 τ, zo (r18 b0 b1 b2 b3 b4 b5 τ) Q → zw g Y_X1_sendReports R_X1_sendReports 18 [(0, (4, b0)), (1, (0, b1)), (2, (0, b2)), (3, (4, b3)), (4, (0, b4)), (5, (0, b5))] [] τ 0 0 Q) {a0 a1 a2 a3 a4 a5 : Int} {σ : zS} (h : zo (f_X1_sendReports_46 r18 a0 a1 a2 a3 a4 a5 σ) Q) : zw g Y_X1_sendReports R_X1_sendReports 46 [(0, (4, a0)), (1, (0, a1)), (2, (0, a2)), (3, (4, a3)), (4, (0, a4)), (5, (0, a5))] [] σ 0 0 Q := by
  unfold f_X1_sendReports_46 at h
  refine r_iinc (L' := [(5, (0, (w32 (a5 + 1)))), (0, (4, a0)), (1, (0, a1)), (2, (0, a2)), (3, (4, a3)), (4, (0, a4))]) 5 dX1_sendReports_46 rfl (by decide) rfl ?_
  refine r_goto 18 dX1_sendReports_49 (by decide) ?_
  refine r_weak (L' := [(0, (4, a0)), (1, (0, a1)), (2, (0, a2)), (3, (4, a3)), (4, (0, a4)), (5, (0, (w32 (a5 + 1))))]) [1, 2, 3, 4, 5, 0] rfl ?_
  exact hr18 _ _ _ _ _ _ _ h

set_option maxRecDepth 100000 in
set_option maxHeartbeats 4000000 in
theorem t_X1_sendReports_18 {g : zF} (hl0 : g.2.2.2.1.stackTraces = false) {Q : zR × zS → Prop}   : ∀ (n : Nat) (a0 a1 a2 a3 a4 a5 : Int) (σ : zS), zo (f_X1_sendReports_18  n a0 a1 a2 a3 a4 a5 σ) Q → zw g Y_X1_sendReports R_X1_sendReports 18 [(0, (4, a0)), (1, (0, a1)), (2, (0, a2)), (3, (4, a3)), (4, (0, a4)), (5, (0, a5))] [] σ 0 0 Q := by
  intro n
  induction n with
  | zero => intro a0 a1 a2 a3 a4 a5 σ h; obtain ⟨r, h, -⟩ := h; cases h
  | succ n ih =>
    intro a0 a1 a2 a3 a4 a5 σ h
    unfold f_X1_sendReports_18 at h
    refine r_iload 5 dX1_sendReports_18 rfl ?_
    refine r_aload_n 3 dX1_sendReports_20 rfl ?_
    refine r_getf fd_X1_71 rfl dX1_sendReports_21 h (fun x1 h => ?_)
    refine r_icmp_ge 52 dX1_sendReports_24 (by decide) h (fun h => ?_) (fun h => ?_)
    · refine r_weak (L' := [(0, (4, a0)), (4, (0, a4))]) [0, 4] rfl ?_
      exact t_X1_sendReports_52 hl0   h
    · refine r_aload_n 3 dX1_sendReports_27 rfl ?_
      refine r_iload 5 dX1_sendReports_28 rfl ?_
      refine r_iconst (v := 2) dX1_sendReports_30 rfl rfl ?_
      refine r_callV (K' := Y_X5_get) (R' := R_X5_get) (idx := 111) (n := 2) (b := a3) (as := [(0, a5), (0, 2)]) (rest := []) (C' := 0) (D' := 0) (cn := 5) rfl k0_X5_get kV_X5_get kl_X1_111 ⟨by decide, by decide⟩ dX1_sendReports_31 rfl rfl (Nat.le_of_ble_eq_true rfl) (by decide) (by decide) rfl h (fun r hr => m_X5_get hl0 ⟨r, hr, hr⟩) (fun x2 τ3 _ h => ?_)
      refine r_iload_n 2 dX1_sendReports_34 rfl ?_
      refine r_icmp_ge 46 dX1_sendReports_35 (by decide) h (fun h => ?_) (fun h => ?_)
      · exact t_X1_sendReports_46 hl0 (f_X1_sendReports_18  n) (fun b0 b1 b2 b3 b4 b5 τ h => ih b0 b1 b2 b3 b4 b5 τ h) h
      · refine r_aload_n 0 dX1_sendReports_38 rfl ?_
        refine r_iload_n 1 dX1_sendReports_39 rfl ?_
        refine r_aload_n 3 dX1_sendReports_40 rfl ?_
        refine r_iload 5 dX1_sendReports_41 rfl ?_
        refine r_callV (K' := Y_X1_sendReport) (R' := R_X1_sendReport) (idx := 151) (n := 3) (b := a0) (as := [(0, a1), (4, a3), (0, a5)]) (rest := []) (C' := 0) (D' := 0) (cn := 1) rfl k0_X1_sendReport kV_X1_sendReport kl_X1_151 ⟨by decide, by decide⟩ dX1_sendReports_43 rfl rfl (Nat.le_of_ble_eq_true rfl) (by decide) (by decide) rfl h (fun r hr => m_X1_sendReport hl0 ⟨r, hr, hr⟩) (fun _ τ5 _ h => ?_)
        exact t_X1_sendReports_46 hl0 (f_X1_sendReports_18  n) (fun b0 b1 b2 b3 b4 b5 τ h => ih b0 b1 b2 b3 b4 b5 τ h) h

set_option maxRecDepth 100000 in
set_option maxHeartbeats 4000000 in
theorem t_X1_sendReports {g : zF} (hl0 : g.2.2.2.1.stackTraces = false) {Q : zR × zS → Prop}   {a0 a1 a2 : Int} {σ : zS} (h : zo (f_X1_sendReports  a0 a1 a2 σ) Q) : zw g Y_X1_sendReports R_X1_sendReports 0 [(0, (4, a0)), (1, (0, a1)), (2, (0, a2))] [] σ 0 0 Q := by
  unfold f_X1_sendReports at h
  refine r_aload_n 0 dX1_sendReports_0 rfl ?_
  refine r_iload_n 1 dX1_sendReports_1 rfl ?_
  refine r_callV (K' := Y_X1_listOf) (R' := R_X1_listOf) (idx := 67) (n := 1) (b := a0) (as := [(0, a1)]) (rest := []) (C' := 0) (D' := 0) (cn := 1) rfl k0_X1_listOf kV_X1_listOf kl_X1_67 ⟨by decide, by decide⟩ dX1_sendReports_2 rfl rfl (Nat.le_of_ble_eq_true rfl) (by decide) (by decide) rfl h (fun r hr => m_X1_listOf hl0 ⟨r, hr, hr⟩) (fun x1 τ2 _ h => ?_)
  refine r_astore_n (L' := [(3, (4, x1)), (0, (4, a0)), (1, (0, a1)), (2, (0, a2))]) dX1_sendReports_5 (by decide) rfl ?_
  refine r_aload_n 1 dX1_sendReports_6 rfl ?_
  refine r_getr fd_X1_41 rfl dX1_sendReports_7 h (fun x3 h => ?_)
  refine r_getf fd_X1_71 rfl dX1_sendReports_10 h (fun x4 h => ?_)
  refine r_istore (L' := [(4, (0, x4)), (3, (4, x1)), (0, (4, a0)), (1, (0, a1)), (2, (0, a2))]) dX1_sendReports_13 (by decide) rfl ?_
  refine r_iconst (v := 0) dX1_sendReports_15 rfl rfl ?_
  refine r_istore (L' := [(5, (0, 0)), (4, (0, x4)), (3, (4, x1)), (0, (4, a0)), (1, (0, a1)), (2, (0, a2))]) dX1_sendReports_16 (by decide) rfl ?_
  refine r_weak (L' := [(0, (4, a0)), (1, (0, a1)), (2, (0, a2)), (3, (4, x1)), (4, (0, x4)), (5, (0, 0))]) [3, 4, 5, 2, 1, 0] rfl ?_
  exact t_X1_sendReports_18 hl0   zFU _ _ _ _ _ _ _ h
theorem m_X1_sendReports {g : zF} (hl0 : g.2.2.2.1.stackTraces = false) {Q : zR × zS → Prop} {a0 a1 a2 : Int} {σ : zS} (h : zo (f_X1_sendReports a0 a1 a2 σ) Q) : zm g Y_X1_sendReports R_X1_sendReports [(4, a0), (0, a1), (0, a2)] σ Q := zm_of (by decide) rfl (Nat.le_of_ble_eq_true rfl) (t_X1_sendReports hl0 h)


/- X1_reasonToRefuse -/

set_option maxRecDepth 100000 in
set_option maxHeartbeats 4000000 in
theorem t_X1_reasonToRefuse_125 {g : zF} (hl0 : g.2.2.2.1.stackTraces = false) {Q : zR × zS → Prop}   {a5 s0 : Int} {σ : zS} (h : zo (f_X1_reasonToRefuse_125  a5 s0 σ) Q) : zw g Y_X1_reasonToRefuse R_X1_reasonToRefuse 125 [(5, (0, a5))] [(0, s0)] σ 0 0 Q := by
  unfold f_X1_reasonToRefuse_125 at h
  refine r_istore (L' := [(6, (0, s0)), (5, (0, a5))]) dX1_reasonToRefuse_125 (by decide) rfl ?_
  refine r_iload 1 dX1_reasonToRefuse_127 rfl ?_
  refine r_if_gt 142 dX1_reasonToRefuse_129 (by decide) h (fun h => ?_) (fun h => ?_)
  · refine r_iconst (v := 3) dX1_reasonToRefuse_142 rfl rfl ?_
    refine r_goto 147 dX1_reasonToRefuse_143 (by decide) ?_
    exact r_iret rfl dX1_reasonToRefuse_147 h
  · refine r_iload 1 dX1_reasonToRefuse_132 rfl ?_
    refine r_if_ne 146 dX1_reasonToRefuse_134 (by decide) h (fun h => ?_) (fun h => ?_)
    · refine r_iconst (v := 0) dX1_reasonToRefuse_146 rfl rfl ?_
      exact r_iret rfl dX1_reasonToRefuse_147 h
    · refine r_iload 0 dX1_reasonToRefuse_137 rfl ?_
      refine r_if_eq 146 dX1_reasonToRefuse_139 (by decide) h (fun h => ?_) (fun h => ?_)
      · refine r_iconst (v := 0) dX1_reasonToRefuse_146 rfl rfl ?_
        exact r_iret rfl dX1_reasonToRefuse_147 h
      · refine r_iconst (v := 3) dX1_reasonToRefuse_142 rfl rfl ?_
        refine r_goto 147 dX1_reasonToRefuse_143 (by decide) ?_
        exact r_iret rfl dX1_reasonToRefuse_147 h

set_option maxRecDepth 100000 in
set_option maxHeartbeats 4000000 in
theorem t_X1_reasonToRefuse {g : zF} (hl0 : g.2.2.2.1.stackTraces = false) {Q : zR × zS → Prop}   {a0 a1 : Int} {σ : zS} (h : zo (f_X1_reasonToRefuse  a0 a1 σ) Q) : zw g Y_X1_reasonToRefuse R_X1_reasonToRefuse 0 [(0, (4, a0)), (1, (0, a1))] [] σ 0 0 Q := by
  unfold f_X1_reasonToRefuse at h
  refine r_aload_n 0 dX1_reasonToRefuse_0 rfl ?_
  refine r_getr fd_X1_41 rfl dX1_reasonToRefuse_1 h (fun x1 h => ?_)
  refine r_iload_n 1 dX1_reasonToRefuse_4 rfl ?_
  refine r_bipush (v := 7) dX1_reasonToRefuse_5 rfl rfl ?_
  refine r_callV (K' := Y_X5_get) (R' := R_X5_get) (idx := 111) (n := 2) (b := x1) (as := [(0, a1), (0, 7)]) (rest := []) (C' := 0) (D' := 0) (cn := 5) rfl k0_X5_get kV_X5_get kl_X1_111 ⟨by decide, by decide⟩ dX1_reasonToRefuse_7 rfl rfl (Nat.le_of_ble_eq_true rfl) (by decide) (by decide) rfl h (fun r hr => m_X5_get hl0 ⟨r, hr, hr⟩) (fun x2 τ3 _ h => ?_)
  refine r_istore_n (L' := [(2, (0, x2)), (0, (4, a0)), (1, (0, a1))]) dX1_reasonToRefuse_10 (by decide) rfl ?_
  refine r_aload_n 1 dX1_reasonToRefuse_11 rfl ?_
  refine r_iload_n 0 dX1_reasonToRefuse_12 rfl ?_
  refine r_aload_n 1 dX1_reasonToRefuse_13 rfl ?_
  refine r_getr fd_X1_41 rfl dX1_reasonToRefuse_14 h (fun x4 h => ?_)
  refine r_iload_n 2 dX1_reasonToRefuse_17 rfl ?_
  refine r_iconst (v := 1) dX1_reasonToRefuse_18 rfl rfl ?_
  refine r_callV (K' := Y_X5_get) (R' := R_X5_get) (idx := 111) (n := 2) (b := x4) (as := [(0, a1), (0, 1)]) (rest := [(0, x2), (4, a0)]) (C' := 0) (D' := 0) (cn := 5) rfl k0_X5_get kV_X5_get kl_X1_111 ⟨by decide, by decide⟩ dX1_reasonToRefuse_19 rfl rfl (Nat.le_of_ble_eq_true rfl) (by decide) (by decide) rfl h (fun r hr => m_X5_get hl0 ⟨r, hr, hr⟩) (fun x5 τ6 _ h => ?_)
  refine r_callV (K' := Y_X1_isLinked) (R' := R_X1_isLinked) (idx := 101) (n := 2) (b := a0) (as := [(0, x2), (0, x5)]) (rest := []) (C' := 0) (D' := 0) (cn := 1) rfl k0_X1_isLinked kV_X1_isLinked kl_X1_101 ⟨by decide, by decide⟩ dX1_reasonToRefuse_22 rfl rfl (Nat.le_of_ble_eq_true rfl) (by decide) (by decide) rfl h (fun r hr => m_X1_isLinked hl0 ⟨r, hr, hr⟩) (fun x7 τ8 _ h => ?_)
  refine r_if_ne 30 dX1_reasonToRefuse_25 (by decide) h (fun h => ?_) (fun h => ?_)
  · refine r_aload_n 1 dX1_reasonToRefuse_30 rfl ?_
    refine r_aload_n 1 dX1_reasonToRefuse_31 rfl ?_
    refine r_getr fd_X1_41 rfl dX1_reasonToRefuse_32 h (fun x9 h => ?_)
    refine r_iload_n 2 dX1_reasonToRefuse_35 rfl ?_
    refine r_callV (K' := Y_X1_isTooOld) (R' := R_X1_isTooOld) (idx := 162) (n := 2) (b := a0) (as := [(4, x9), (0, a1)]) (rest := []) (C' := 0) (D' := 0) (cn := 1) rfl k0_X1_isTooOld kV_X1_isTooOld kl_X1_162 ⟨by decide, by decide⟩ dX1_reasonToRefuse_36 rfl rfl (Nat.le_of_ble_eq_true rfl) (by decide) (by decide) rfl h (fun r hr => m_X1_isTooOld hl0 ⟨r, hr, hr⟩) (fun x10 τ11 _ h => ?_)
    refine r_if_eq 44 dX1_reasonToRefuse_39 (by decide) h (fun h => ?_) (fun h => ?_)
    · refine r_aload_n 1 dX1_reasonToRefuse_44 rfl ?_
      refine r_iload_n 0 dX1_reasonToRefuse_45 rfl ?_
      refine r_callV (K' := Y_X1_listOf) (R' := R_X1_listOf) (idx := 67) (n := 1) (b := a0) (as := [(0, x2)]) (rest := []) (C' := 0) (D' := 0) (cn := 1) rfl k0_X1_listOf kV_X1_listOf kl_X1_67 ⟨by decide, by decide⟩ dX1_reasonToRefuse_46 rfl rfl (Nat.le_of_ble_eq_true rfl) (by decide) (by decide) rfl h (fun r hr => m_X1_listOf hl0 ⟨r, hr, hr⟩) (fun x12 τ13 _ h => ?_)
      refine r_astore_n (L' := [(3, (4, x12)), (2, (0, x2)), (0, (4, a0)), (1, (0, a1))]) dX1_reasonToRefuse_49 (by decide) rfl ?_
      refine r_aload_n 0 dX1_reasonToRefuse_50 rfl ?_
      refine r_aload_n 2 dX1_reasonToRefuse_51 rfl ?_
      refine r_getr fd_X1_41 rfl dX1_reasonToRefuse_52 h (fun x14 h => ?_)
      refine r_iload_n 3 dX1_reasonToRefuse_55 rfl ?_
      refine r_iconst (v := 0) dX1_reasonToRefuse_56 rfl rfl ?_
      refine r_callV (K' := Y_X5_get) (R' := R_X5_get) (idx := 111) (n := 2) (b := x14) (as := [(0, a1), (0, 0)]) (rest := [(4, x12)]) (C' := 0) (D' := 0) (cn := 5) rfl k0_X5_get kV_X5_get kl_X1_111 ⟨by decide, by decide⟩ dX1_reasonToRefuse_57 rfl rfl (Nat.le_of_ble_eq_true rfl) (by decide) (by decide) rfl h (fun r hr => m_X5_get hl0 ⟨r, hr, hr⟩) (fun x15 τ16 _ h => ?_)
      refine r_aload_n 2 dX1_reasonToRefuse_60 rfl ?_
      refine r_getr fd_X1_41 rfl dX1_reasonToRefuse_61 h (fun x17 h => ?_)
      refine r_iload_n 3 dX1_reasonToRefuse_64 rfl ?_
      refine r_iconst (v := 3) dX1_reasonToRefuse_65 rfl rfl ?_
      refine r_callV (K' := Y_X5_get) (R' := R_X5_get) (idx := 111) (n := 2) (b := x17) (as := [(0, a1), (0, 3)]) (rest := [(0, x15), (4, x12)]) (C' := 0) (D' := 0) (cn := 5) rfl k0_X5_get kV_X5_get kl_X1_111 ⟨by decide, by decide⟩ dX1_reasonToRefuse_66 rfl rfl (Nat.le_of_ble_eq_true rfl) (by decide) (by decide) rfl h (fun r hr => m_X5_get hl0 ⟨r, hr, hr⟩) (fun x18 τ19 _ h => ?_)
      refine r_callV (K' := Y_X5_rowOf) (R' := R_X5_rowOf) (idx := 118) (n := 2) (b := x12) (as := [(0, x15), (0, x18)]) (rest := []) (C' := 0) (D' := 0) (cn := 5) rfl k0_X5_rowOf kV_X5_rowOf kl_X1_118 ⟨by decide, by decide⟩ dX1_reasonToRefuse_69 rfl rfl (Nat.le_of_ble_eq_true rfl) (by decide) (by decide) rfl h (fun r hr => m_X5_rowOf hl0 ⟨r, hr, hr⟩) (fun x20 τ21 _ h => ?_)
      refine r_istore (L' := [(4, (0, x20)), (3, (4, x12)), (2, (0, x2)), (0, (4, a0)), (1, (0, a1))]) dX1_reasonToRefuse_72 (by decide) rfl ?_
      refine r_iload 0 dX1_reasonToRefuse_74 rfl ?_
      refine r_iconst (v := (-1)) dX1_reasonToRefuse_76 rfl rfl ?_
      refine r_icmp_ne 82 dX1_reasonToRefuse_77 (by decide) h (fun h => ?_) (fun h => ?_)
      · refine r_aload_n 1 dX1_reasonToRefuse_82 rfl ?_
        refine r_iload 0 dX1_reasonToRefuse_83 rfl ?_
        refine r_iconst (v := 4) dX1_reasonToRefuse_85 rfl rfl ?_
        refine r_callV (K' := Y_X5_get) (R' := R_X5_get) (idx := 111) (n := 2) (b := x12) (as := [(0, x20), (0, 4)]) (rest := []) (C' := 0) (D' := 0) (cn := 5) rfl k0_X5_get kV_X5_get kl_X1_111 ⟨by decide, by decide⟩ dX1_reasonToRefuse_86 rfl rfl (Nat.le_of_ble_eq_true rfl) (by decide) (by decide) rfl h (fun r hr => m_X5_get hl0 ⟨r, hr, hr⟩) (fun x22 τ23 _ h => ?_)
        refine r_aload_n 3 dX1_reasonToRefuse_89 rfl ?_
        refine r_getr fd_X1_41 rfl dX1_reasonToRefuse_90 h (fun x24 h => ?_)
        refine r_iload_n 4 dX1_reasonToRefuse_93 rfl ?_
        refine r_iconst (v := 4) dX1_reasonToRefuse_94 rfl rfl ?_
        refine r_callV (K' := Y_X5_get) (R' := R_X5_get) (idx := 111) (n := 2) (b := x24) (as := [(0, a1), (0, 4)]) (rest := [(0, x22)]) (C' := 0) (D' := 0) (cn := 5) rfl k0_X5_get kV_X5_get kl_X1_111 ⟨by decide, by decide⟩ dX1_reasonToRefuse_95 rfl rfl (Nat.le_of_ble_eq_true rfl) (by decide) (by decide) rfl h (fun r hr => m_X5_get hl0 ⟨r, hr, hr⟩) (fun x25 τ26 _ h => ?_)
        refine r_isub dX1_reasonToRefuse_98 ?_
        refine r_istore (L' := [(5, (0, (w32 (x22 - x25)))), (4, (0, x20)), (3, (4, x12)), (2, (0, x2)), (0, (4, a0)), (1, (0, a1))]) dX1_reasonToRefuse_99 (by decide) rfl ?_
        refine r_aload_n 2 dX1_reasonToRefuse_101 rfl ?_
        refine r_iload 1 dX1_reasonToRefuse_102 rfl ?_
        refine r_iconst (v := 2) dX1_reasonToRefuse_104 rfl rfl ?_
        refine r_callV (K' := Y_X5_get) (R' := R_X5_get) (idx := 111) (n := 2) (b := x12) (as := [(0, x20), (0, 2)]) (rest := []) (C' := 0) (D' := 0) (cn := 5) rfl k0_X5_get kV_X5_get kl_X1_111 ⟨by decide, by decide⟩ dX1_reasonToRefuse_105 rfl rfl (Nat.le_of_ble_eq_true rfl) (by decide) (by decide) rfl h (fun r hr => m_X5_get hl0 ⟨r, hr, hr⟩) (fun x27 τ28 _ h => ?_)
        refine r_aload_n 4 dX1_reasonToRefuse_108 rfl ?_
        refine r_getr fd_X1_41 rfl dX1_reasonToRefuse_109 h (fun x29 h => ?_)
        refine r_iload_n 5 dX1_reasonToRefuse_112 rfl ?_
        refine r_iconst (v := 2) dX1_reasonToRefuse_113 rfl rfl ?_
        refine r_callV (K' := Y_X5_get) (R' := R_X5_get) (idx := 111) (n := 2) (b := x29) (as := [(0, a1), (0, 2)]) (rest := [(0, x27)]) (C' := 0) (D' := 0) (cn := 5) rfl k0_X5_get kV_X5_get kl_X1_111 ⟨by decide, by decide⟩ dX1_reasonToRefuse_114 rfl rfl (Nat.le_of_ble_eq_true rfl) (by decide) (by decide) rfl h (fun r hr => m_X5_get hl0 ⟨r, hr, hr⟩) (fun x30 τ31 _ h => ?_)
        refine r_icmp_gt 124 dX1_reasonToRefuse_117 (by decide) h (fun h => ?_) (fun h => ?_)
        · refine r_iconst (v := 0) dX1_reasonToRefuse_124 rfl rfl ?_
          refine r_weak (L' := [(5, (0, (w32 (x22 - x25))))]) [0] rfl ?_
          exact t_X1_reasonToRefuse_125 hl0   h
        · refine r_iconst (v := 1) dX1_reasonToRefuse_120 rfl rfl ?_
          refine r_goto 125 dX1_reasonToRefuse_121 (by decide) ?_
          refine r_weak (L' := [(5, (0, (w32 (x22 - x25))))]) [0] rfl ?_
          exact t_X1_reasonToRefuse_125 hl0   h
      · refine r_iconst (v := 0) dX1_reasonToRefuse_80 rfl rfl ?_
        exact r_iret rfl dX1_reasonToRefuse_81 h
    · refine r_iconst (v := 2) dX1_reasonToRefuse_42 rfl rfl ?_
      exact r_iret rfl dX1_reasonToRefuse_43 h
  · refine r_iconst (v := 1) dX1_reasonToRefuse_28 rfl rfl ?_
    exact r_iret rfl dX1_reasonToRefuse_29 h
theorem m_X1_reasonToRefuse {g : zF} (hl0 : g.2.2.2.1.stackTraces = false) {Q : zR × zS → Prop} {a0 a1 : Int} {σ : zS} (h : zo (f_X1_reasonToRefuse a0 a1 σ) Q) : zm g Y_X1_reasonToRefuse R_X1_reasonToRefuse [(4, a0), (0, a1)] σ Q := zm_of (by decide) rfl (Nat.le_of_ble_eq_true rfl) (t_X1_reasonToRefuse hl0 h)


/- X1_receive -/

set_option maxRecDepth 100000 in
set_option maxHeartbeats 4000000 in
theorem t_X1_receive {g : zF} (hl0 : g.2.2.2.1.stackTraces = false) {Q : zR × zS → Prop}   {a0 a1 : Int} {σ : zS} (h : zo (f_X1_receive  a0 a1 σ) Q) : zw g Y_X1_receive R_X1_receive 0 [(0, (4, a0)), (1, (0, a1))] [] σ 0 0 Q := by
  unfold f_X1_receive at h
  refine r_aload_n 0 dX1_receive_0 rfl ?_
  refine r_getr fd_X1_41 rfl dX1_receive_1 h (fun x1 h => ?_)
  refine r_iload_n 1 dX1_receive_4 rfl ?_
  refine r_bipush (v := 7) dX1_receive_5 rfl rfl ?_
  refine r_callV (K' := Y_X5_get) (R' := R_X5_get) (idx := 111) (n := 2) (b := x1) (as := [(0, a1), (0, 7)]) (rest := []) (C' := 0) (D' := 0) (cn := 5) rfl k0_X5_get kV_X5_get kl_X1_111 ⟨by decide, by decide⟩ dX1_receive_7 rfl rfl (Nat.le_of_ble_eq_true rfl) (by decide) (by decide) rfl h (fun r hr => m_X5_get hl0 ⟨r, hr, hr⟩) (fun x2 τ3 _ h => ?_)
  refine r_istore_n (L' := [(2, (0, x2)), (0, (4, a0)), (1, (0, a1))]) dX1_receive_10 (by decide) rfl ?_
  refine r_aload_n 1 dX1_receive_11 rfl ?_
  refine r_iload_n 2 dX1_receive_12 rfl ?_
  refine r_callV (K' := Y_X1_reasonToRefuse) (R' := R_X1_reasonToRefuse) (idx := 173) (n := 1) (b := a0) (as := [(0, a1)]) (rest := []) (C' := 0) (D' := 0) (cn := 1) rfl k0_X1_reasonToRefuse kV_X1_reasonToRefuse kl_X1_173 ⟨by decide, by decide⟩ dX1_receive_13 rfl rfl (Nat.le_of_ble_eq_true rfl) (by decide) (by decide) rfl h (fun r hr => m_X1_reasonToRefuse hl0 ⟨r, hr, hr⟩) (fun x4 τ5 _ h => ?_)
  refine r_if_eq 27 dX1_receive_16 (by decide) h (fun h => ?_) (fun h => ?_)
  · refine r_aload_n 1 dX1_receive_27 rfl ?_
    refine r_iload_n 0 dX1_receive_28 rfl ?_
    refine r_iconst (v := 1) dX1_receive_29 rfl rfl ?_
    refine r_callV (K' := Y_X1_tally) (R' := R_X1_tally) (idx := 132) (n := 2) (b := a0) (as := [(0, x2), (0, 1)]) (rest := []) (C' := 0) (D' := 0) (cn := 1) rfl k0_X1_tally kV_X1_tally kl_X1_132 ⟨by decide, by decide⟩ dX1_receive_30 rfl rfl (Nat.le_of_ble_eq_true rfl) (by decide) (by decide) rfl h (fun r hr => m_X1_tally hl0 ⟨r, hr, hr⟩) (fun _ τ7 _ h => ?_)
    refine r_aload_n 1 dX1_receive_33 rfl ?_
    refine r_getr fd_X1_41 rfl dX1_receive_34 h (fun x8 h => ?_)
    refine r_iload_n 2 dX1_receive_37 rfl ?_
    refine r_iconst (v := 3) dX1_receive_38 rfl rfl ?_
    refine r_callV (K' := Y_X5_get) (R' := R_X5_get) (idx := 111) (n := 2) (b := x8) (as := [(0, a1), (0, 3)]) (rest := []) (C' := 0) (D' := 0) (cn := 5) rfl k0_X5_get kV_X5_get kl_X1_111 ⟨by decide, by decide⟩ dX1_receive_39 rfl rfl (Nat.le_of_ble_eq_true rfl) (by decide) (by decide) rfl h (fun r hr => m_X5_get hl0 ⟨r, hr, hr⟩) (fun x9 τ10 _ h => ?_)
    refine r_istore_n (L' := [(3, (0, x9)), (2, (0, x2)), (0, (4, a0)), (1, (0, a1))]) dX1_receive_42 (by decide) rfl ?_
    refine r_aload_n 2 dX1_receive_43 rfl ?_
    refine r_iload_n 1 dX1_receive_44 rfl ?_
    refine r_callV (K' := Y_X1_listOf) (R' := R_X1_listOf) (idx := 67) (n := 1) (b := a0) (as := [(0, x2)]) (rest := []) (C' := 0) (D' := 0) (cn := 1) rfl k0_X1_listOf kV_X1_listOf kl_X1_67 ⟨by decide, by decide⟩ dX1_receive_45 rfl rfl (Nat.le_of_ble_eq_true rfl) (by decide) (by decide) rfl h (fun r hr => m_X1_listOf hl0 ⟨r, hr, hr⟩) (fun x11 τ12 _ h => ?_)
    refine r_astore (L' := [(4, (4, x11)), (3, (0, x9)), (2, (0, x2)), (0, (4, a0)), (1, (0, a1))]) dX1_receive_48 (by decide) rfl ?_
    refine r_aload 0 dX1_receive_50 rfl ?_
    refine r_aload 0 dX1_receive_52 rfl ?_
    refine r_aload_n 3 dX1_receive_54 rfl ?_
    refine r_getr fd_X1_41 rfl dX1_receive_55 h (fun x13 h => ?_)
    refine r_iload_n 4 dX1_receive_58 rfl ?_
    refine r_iconst (v := 0) dX1_receive_59 rfl rfl ?_
    refine r_callV (K' := Y_X5_get) (R' := R_X5_get) (idx := 111) (n := 2) (b := x13) (as := [(0, a1), (0, 0)]) (rest := [(4, x11), (4, x11)]) (C' := 0) (D' := 0) (cn := 5) rfl k0_X5_get kV_X5_get kl_X1_111 ⟨by decide, by decide⟩ dX1_receive_60 rfl rfl (Nat.le_of_ble_eq_true rfl) (by decide) (by decide) rfl h (fun r hr => m_X5_get hl0 ⟨r, hr, hr⟩) (fun x14 τ15 _ h => ?_)
    refine r_iload_n 1 dX1_receive_63 rfl ?_
    refine r_callV (K' := Y_X5_rowOf) (R' := R_X5_rowOf) (idx := 118) (n := 2) (b := x11) (as := [(0, x14), (0, x9)]) (rest := [(4, x11)]) (C' := 0) (D' := 0) (cn := 5) rfl k0_X5_rowOf kV_X5_rowOf kl_X1_118 ⟨by decide, by decide⟩ dX1_receive_64 rfl rfl (Nat.le_of_ble_eq_true rfl) (by decide) (by decide) rfl h (fun r hr => m_X5_rowOf hl0 ⟨r, hr, hr⟩) (fun x16 τ17 _ h => ?_)
    refine r_callV (K' := Y_X5_removeRow) (R' := R_X5_removeRow) (idx := 121) (n := 1) (b := x11) (as := [(0, x16)]) (rest := []) (C' := 0) (D' := 0) (cn := 5) rfl k0_X5_removeRow kV_X5_removeRow kl_X1_121 ⟨by decide, by decide⟩ dX1_receive_67 rfl rfl (Nat.le_of_ble_eq_true rfl) (by decide) (by decide) rfl h (fun r hr => m_X5_removeRow hl0 ⟨r, hr, hr⟩) (fun _ τ19 _ h => ?_)
    refine r_aload 0 dX1_receive_70 rfl ?_
    refine r_aload_n 3 dX1_receive_72 rfl ?_
    refine r_getr fd_X1_41 rfl dX1_receive_73 h (fun x20 h => ?_)
    refine r_iload_n 4 dX1_receive_76 rfl ?_
    refine r_callV (K' := Y_X5_addCopy) (R' := R_X5_addCopy) (idx := 159) (n := 2) (b := x11) (as := [(4, x20), (0, a1)]) (rest := []) (C' := 0) (D' := 0) (cn := 5) rfl k0_X5_addCopy kV_X5_addCopy kl_X1_159 ⟨by decide, by decide⟩ dX1_receive_77 rfl rfl (Nat.le_of_ble_eq_true rfl) (by decide) (by decide) rfl h (fun r hr => m_X5_addCopy hl0 ⟨r, hr, hr⟩) (fun x21 τ22 _ h => ?_)
    refine r_istore (L' := [(5, (0, x21)), (4, (4, x11)), (3, (0, x9)), (2, (0, x2)), (0, (4, a0)), (1, (0, a1))]) dX1_receive_80 (by decide) rfl ?_
    refine r_aload 1 dX1_receive_82 rfl ?_
    refine r_iload_n 3 dX1_receive_84 rfl ?_
    refine r_iload_n 2 dX1_receive_85 rfl ?_
    refine r_callV (K' := Y_X5_rowOf) (R' := R_X5_rowOf) (idx := 118) (n := 2) (b := x11) (as := [(0, x2), (0, x9)]) (rest := []) (C' := 0) (D' := 0) (cn := 5) rfl k0_X5_rowOf kV_X5_rowOf kl_X1_118 ⟨by decide, by decide⟩ dX1_receive_86 rfl rfl (Nat.le_of_ble_eq_true rfl) (by decide) (by decide) rfl h (fun r hr => m_X5_rowOf hl0 ⟨r, hr, hr⟩) (fun x23 τ24 _ h => ?_)
    refine r_istore (L' := [(6, (0, x23)), (5, (0, x21)), (4, (4, x11)), (3, (0, x9)), (2, (0, x2)), (0, (4, a0)), (1, (0, a1))]) dX1_receive_89 (by decide) rfl ?_
    refine r_iload 0 dX1_receive_91 rfl ?_
    refine r_iconst (v := (-1)) dX1_receive_93 rfl rfl ?_
    refine r_icmp_eq 107 dX1_receive_94 (by decide) h (fun h => ?_) (fun h => ?_)
    · refine r_iconst (v := 1) dX1_receive_107 rfl rfl ?_
      exact r_zretc (by decide) rfl dX1_receive_108 h
    · refine r_aload_n 5 dX1_receive_97 rfl ?_
      refine r_iload_n 4 dX1_receive_98 rfl ?_
      refine r_iload 1 dX1_receive_99 rfl ?_
      refine r_iload 0 dX1_receive_101 rfl ?_
      refine r_callV (K' := Y_X1_judge) (R' := R_X1_judge) (idx := 135) (n := 3) (b := a0) (as := [(0, x2), (0, x21), (0, x23)]) (rest := []) (C' := 0) (D' := 0) (cn := 1) rfl k0_X1_judge kV_X1_judge kl_X1_135 ⟨by decide, by decide⟩ dX1_receive_103 rfl rfl (Nat.le_of_ble_eq_true rfl) (by decide) (by decide) rfl h (fun r hr => m_X1_judge hl0 ⟨r, hr, hr⟩) (fun x25 τ26 _ h => ?_)
      refine r_pop dX1_receive_106 rfl ?_
      refine r_iconst (v := 1) dX1_receive_107 rfl rfl ?_
      exact r_zretc (by decide) rfl dX1_receive_108 h
  · refine r_aload_n 1 dX1_receive_19 rfl ?_
    refine r_iload_n 0 dX1_receive_20 rfl ?_
    refine r_iconst (v := 2) dX1_receive_21 rfl rfl ?_
    refine r_callV (K' := Y_X1_tally) (R' := R_X1_tally) (idx := 132) (n := 2) (b := a0) (as := [(0, x2), (0, 2)]) (rest := []) (C' := 0) (D' := 0) (cn := 1) rfl k0_X1_tally kV_X1_tally kl_X1_132 ⟨by decide, by decide⟩ dX1_receive_22 rfl rfl (Nat.le_of_ble_eq_true rfl) (by decide) (by decide) rfl h (fun r hr => m_X1_tally hl0 ⟨r, hr, hr⟩) (fun _ τ28 _ h => ?_)
    refine r_iconst (v := 0) dX1_receive_25 rfl rfl ?_
    exact r_zretc (by decide) rfl dX1_receive_26 h
theorem m_X1_receive {g : zF} (hl0 : g.2.2.2.1.stackTraces = false) {Q : zR × zS → Prop} {a0 a1 : Int} {σ : zS} (h : zo (f_X1_receive a0 a1 σ) Q) : zm g Y_X1_receive R_X1_receive [(4, a0), (0, a1)] σ Q := zm_of (by decide) rfl (Nat.le_of_ble_eq_true rfl) (t_X1_receive hl0 h)


/- X5_removeFirst -/

set_option maxRecDepth 100000 in
set_option maxHeartbeats 4000000 in
theorem t_X5_removeFirst {g : zF} (hl0 : g.2.2.2.1.stackTraces = false) {Q : zR × zS → Prop}   {a0 a1 : Int} {σ : zS} (h : zo (f_X5_removeFirst  a0 a1 σ) Q) : zw g Y_X5_removeFirst R_X5_removeFirst 0 [(0, (4, a0)), (1, (0, a1))] [] σ 0 0 Q := by
  unfold f_X5_removeFirst at h
  refine r_aload_n 0 dX5_removeFirst_0 rfl ?_
  refine r_iconst (v := 0) dX5_removeFirst_1 rfl rfl ?_
  refine r_iconst (v := 0) dX5_removeFirst_2 rfl rfl ?_
  refine r_iload_n 1 dX5_removeFirst_3 rfl ?_
  refine r_aload_n 0 dX5_removeFirst_4 rfl ?_
  refine r_getf fd_X5_15 rfl dX5_removeFirst_5 h (fun x1 h => ?_)
  refine r_mmin mq_X5_39 ⟨by decide, Nat.le_of_ble_eq_true rfl⟩ rfl dX5_removeFirst_8 ?_
  refine r_mmax mq_X5_44 ⟨by decide, Nat.le_of_ble_eq_true rfl⟩ rfl dX5_removeFirst_11 ?_
  refine r_callV (K' := Y_X5_closeGap) (R' := R_X5_closeGap) (idx := 35) (n := 2) (b := a0) (as := [(0, 0), (0, (max 0 (min a1 x1)))]) (rest := []) (C' := 0) (D' := 0) (cn := 5) rfl k0_X5_closeGap kV_X5_closeGap kl_X5_35 ⟨by decide, by decide⟩ dX5_removeFirst_14 rfl rfl (Nat.le_of_ble_eq_true rfl) (by decide) (by decide) rfl h (fun r hr => m_X5_closeGap hl0 ⟨r, hr, hr⟩) (fun _ τ3 _ h => ?_)
  exact r_vret rfl dX5_removeFirst_17 h
theorem m_X5_removeFirst {g : zF} (hl0 : g.2.2.2.1.stackTraces = false) {Q : zR × zS → Prop} {a0 a1 : Int} {σ : zS} (h : zo (f_X5_removeFirst a0 a1 σ) Q) : zm g Y_X5_removeFirst R_X5_removeFirst [(4, a0), (0, a1)] σ Q := zm_of (by decide) rfl (Nat.le_of_ble_eq_true rfl) (t_X5_removeFirst hl0 h)


/- X1_deliverFirst -/

set_option maxRecDepth 100000 in
set_option maxHeartbeats 4000000 in
theorem t_X1_deliverFirst_41 {g : zF} (hl0 : g.2.2.2.1.stackTraces = false) {Q : zR × zS → Prop}   {a0 a2 a3 : Int} {σ : zS} (h : zo (f_X1_deliverFirst_41  a0 a2 a3 σ) Q) : zw g Y_X1_deliverFirst R_X1_deliverFirst 41 [(0, (4, a0)), (2, (0, a2)), (3, (0, a3))] [] σ 0 0 Q := by
  unfold f_X1_deliverFirst_41 at h
  refine r_aload_n 0 dX1_deliverFirst_41 rfl ?_
  refine r_getr fd_X1_41 rfl dX1_deliverFirst_42 h (fun x1 h => ?_)
  refine r_iload_n 1 dX1_deliverFirst_45 rfl ?_
  refine r_callV (K' := Y_X5_removeFirst) (R' := R_X5_removeFirst) (idx := 170) (n := 1) (b := x1) (as := [(0, a2)]) (rest := []) (C' := 0) (D' := 0) (cn := 5) rfl k0_X5_removeFirst kV_X5_removeFirst kl_X1_170 ⟨by decide, by decide⟩ dX1_deliverFirst_46 rfl rfl (Nat.le_of_ble_eq_true rfl) (by decide) (by decide) rfl h (fun r hr => m_X5_removeFirst hl0 ⟨r, hr, hr⟩) (fun _ τ3 _ h => ?_)
  refine r_iload_n 2 dX1_deliverFirst_49 rfl ?_
  exact r_iret rfl dX1_deliverFirst_50 h

set_option maxRecDepth 100000 in
set_option maxHeartbeats 4000000 in
theorem t_X1_deliverFirst_35 {g : zF} (hl0 : g.2.2.2.1.stackTraces = false) {Q : zR × zS → Prop} (r17 : Int → Int → Int → Int → zS → zFn) (hr17 : ∀ b0 b2 b3 b4 τ, zo (r17 b0 b2 b3 b4 τ) Q → zw g Y_X1_deliverFirst R_X1_deliverFirst 17 [(0, (4, b0)), (2, (0, b2)), (3, (0, b3)), (4, (0, b4))] [] τ 0 0 Q) {a0 a2 a3 a4 : Int} {σ : zS} (h : zo (f_X1_deliverFirst_35 r17 a0 a2 a3 a4 σ) Q) : zw g Y_X1_deliverFirst R_X1_deliverFirst 35 [(0, (4, a0)), (2, (0, a2)), (3, (0, a3)), (4, (0, a4))] [] σ 0 0 Q := by
  unfold f_X1_deliverFirst_35 at h
  refine r_iinc (L' := [(4, (0, (w32 (a4 + 1)))), (0, (4, a0)), (2, (0, a2)), (3, (0, a3))]) 3 dX1_deliverFirst_35 rfl (by decide) rfl ?_
  refine r_goto 17 dX1_deliverFirst_38 (by decide) ?_
  refine r_weak (L' := [(0, (4, a0)), (2, (0, a2)), (3, (0, a3)), (4, (0, (w32 (a4 + 1))))]) [1, 2, 3, 0] rfl ?_
  exact hr17 _ _ _ _ _ h

set_option maxRecDepth 100000 in
set_option maxHeartbeats 4000000 in
theorem t_X1_deliverFirst_17 {g : zF} (hl0 : g.2.2.2.1.stackTraces = false) {Q : zR × zS → Prop}   : ∀ (n : Nat) (a0 a2 a3 a4 : Int) (σ : zS), zo (f_X1_deliverFirst_17  n a0 a2 a3 a4 σ) Q → zw g Y_X1_deliverFirst R_X1_deliverFirst 17 [(0, (4, a0)), (2, (0, a2)), (3, (0, a3)), (4, (0, a4))] [] σ 0 0 Q := by
  intro n
  induction n with
  | zero => intro a0 a2 a3 a4 σ h; obtain ⟨r, h, -⟩ := h; cases h
  | succ n ih =>
    intro a0 a2 a3 a4 σ h
    unfold f_X1_deliverFirst_17 at h
    refine r_iload 3 dX1_deliverFirst_17 rfl ?_
    refine r_iload_n 1 dX1_deliverFirst_19 rfl ?_
    refine r_icmp_ge 41 dX1_deliverFirst_20 (by decide) h (fun h => ?_) (fun h => ?_)
    · refine r_weak (L' := [(0, (4, a0)), (2, (0, a2)), (3, (0, a3))]) [0, 1, 2] rfl ?_
      exact t_X1_deliverFirst_41 hl0   h
    · refine r_aload_n 0 dX1_deliverFirst_23 rfl ?_
      refine r_iload 3 dX1_deliverFirst_24 rfl ?_
      refine r_callV (K' := Y_X1_receive) (R' := R_X1_receive) (idx := 166) (n := 1) (b := a0) (as := [(0, a4)]) (rest := []) (C' := 0) (D' := 0) (cn := 1) rfl k0_X1_receive kV_X1_receive kl_X1_166 ⟨by decide, by decide⟩ dX1_deliverFirst_26 rfl rfl (Nat.le_of_ble_eq_true rfl) (by decide) (by decide) rfl h (fun r hr => m_X1_receive hl0 ⟨r, hr, hr⟩) (fun x1 τ2 _ h => ?_)
      refine r_if_eq 35 dX1_deliverFirst_29 (by decide) h (fun h => ?_) (fun h => ?_)
      · exact t_X1_deliverFirst_35 hl0 (f_X1_deliverFirst_17  n) (fun b0 b2 b3 b4 τ h => ih b0 b2 b3 b4 τ h) h
      · refine r_iinc (L' := [(3, (0, (w32 (a3 + 1)))), (0, (4, a0)), (2, (0, a2)), (4, (0, a4))]) 2 dX1_deliverFirst_32 rfl (by decide) rfl ?_
        refine r_weak (L' := [(0, (4, a0)), (2, (0, a2)), (3, (0, (w32 (a3 + 1)))), (4, (0, a4))]) [1, 2, 0, 3] rfl ?_
        exact t_X1_deliverFirst_35 hl0 (f_X1_deliverFirst_17  n) (fun b0 b2 b3 b4 τ h => ih b0 b2 b3 b4 τ h) h

set_option maxRecDepth 100000 in
set_option maxHeartbeats 4000000 in
theorem t_X1_deliverFirst {g : zF} (hl0 : g.2.2.2.1.stackTraces = false) {Q : zR × zS → Prop}   {a0 a1 : Int} {σ : zS} (h : zo (f_X1_deliverFirst  a0 a1 σ) Q) : zw g Y_X1_deliverFirst R_X1_deliverFirst 0 [(0, (4, a0)), (1, (0, a1))] [] σ 0 0 Q := by
  unfold f_X1_deliverFirst at h
  refine r_iload_n 1 dX1_deliverFirst_0 rfl ?_
  refine r_aload_n 0 dX1_deliverFirst_1 rfl ?_
  refine r_getr fd_X1_41 rfl dX1_deliverFirst_2 h (fun x1 h => ?_)
  refine r_getf fd_X1_71 rfl dX1_deliverFirst_5 h (fun x2 h => ?_)
  refine r_mmin mq_X1_83 ⟨by decide, Nat.le_of_ble_eq_true rfl⟩ rfl dX1_deliverFirst_8 ?_
  refine r_istore_n (L' := [(2, (0, (min a1 x2))), (0, (4, a0)), (1, (0, a1))]) dX1_deliverFirst_11 (by decide) rfl ?_
  refine r_iconst (v := 0) dX1_deliverFirst_12 rfl rfl ?_
  refine r_istore_n (L' := [(3, (0, 0)), (2, (0, (min a1 x2))), (0, (4, a0)), (1, (0, a1))]) dX1_deliverFirst_13 (by decide) rfl ?_
  refine r_iconst (v := 0) dX1_deliverFirst_14 rfl rfl ?_
  refine r_istore (L' := [(4, (0, 0)), (3, (0, 0)), (2, (0, (min a1 x2))), (0, (4, a0)), (1, (0, a1))]) dX1_deliverFirst_15 (by decide) rfl ?_
  refine r_weak (L' := [(0, (4, a0)), (2, (0, (min a1 x2))), (3, (0, 0)), (4, (0, 0))]) [3, 2, 1, 0] rfl ?_
  exact t_X1_deliverFirst_17 hl0   zFU _ _ _ _ _ h
theorem m_X1_deliverFirst {g : zF} (hl0 : g.2.2.2.1.stackTraces = false) {Q : zR × zS → Prop} {a0 a1 : Int} {σ : zS} (h : zo (f_X1_deliverFirst a0 a1 σ) Q) : zm g Y_X1_deliverFirst R_X1_deliverFirst [(4, a0), (0, a1)] σ Q := zm_of (by decide) rfl (Nat.le_of_ble_eq_true rfl) (t_X1_deliverFirst hl0 h)


/- X1_makeRounds -/

set_option maxRecDepth 100000 in
set_option maxHeartbeats 4000000 in
theorem t_X1_makeRounds_42 {g : zF} (hl0 : g.2.2.2.1.stackTraces = false) {Q : zR × zS → Prop} (r4 : Int → Int → Int → Int → zS → zFn) (hr4 : ∀ b0 b1 b2 b3 τ, zo (r4 b0 b1 b2 b3 τ) Q → zw g Y_X1_makeRounds R_X1_makeRounds 4 [(0, (4, b0)), (1, (0, b1)), (2, (0, b2)), (3, (0, b3))] [] τ 0 0 Q) {a0 a1 a2 a3 : Int} {σ : zS} (h : zo (f_X1_makeRounds_42 r4 a0 a1 a2 a3 σ) Q) : zw g Y_X1_makeRounds R_X1_makeRounds 42 [(0, (4, a0)), (1, (0, a1)), (2, (0, a2)), (3, (0, a3))] [] σ 0 0 Q := by
  unfold f_X1_makeRounds_42 at h
  refine r_iload_n 2 dX1_makeRounds_42 rfl ?_
  refine r_aload_n 0 dX1_makeRounds_43 rfl ?_
  refine r_aload_n 0 dX1_makeRounds_44 rfl ?_
  refine r_getr fd_X1_41 rfl dX1_makeRounds_45 h (fun x1 h => ?_)
  refine r_getf fd_X1_71 rfl dX1_makeRounds_48 h (fun x2 h => ?_)
  refine r_callV (K' := Y_X1_deliverFirst) (R' := R_X1_deliverFirst) (idx := 179) (n := 1) (b := a0) (as := [(0, x2)]) (rest := [(0, a2)]) (C' := 0) (D' := 0) (cn := 1) rfl k0_X1_deliverFirst kV_X1_deliverFirst kl_X1_179 ⟨by decide, by decide⟩ dX1_makeRounds_51 rfl rfl (Nat.le_of_ble_eq_true rfl) (by decide) (by decide) rfl h (fun r hr => m_X1_deliverFirst hl0 ⟨r, hr, hr⟩) (fun x3 τ4 _ h => ?_)
  refine r_iadd dX1_makeRounds_54 ?_
  refine r_istore_n (L' := [(2, (0, (w32 (a2 + x3)))), (0, (4, a0)), (1, (0, a1)), (3, (0, a3))]) dX1_makeRounds_55 (by decide) rfl ?_
  refine r_iinc (L' := [(3, (0, (w32 (a3 + 1)))), (2, (0, (w32 (a2 + x3)))), (0, (4, a0)), (1, (0, a1))]) 3 dX1_makeRounds_56 rfl (by decide) rfl ?_
  refine r_goto 4 dX1_makeRounds_59 (by decide) ?_
  refine r_weak (L' := [(0, (4, a0)), (1, (0, a1)), (2, (0, (w32 (a2 + x3)))), (3, (0, (w32 (a3 + 1))))]) [2, 3, 1, 0] rfl ?_
  exact hr4 _ _ _ _ _ h

set_option maxRecDepth 100000 in
set_option maxHeartbeats 4000000 in
theorem t_X1_makeRounds_12 {g : zF} (hl0 : g.2.2.2.1.stackTraces = false) {Q : zR × zS → Prop} (r4 : Int → Int → Int → Int → zS → zFn) (hr4 : ∀ b0 b1 b2 b3 τ, zo (r4 b0 b1 b2 b3 τ) Q → zw g Y_X1_makeRounds R_X1_makeRounds 4 [(0, (4, b0)), (1, (0, b1)), (2, (0, b2)), (3, (0, b3))] [] τ 0 0 Q) : ∀ (n : Nat) (a0 a1 a2 a3 a4 : Int) (σ : zS), zo (f_X1_makeRounds_12 r4 n a0 a1 a2 a3 a4 σ) Q → zw g Y_X1_makeRounds R_X1_makeRounds 12 [(0, (4, a0)), (1, (0, a1)), (2, (0, a2)), (3, (0, a3)), (4, (0, a4))] [] σ 0 0 Q := by
  intro n
  induction n with
  | zero => intro a0 a1 a2 a3 a4 σ h; obtain ⟨r, h, -⟩ := h; cases h
  | succ n ih =>
    intro a0 a1 a2 a3 a4 σ h
    unfold f_X1_makeRounds_12 at h
    refine r_iload 4 dX1_makeRounds_12 rfl ?_
    refine r_aload_n 0 dX1_makeRounds_14 rfl ?_
    refine r_getr fd_X1_18 rfl dX1_makeRounds_15 h (fun x1 h => ?_)
    refine r_getf fd_X1_57 rfl dX1_makeRounds_18 h (fun x2 h => ?_)
    refine r_icmp_ge 42 dX1_makeRounds_21 (by decide) h (fun h => ?_) (fun h => ?_)
    · refine r_weak (L' := [(0, (4, a0)), (1, (0, a1)), (2, (0, a2)), (3, (0, a3))]) [0, 1, 2, 3] rfl ?_
      exact t_X1_makeRounds_42 hl0 r4 hr4 h
    · refine r_aload_n 0 dX1_makeRounds_24 rfl ?_
      refine r_iload 4 dX1_makeRounds_25 rfl ?_
      refine r_aload_n 0 dX1_makeRounds_27 rfl ?_
      refine r_iconst (v := 4) dX1_makeRounds_28 rfl rfl ?_
      refine r_callV (K' := Y_X1_rule) (R' := R_X1_rule) (idx := 75) (n := 1) (b := a0) (as := [(0, 4)]) (rest := [(0, a4), (4, a0)]) (C' := 0) (D' := 0) (cn := 1) rfl k0_X1_rule kV_X1_rule kl_X1_75 ⟨by decide, by decide⟩ dX1_makeRounds_29 rfl rfl (Nat.le_of_ble_eq_true rfl) (by decide) (by decide) rfl h (fun r hr => m_X1_rule hl0 ⟨r, hr, hr⟩) (fun x3 τ4 _ h => ?_)
      refine r_callV (K' := Y_X1_sendReports) (R' := R_X1_sendReports) (idx := 176) (n := 2) (b := a0) (as := [(0, a4), (0, x3)]) (rest := []) (C' := 0) (D' := 0) (cn := 1) rfl k0_X1_sendReports kV_X1_sendReports kl_X1_176 ⟨by decide, by decide⟩ dX1_makeRounds_32 rfl rfl (Nat.le_of_ble_eq_true rfl) (by decide) (by decide) rfl h (fun r hr => m_X1_sendReports hl0 ⟨r, hr, hr⟩) (fun x5 τ6 _ h => ?_)
      refine r_pop dX1_makeRounds_35 rfl ?_
      refine r_iinc (L' := [(4, (0, (w32 (a4 + 1)))), (0, (4, a0)), (1, (0, a1)), (2, (0, a2)), (3, (0, a3))]) 4 dX1_makeRounds_36 rfl (by decide) rfl ?_
      refine r_goto 12 dX1_makeRounds_39 (by decide) ?_
      refine r_weak (L' := [(0, (4, a0)), (1, (0, a1)), (2, (0, a2)), (3, (0, a3)), (4, (0, (w32 (a4 + 1))))]) [1, 2, 3, 4, 0] rfl ?_
      exact ih _ _ _ _ _ _ h

set_option maxRecDepth 100000 in
set_option maxHeartbeats 4000000 in
theorem t_X1_makeRounds_4 {g : zF} (hl0 : g.2.2.2.1.stackTraces = false) {Q : zR × zS → Prop}   : ∀ (n : Nat) (a0 a1 a2 a3 : Int) (σ : zS), zo (f_X1_makeRounds_4  n a0 a1 a2 a3 σ) Q → zw g Y_X1_makeRounds R_X1_makeRounds 4 [(0, (4, a0)), (1, (0, a1)), (2, (0, a2)), (3, (0, a3))] [] σ 0 0 Q := by
  intro n
  induction n with
  | zero => intro a0 a1 a2 a3 σ h; obtain ⟨r, h, -⟩ := h; cases h
  | succ n ih =>
    intro a0 a1 a2 a3 σ h
    unfold f_X1_makeRounds_4 at h
    refine r_iload_n 3 dX1_makeRounds_4 rfl ?_
    refine r_iload_n 1 dX1_makeRounds_5 rfl ?_
    refine r_icmp_ge 62 dX1_makeRounds_6 (by decide) h (fun h => ?_) (fun h => ?_)
    · refine r_iload_n 2 dX1_makeRounds_62 rfl ?_
      exact r_iret rfl dX1_makeRounds_63 h
    · refine r_iconst (v := 0) dX1_makeRounds_9 rfl rfl ?_
      refine r_istore (L' := [(4, (0, 0)), (0, (4, a0)), (1, (0, a1)), (2, (0, a2)), (3, (0, a3))]) dX1_makeRounds_10 (by decide) rfl ?_
      refine r_weak (L' := [(0, (4, a0)), (1, (0, a1)), (2, (0, a2)), (3, (0, a3)), (4, (0, 0))]) [1, 2, 3, 4, 0] rfl ?_
      exact t_X1_makeRounds_12 hl0 (f_X1_makeRounds_4  n) (fun b0 b1 b2 b3 τ h => ih b0 b1 b2 b3 τ h) zFU _ _ _ _ _ _ h

set_option maxRecDepth 100000 in
set_option maxHeartbeats 4000000 in
theorem t_X1_makeRounds {g : zF} (hl0 : g.2.2.2.1.stackTraces = false) {Q : zR × zS → Prop}   {a0 a1 : Int} {σ : zS} (h : zo (f_X1_makeRounds  a0 a1 σ) Q) : zw g Y_X1_makeRounds R_X1_makeRounds 0 [(0, (4, a0)), (1, (0, a1))] [] σ 0 0 Q := by
  unfold f_X1_makeRounds at h
  refine r_iconst (v := 0) dX1_makeRounds_0 rfl rfl ?_
  refine r_istore_n (L' := [(2, (0, 0)), (0, (4, a0)), (1, (0, a1))]) dX1_makeRounds_1 (by decide) rfl ?_
  refine r_iconst (v := 0) dX1_makeRounds_2 rfl rfl ?_
  refine r_istore_n (L' := [(3, (0, 0)), (2, (0, 0)), (0, (4, a0)), (1, (0, a1))]) dX1_makeRounds_3 (by decide) rfl ?_
  refine r_weak (L' := [(0, (4, a0)), (1, (0, a1)), (2, (0, 0)), (3, (0, 0))]) [2, 3, 1, 0] rfl ?_
  exact t_X1_makeRounds_4 hl0   zFU _ _ _ _ _ h
theorem m_X1_makeRounds {g : zF} (hl0 : g.2.2.2.1.stackTraces = false) {Q : zR × zS → Prop} {a0 a1 : Int} {σ : zS} (h : zo (f_X1_makeRounds a0 a1 σ) Q) : zm g Y_X1_makeRounds R_X1_makeRounds [(4, a0), (0, a1)] σ Q := zm_of (by decide) rfl (Nat.le_of_ble_eq_true rfl) (t_X1_makeRounds hl0 h)


/- X1_letPass -/

set_option maxRecDepth 100000 in
set_option maxHeartbeats 4000000 in
theorem t_X1_letPass_73 {g : zF} (hl0 : g.2.2.2.1.stackTraces = false) {Q : zR × zS → Prop} (r14 : Int → Int → Int → zS → zFn) (hr14 : ∀ b0 b2 b3 τ, zo (r14 b0 b2 b3 τ) Q → zw g Y_X1_letPass R_X1_letPass 14 [(0, (4, b0)), (2, (0, b2)), (3, (0, b3))] [] τ 0 0 Q) {a0 a2 a3 : Int} {σ : zS} (h : zo (f_X1_letPass_73 r14 a0 a2 a3 σ) Q) : zw g Y_X1_letPass R_X1_letPass 73 [(0, (4, a0)), (2, (0, a2)), (3, (0, a3))] [] σ 0 0 Q := by
  unfold f_X1_letPass_73 at h
  refine r_iinc (L' := [(3, (0, (w32 (a3 + 1)))), (0, (4, a0)), (2, (0, a2))]) 2 dX1_letPass_73 rfl (by decide) rfl ?_
  refine r_goto 14 dX1_letPass_76 (by decide) ?_
  refine r_weak (L' := [(0, (4, a0)), (2, (0, a2)), (3, (0, (w32 (a3 + 1))))]) [1, 2, 0] rfl ?_
  exact hr14 _ _ _ _ h

set_option maxRecDepth 100000 in
set_option maxHeartbeats 4000000 in
theorem t_X1_letPass_67 {g : zF} (hl0 : g.2.2.2.1.stackTraces = false) {Q : zR × zS → Prop} (r14 : Int → Int → Int → zS → zFn) (r41 : Int → Int → Int → Int → Int → zS → zFn) (hr14 : ∀ b0 b2 b3 τ, zo (r14 b0 b2 b3 τ) Q → zw g Y_X1_letPass R_X1_letPass 14 [(0, (4, b0)), (2, (0, b2)), (3, (0, b3))] [] τ 0 0 Q) (hr41 : ∀ b0 b2 b3 b4 b5 τ, zo (r41 b0 b2 b3 b4 b5 τ) Q → zw g Y_X1_letPass R_X1_letPass 41 [(0, (4, b0)), (2, (0, b2)), (3, (0, b3)), (4, (4, b4)), (5, (0, b5))] [] τ 0 0 Q) {a0 a2 a3 a4 a5 : Int} {σ : zS} (h : zo (f_X1_letPass_67 r14 r41 a0 a2 a3 a4 a5 σ) Q) : zw g Y_X1_letPass R_X1_letPass 67 [(0, (4, a0)), (2, (0, a2)), (3, (0, a3)), (4, (4, a4)), (5, (0, a5))] [] σ 0 0 Q := by
  unfold f_X1_letPass_67 at h
  refine r_iinc (L' := [(5, (0, (w32 (a5 + (-1))))), (0, (4, a0)), (2, (0, a2)), (3, (0, a3)), (4, (4, a4))]) 4 dX1_letPass_67 rfl (by decide) rfl ?_
  refine r_goto 41 dX1_letPass_70 (by decide) ?_
  refine r_weak (L' := [(0, (4, a0)), (2, (0, a2)), (3, (0, a3)), (4, (4, a4)), (5, (0, (w32 (a5 + (-1)))))]) [1, 2, 3, 4, 0] rfl ?_
  exact hr41 _ _ _ _ _ _ h

set_option maxRecDepth 100000 in
set_option maxHeartbeats 4000000 in
theorem t_X1_letPass_41 {g : zF} (hl0 : g.2.2.2.1.stackTraces = false) {Q : zR × zS → Prop} (r14 : Int → Int → Int → zS → zFn) (hr14 : ∀ b0 b2 b3 τ, zo (r14 b0 b2 b3 τ) Q → zw g Y_X1_letPass R_X1_letPass 14 [(0, (4, b0)), (2, (0, b2)), (3, (0, b3))] [] τ 0 0 Q) : ∀ (n : Nat) (a0 a2 a3 a4 a5 : Int) (σ : zS), zo (f_X1_letPass_41 r14 n a0 a2 a3 a4 a5 σ) Q → zw g Y_X1_letPass R_X1_letPass 41 [(0, (4, a0)), (2, (0, a2)), (3, (0, a3)), (4, (4, a4)), (5, (0, a5))] [] σ 0 0 Q := by
  intro n
  induction n with
  | zero => intro a0 a2 a3 a4 a5 σ h; obtain ⟨r, h, -⟩ := h; cases h
  | succ n ih =>
    intro a0 a2 a3 a4 a5 σ h
    unfold f_X1_letPass_41 at h
    refine r_iload 4 dX1_letPass_41 rfl ?_
    refine r_if_lt 73 dX1_letPass_43 (by decide) h (fun h => ?_) (fun h => ?_)
    · refine r_weak (L' := [(0, (4, a0)), (2, (0, a2)), (3, (0, a3))]) [0, 1, 2] rfl ?_
      exact t_X1_letPass_73 hl0 r14 hr14 h
    · refine r_aload_n 0 dX1_letPass_46 rfl ?_
      refine r_aload 3 dX1_letPass_47 rfl ?_
      refine r_iload 4 dX1_letPass_49 rfl ?_
      refine r_callV (K' := Y_X1_isTooOld) (R' := R_X1_isTooOld) (idx := 162) (n := 2) (b := a0) (as := [(4, a4), (0, a5)]) (rest := []) (C' := 0) (D' := 0) (cn := 1) rfl k0_X1_isTooOld kV_X1_isTooOld kl_X1_162 ⟨by decide, by decide⟩ dX1_letPass_51 rfl rfl (Nat.le_of_ble_eq_true rfl) (by decide) (by decide) rfl h (fun r hr => m_X1_isTooOld hl0 ⟨r, hr, hr⟩) (fun x1 τ2 _ h => ?_)
      refine r_if_eq 67 dX1_letPass_54 (by decide) h (fun h => ?_) (fun h => ?_)
      · exact t_X1_letPass_67 hl0 r14 (f_X1_letPass_41 r14 n) hr14 (fun b0 b2 b3 b4 b5 τ h => ih b0 b2 b3 b4 b5 τ h) h
      · refine r_aload 3 dX1_letPass_57 rfl ?_
        refine r_iload 4 dX1_letPass_59 rfl ?_
        refine r_callV (K' := Y_X5_removeRow) (R' := R_X5_removeRow) (idx := 121) (n := 1) (b := a4) (as := [(0, a5)]) (rest := []) (C' := 0) (D' := 0) (cn := 5) rfl k0_X5_removeRow kV_X5_removeRow kl_X1_121 ⟨by decide, by decide⟩ dX1_letPass_61 rfl rfl (Nat.le_of_ble_eq_true rfl) (by decide) (by decide) rfl h (fun r hr => m_X5_removeRow hl0 ⟨r, hr, hr⟩) (fun _ τ4 _ h => ?_)
        refine r_iinc (L' := [(2, (0, (w32 (a2 + 1)))), (0, (4, a0)), (3, (0, a3)), (4, (4, a4)), (5, (0, a5))]) 1 dX1_letPass_64 rfl (by decide) rfl ?_
        refine r_weak (L' := [(0, (4, a0)), (2, (0, (w32 (a2 + 1)))), (3, (0, a3)), (4, (4, a4)), (5, (0, a5))]) [1, 0, 2, 3, 4] rfl ?_
        exact t_X1_letPass_67 hl0 r14 (f_X1_letPass_41 r14 n) hr14 (fun b0 b2 b3 b4 b5 τ h => ih b0 b2 b3 b4 b5 τ h) h

set_option maxRecDepth 100000 in
set_option maxHeartbeats 4000000 in
theorem t_X1_letPass_14 {g : zF} (hl0 : g.2.2.2.1.stackTraces = false) {Q : zR × zS → Prop}   : ∀ (n : Nat) (a0 a2 a3 : Int) (σ : zS), zo (f_X1_letPass_14  n a0 a2 a3 σ) Q → zw g Y_X1_letPass R_X1_letPass 14 [(0, (4, a0)), (2, (0, a2)), (3, (0, a3))] [] σ 0 0 Q := by
  intro n
  induction n with
  | zero => intro a0 a2 a3 σ h; obtain ⟨r, h, -⟩ := h; cases h
  | succ n ih =>
    intro a0 a2 a3 σ h
    unfold f_X1_letPass_14 at h
    refine r_iload_n 2 dX1_letPass_14 rfl ?_
    refine r_aload_n 0 dX1_letPass_15 rfl ?_
    refine r_getr fd_X1_18 rfl dX1_letPass_16 h (fun x1 h => ?_)
    refine r_getf fd_X1_57 rfl dX1_letPass_19 h (fun x2 h => ?_)
    refine r_icmp_ge 79 dX1_letPass_22 (by decide) h (fun h => ?_) (fun h => ?_)
    · refine r_iload_n 1 dX1_letPass_79 rfl ?_
      exact r_iret rfl dX1_letPass_80 h
    · refine r_aload_n 0 dX1_letPass_25 rfl ?_
      refine r_iload_n 2 dX1_letPass_26 rfl ?_
      refine r_callV (K' := Y_X1_listOf) (R' := R_X1_listOf) (idx := 67) (n := 1) (b := a0) (as := [(0, a3)]) (rest := []) (C' := 0) (D' := 0) (cn := 1) rfl k0_X1_listOf kV_X1_listOf kl_X1_67 ⟨by decide, by decide⟩ dX1_letPass_27 rfl rfl (Nat.le_of_ble_eq_true rfl) (by decide) (by decide) rfl h (fun r hr => m_X1_listOf hl0 ⟨r, hr, hr⟩) (fun x3 τ4 _ h => ?_)
      refine r_astore (L' := [(4, (4, x3)), (0, (4, a0)), (2, (0, a2)), (3, (0, a3))]) dX1_letPass_30 (by decide) rfl ?_
      refine r_aload 0 dX1_letPass_32 rfl ?_
      refine r_getf fd_X1_71 rfl dX1_letPass_34 h (fun x5 h => ?_)
      refine r_iconst (v := 1) dX1_letPass_37 rfl rfl ?_
      refine r_isub dX1_letPass_38 ?_
      refine r_istore (L' := [(5, (0, (w32 (x5 - 1)))), (4, (4, x3)), (0, (4, a0)), (2, (0, a2)), (3, (0, a3))]) dX1_letPass_39 (by decide) rfl ?_
      refine r_weak (L' := [(0, (4, a0)), (2, (0, a2)), (3, (0, a3)), (4, (4, x3)), (5, (0, (w32 (x5 - 1))))]) [2, 3, 4, 1, 0] rfl ?_
      exact t_X1_letPass_41 hl0 (f_X1_letPass_14  n) (fun b0 b2 b3 τ h => ih b0 b2 b3 τ h) zFU _ _ _ _ _ _ h

set_option maxRecDepth 100000 in
set_option maxHeartbeats 4000000 in
theorem t_X1_letPass {g : zF} (hl0 : g.2.2.2.1.stackTraces = false) {Q : zR × zS → Prop}   {a0 a1 : Int} {σ : zS} (h : zo (f_X1_letPass  a0 a1 σ) Q) : zw g Y_X1_letPass R_X1_letPass 0 [(0, (4, a0)), (1, (0, a1))] [] σ 0 0 Q := by
  unfold f_X1_letPass at h
  refine r_aload_n 0 dX1_letPass_0 rfl ?_
  refine r_dup dX1_letPass_1 rfl ?_
  refine r_getf fd_X1_72 rfl dX1_letPass_2 h (fun x1 h => ?_)
  refine r_iload_n 1 dX1_letPass_5 rfl ?_
  refine r_iadd dX1_letPass_6 ?_
  refine r_putf fd_X1_72 fp_X1_letPass_72 dX1_letPass_7 h (fun τ2 h => ?_)
  refine r_iconst (v := 0) dX1_letPass_10 rfl rfl ?_
  refine r_istore_n (L' := [(2, (0, 0)), (0, (4, a0)), (1, (0, a1))]) dX1_letPass_11 (by decide) rfl ?_
  refine r_iconst (v := 0) dX1_letPass_12 rfl rfl ?_
  refine r_istore_n (L' := [(3, (0, 0)), (2, (0, 0)), (0, (4, a0)), (1, (0, a1))]) dX1_letPass_13 (by decide) rfl ?_
  refine r_weak (L' := [(0, (4, a0)), (2, (0, 0)), (3, (0, 0))]) [2, 1, 0] rfl ?_
  exact t_X1_letPass_14 hl0   zFU _ _ _ _ h
theorem m_X1_letPass {g : zF} (hl0 : g.2.2.2.1.stackTraces = false) {Q : zR × zS → Prop} {a0 a1 : Int} {σ : zS} (h : zo (f_X1_letPass a0 a1 σ) Q) : zm g Y_X1_letPass R_X1_letPass [(4, a0), (0, a1)] σ Q := zm_of (by decide) rfl (Nat.le_of_ble_eq_true rfl) (t_X1_letPass hl0 h)


/- X2_init -/

set_option maxRecDepth 100000 in
set_option maxHeartbeats 4000000 in
theorem t_X2_init {g : zF} (hl0 : g.2.2.2.1.stackTraces = false) {Q : zR × zS → Prop}   {a0 : Int} {σ : zS} (h : zo (f_X2_init  a0 σ) Q) : zw g Y_X2_init R_X2_init 0 [(0, (4, a0))] [] σ 1 6 Q := by
  unfold f_X2_init at h
  refine r_aload_n 0 dX2_init_0 rfl ?_
  refine r_objinit oi_X2_3 ⟨by decide, Nat.le_of_ble_eq_true rfl⟩ dX2_init_1 h (fun h => ?_)
  refine r_aload_n 0 dX2_init_4 rfl ?_
  refine r_bipush (v := 6) dX2_init_5 rfl rfl ?_
  refine r_anew7 (C' := 0) (D' := 0) (N := 6) wd_391 wd_392 dX2_init_7 (by decide) (by decide) (by decide) h (fun x1 τ2 h => ?_)
  refine r_putr fd_X2_11 fp_X2_init_11 dX2_init_10 h (fun τ3 h => ?_)
  exact r_vret rfl dX2_init_13 h
theorem m_X2_init {g : zF} (hl0 : g.2.2.2.1.stackTraces = false) {Q : zR × zS → Prop} {a0 : Int} {σ : zS} (h : zo (f_X2_init a0 σ) Q) : zm g Y_X2_init R_X2_init [(4, a0)] σ Q := zm_of (by decide) rfl (Nat.le_of_ble_eq_true rfl) (t_X2_init hl0 h)


/- X2_dropOldest -/

set_option maxRecDepth 100000 in
set_option maxHeartbeats 4000000 in
theorem t_X2_dropOldest_47 {g : zF} (hl0 : g.2.2.2.1.stackTraces = false) {Q : zR × zS → Prop}   {a0 : Int} {σ : zS} (h : zo (f_X2_dropOldest_47  a0 σ) Q) : zw g Y_X2_dropOldest R_X2_dropOldest 47 [(0, (4, a0))] [] σ 0 0 Q := by
  unfold f_X2_dropOldest_47 at h
  refine r_aload_n 0 dX2_dropOldest_47 rfl ?_
  refine r_dup dX2_dropOldest_48 rfl ?_
  refine r_getf fd_X2_17 rfl dX2_dropOldest_49 h (fun x1 h => ?_)
  refine r_iconst (v := 1) dX2_dropOldest_52 rfl rfl ?_
  refine r_isub dX2_dropOldest_53 ?_
  refine r_putf fd_X2_17 fp_X2_dropOldest_17 dX2_dropOldest_54 h (fun τ2 h => ?_)
  exact r_vret rfl dX2_dropOldest_57 h

set_option maxRecDepth 100000 in
set_option maxHeartbeats 4000000 in
theorem t_X2_dropOldest_2 {g : zF} (hl0 : g.2.2.2.1.stackTraces = false) {Q : zR × zS → Prop}   : ∀ (n : Nat) (a0 a1 : Int) (σ : zS), zo (f_X2_dropOldest_2  n a0 a1 σ) Q → zw g Y_X2_dropOldest R_X2_dropOldest 2 [(0, (4, a0)), (1, (0, a1))] [] σ 0 0 Q := by
  intro n
  induction n with
  | zero => intro a0 a1 σ h; obtain ⟨r, h, -⟩ := h; cases h
  | succ n ih =>
    intro a0 a1 σ h
    unfold f_X2_dropOldest_2 at h
    refine r_iload_n 1 dX2_dropOldest_2 rfl ?_
    refine r_aload_n 0 dX2_dropOldest_3 rfl ?_
    refine r_getr fd_X2_11 rfl dX2_dropOldest_4 h (fun x1 h => ?_)
    refine r_alen dX2_dropOldest_7 h (fun x2 h => ?_)
    refine r_icmp_ge 47 dX2_dropOldest_8 (by decide) h (fun h => ?_) (fun h => ?_)
    · refine r_weak (L' := [(0, (4, a0))]) [0] rfl ?_
      exact t_X2_dropOldest_47 hl0   h
    · refine r_aload_n 0 dX2_dropOldest_11 rfl ?_
      refine r_getr fd_X2_11 rfl dX2_dropOldest_12 h (fun x3 h => ?_)
      refine r_iload_n 1 dX2_dropOldest_15 rfl ?_
      refine r_iconst (v := 1) dX2_dropOldest_16 rfl rfl ?_
      refine r_isub dX2_dropOldest_17 ?_
      refine r_aald7 dX2_dropOldest_18 h (fun x4 h => ?_)
      refine r_astore_n (L' := [(2, (4, x4)), (0, (4, a0)), (1, (0, a1))]) dX2_dropOldest_19 (by decide) rfl ?_
      refine r_aload_n 1 dX2_dropOldest_20 rfl ?_
      refine r_getr fd_X2_11 rfl dX2_dropOldest_21 h (fun x5 h => ?_)
      refine r_iload_n 2 dX2_dropOldest_24 rfl ?_
      refine r_iconst (v := 1) dX2_dropOldest_25 rfl rfl ?_
      refine r_isub dX2_dropOldest_26 ?_
      refine r_aload_n 1 dX2_dropOldest_27 rfl ?_
      refine r_getr fd_X2_11 rfl dX2_dropOldest_28 h (fun x6 h => ?_)
      refine r_iload_n 2 dX2_dropOldest_31 rfl ?_
      refine r_aald7 dX2_dropOldest_32 h (fun x7 h => ?_)
      refine r_aast7 dX2_dropOldest_33 h (fun τ8 h => ?_)
      refine r_aload_n 1 dX2_dropOldest_34 rfl ?_
      refine r_getr fd_X2_11 rfl dX2_dropOldest_35 h (fun x9 h => ?_)
      refine r_iload_n 2 dX2_dropOldest_38 rfl ?_
      refine r_aload_n 0 dX2_dropOldest_39 rfl ?_
      refine r_aast7 dX2_dropOldest_40 h (fun τ10 h => ?_)
      refine r_iinc (L' := [(1, (0, (w32 (a1 + 1)))), (2, (4, x4)), (0, (4, a0))]) 2 dX2_dropOldest_41 rfl (by decide) rfl ?_
      refine r_goto 2 dX2_dropOldest_44 (by decide) ?_
      refine r_weak (L' := [(0, (4, a0)), (1, (0, (w32 (a1 + 1))))]) [2, 0] rfl ?_
      exact ih _ _ _ h

set_option maxRecDepth 100000 in
set_option maxHeartbeats 4000000 in
theorem t_X2_dropOldest {g : zF} (hl0 : g.2.2.2.1.stackTraces = false) {Q : zR × zS → Prop}   {a0 : Int} {σ : zS} (h : zo (f_X2_dropOldest  a0 σ) Q) : zw g Y_X2_dropOldest R_X2_dropOldest 0 [(0, (4, a0))] [] σ 0 0 Q := by
  unfold f_X2_dropOldest at h
  refine r_iconst (v := 1) dX2_dropOldest_0 rfl rfl ?_
  refine r_istore_n (L' := [(1, (0, 1)), (0, (4, a0))]) dX2_dropOldest_1 (by decide) rfl ?_
  refine r_weak (L' := [(0, (4, a0)), (1, (0, 1))]) [1, 0] rfl ?_
  exact t_X2_dropOldest_2 hl0   zFU _ _ _ h
theorem m_X2_dropOldest {g : zF} (hl0 : g.2.2.2.1.stackTraces = false) {Q : zR × zS → Prop} {a0 : Int} {σ : zS} (h : zo (f_X2_dropOldest a0 σ) Q) : zm g Y_X2_dropOldest R_X2_dropOldest [(4, a0)] σ Q := zm_of (by decide) rfl (Nat.le_of_ble_eq_true rfl) (t_X2_dropOldest hl0 h)


/- X2_push -/

set_option maxRecDepth 100000 in
set_option maxHeartbeats 4000000 in
theorem t_X2_push_67 {g : zF} (hl0 : g.2.2.2.1.stackTraces = false) {Q : zR × zS → Prop}   {a0 a1 a2 : Int} {σ : zS} (h : zo (f_X2_push_67  a0 a1 a2 σ) Q) : zw g Y_X2_push R_X2_push 67 [(0, (4, a0)), (1, (4, a1)), (2, (4, a2))] [] σ 0 0 Q := by
  unfold f_X2_push_67 at h
  refine r_aload_n 2 dX2_push_67 rfl ?_
  refine r_aload_n 1 dX2_push_68 rfl ?_
  refine r_callV (K' := Y_X1_become) (R' := R_X1_become) (idx := 25) (n := 1) (b := a2) (as := [(4, a1)]) (rest := []) (C' := 0) (D' := 0) (cn := 1) rfl k0_X1_become kV_X1_become kl_X2_25 ⟨by decide, by decide⟩ dX2_push_69 rfl rfl (Nat.le_of_ble_eq_true rfl) (by decide) (by decide) rfl h (fun r hr => m_X1_become hl0 ⟨r, hr, hr⟩) (fun _ τ2 _ h => ?_)
  refine r_aload_n 0 dX2_push_72 rfl ?_
  refine r_dup dX2_push_73 rfl ?_
  refine r_getf fd_X2_17 rfl dX2_push_74 h (fun x3 h => ?_)
  refine r_iconst (v := 1) dX2_push_77 rfl rfl ?_
  refine r_iadd dX2_push_78 ?_
  refine r_putf fd_X2_17 fp_X2_push_17 dX2_push_79 h (fun τ4 h => ?_)
  exact r_vret rfl dX2_push_82 h

set_option maxRecDepth 100000 in
set_option maxHeartbeats 4000000 in
theorem t_X2_push_16 {g : zF} (hl0 : g.2.2.2.1.stackTraces = false) {Q : zR × zS → Prop}   {a0 a1 : Int} {σ : zS} (h : zo (f_X2_push_16  a0 a1 σ) Q) : zw g Y_X2_push R_X2_push 16 [(0, (4, a0)), (1, (4, a1))] [] σ 27 7320 Q := by
  unfold f_X2_push_16 at h
  refine r_aload_n 0 dX2_push_16 rfl ?_
  refine r_getf fd_X2_17 rfl dX2_push_17 h (fun x1 h => ?_)
  refine r_if_lt 82 dX2_push_20 (by decide) h (fun h => ?_) (fun h => ?_)
  · refine r_room (C' := 0) (D' := 0) (by omega) (by omega) ?_
    exact r_vret rfl dX2_push_82 h
  · refine r_aload_n 0 dX2_push_23 rfl ?_
    refine r_getf fd_X2_17 rfl dX2_push_24 h (fun x2 h => ?_)
    refine r_aload_n 0 dX2_push_27 rfl ?_
    refine r_getr fd_X2_11 rfl dX2_push_28 h (fun x3 h => ?_)
    refine r_alen dX2_push_31 h (fun x4 h => ?_)
    refine r_icmp_ge 82 dX2_push_32 (by decide) h (fun h => ?_) (fun h => ?_)
    · refine r_room (C' := 0) (D' := 0) (by omega) (by omega) ?_
      exact r_vret rfl dX2_push_82 h
    · refine r_aload_n 0 dX2_push_35 rfl ?_
      refine r_getr fd_X2_11 rfl dX2_push_36 h (fun x5 h => ?_)
      refine r_aload_n 0 dX2_push_39 rfl ?_
      refine r_getf fd_X2_17 rfl dX2_push_40 h (fun x6 h => ?_)
      refine r_aald7 dX2_push_43 h (fun x7 h => ?_)
      refine r_astore_n (L' := [(2, (4, x7)), (0, (4, a0)), (1, (4, a1))]) dX2_push_44 (by decide) rfl ?_
      refine r_aload_n 0 dX2_push_45 rfl ?_
      refine r_ifnonnull 67 dX2_push_46 (by decide) h (fun h => ?_) (fun h => ?_)
      · refine r_room (C' := 0) (D' := 0) (by omega) (by omega) ?_
        refine r_weak (L' := [(0, (4, a0)), (1, (4, a1)), (2, (4, x7))]) [1, 2, 0] rfl ?_
        exact t_X2_push_67 hl0   h
      · refine r_new (C' := 26) (D' := 7311) nw_X2_9 dX2_push_49 (by decide) (by decide) h (fun x8 τ9 h => ?_)
        refine r_dup dX2_push_52 rfl ?_
        obtain ⟨h0, h⟩ := zite_o h
        refine r_callI (K' := Y_X1_init) (R' := R_X1_init) (idx := 24) (n := 0) (b := x8) (as := []) (rest := [(4, x8)]) (C' := 0) (D' := 0) rfl k0_X1_init kI_X1_init kl_X2_24 ⟨by decide, by decide⟩ dX2_push_53 rfl rfl (Nat.le_of_ble_eq_true rfl) (by decide) (by decide) h h0 (fun r hr => m_X1_init hl0 ⟨r, hr, hr⟩) (fun _ τ11 _ h => ?_)
        refine r_astore_n (L' := [(2, (4, x8)), (0, (4, a0)), (1, (4, a1))]) dX2_push_56 (by decide) rfl ?_
        refine r_aload_n 1 dX2_push_57 rfl ?_
        refine r_getr fd_X2_11 rfl dX2_push_58 h (fun x12 h => ?_)
        refine r_aload_n 1 dX2_push_61 rfl ?_
        refine r_getf fd_X2_17 rfl dX2_push_62 h (fun x13 h => ?_)
        refine r_aload_n 0 dX2_push_65 rfl ?_
        refine r_aast7 dX2_push_66 h (fun τ14 h => ?_)
        refine r_weak (L' := [(0, (4, a0)), (1, (4, a1)), (2, (4, x8))]) [1, 2, 0] rfl ?_
        exact t_X2_push_67 hl0   h

set_option maxRecDepth 100000 in
set_option maxHeartbeats 4000000 in
theorem t_X2_push {g : zF} (hl0 : g.2.2.2.1.stackTraces = false) {Q : zR × zS → Prop}   {a0 a1 : Int} {σ : zS} (h : zo (f_X2_push  a0 a1 σ) Q) : zw g Y_X2_push R_X2_push 0 [(0, (4, a0)), (1, (4, a1))] [] σ 27 7320 Q := by
  unfold f_X2_push at h
  refine r_aload_n 0 dX2_push_0 rfl ?_
  refine r_getf fd_X2_17 rfl dX2_push_1 h (fun x1 h => ?_)
  refine r_aload_n 0 dX2_push_4 rfl ?_
  refine r_getr fd_X2_11 rfl dX2_push_5 h (fun x2 h => ?_)
  refine r_alen dX2_push_8 h (fun x3 h => ?_)
  refine r_icmp_lt 16 dX2_push_9 (by decide) h (fun h => ?_) (fun h => ?_)
  · exact t_X2_push_16 hl0   h
  · refine r_aload_n 0 dX2_push_12 rfl ?_
    refine r_callV (K' := Y_X2_dropOldest) (R' := R_X2_dropOldest) (idx := 21) (n := 0) (b := a0) (as := []) (rest := []) (C' := 27) (D' := 7320) (cn := 2) rfl k0_X2_dropOldest kV_X2_dropOldest kl_X2_21 ⟨by decide, by decide⟩ dX2_push_13 rfl rfl (Nat.le_of_ble_eq_true rfl) (by decide) (by decide) rfl h (fun r hr => m_X2_dropOldest hl0 ⟨r, hr, hr⟩) (fun _ τ5 _ h => ?_)
    exact t_X2_push_16 hl0   h
theorem m_X2_push {g : zF} (hl0 : g.2.2.2.1.stackTraces = false) {Q : zR × zS → Prop} {a0 a1 : Int} {σ : zS} (h : zo (f_X2_push a0 a1 σ) Q) : zm g Y_X2_push R_X2_push [(4, a0), (4, a1)] σ Q := zm_of (by decide) rfl (Nat.le_of_ble_eq_true rfl) (t_X2_push hl0 h)


/- X2_pop -/

set_option maxRecDepth 100000 in
set_option maxHeartbeats 4000000 in
theorem t_X2_pop_40 {g : zF} (hl0 : g.2.2.2.1.stackTraces = false) {Q : zR × zS → Prop}   {a0 : Int} {σ : zS} (h : zo (f_X2_pop_40  a0 σ) Q) : zw g Y_X2_pop R_X2_pop 40 [(0, (4, a0))] [] σ 0 0 Q := by
  unfold f_X2_pop_40 at h
  refine r_aload_n 0 dX2_pop_40 rfl ?_
  refine r_dup dX2_pop_41 rfl ?_
  refine r_getf fd_X2_17 rfl dX2_pop_42 h (fun x1 h => ?_)
  refine r_iconst (v := 1) dX2_pop_45 rfl rfl ?_
  refine r_isub dX2_pop_46 ?_
  refine r_putf fd_X2_17 fp_X2_pop_17 dX2_pop_47 h (fun τ2 h => ?_)
  exact r_vret rfl dX2_pop_50 h

set_option maxRecDepth 100000 in
set_option maxHeartbeats 4000000 in
theorem t_X2_pop {g : zF} (hl0 : g.2.2.2.1.stackTraces = false) {Q : zR × zS → Prop}   {a0 a1 : Int} {σ : zS} (h : zo (f_X2_pop  a0 a1 σ) Q) : zw g Y_X2_pop R_X2_pop 0 [(0, (4, a0)), (1, (4, a1))] [] σ 0 0 Q := by
  unfold f_X2_pop at h
  refine r_aload_n 0 dX2_pop_0 rfl ?_
  refine r_getf fd_X2_17 rfl dX2_pop_1 h (fun x1 h => ?_)
  refine r_if_le 50 dX2_pop_4 (by decide) h (fun h => ?_) (fun h => ?_)
  · exact r_vret rfl dX2_pop_50 h
  · refine r_aload_n 0 dX2_pop_7 rfl ?_
    refine r_getf fd_X2_17 rfl dX2_pop_8 h (fun x2 h => ?_)
    refine r_aload_n 0 dX2_pop_11 rfl ?_
    refine r_getr fd_X2_11 rfl dX2_pop_12 h (fun x3 h => ?_)
    refine r_alen dX2_pop_15 h (fun x4 h => ?_)
    refine r_icmp_gt 50 dX2_pop_16 (by decide) h (fun h => ?_) (fun h => ?_)
    · exact r_vret rfl dX2_pop_50 h
    · refine r_aload_n 0 dX2_pop_19 rfl ?_
      refine r_getr fd_X2_11 rfl dX2_pop_20 h (fun x5 h => ?_)
      refine r_aload_n 0 dX2_pop_23 rfl ?_
      refine r_getf fd_X2_17 rfl dX2_pop_24 h (fun x6 h => ?_)
      refine r_iconst (v := 1) dX2_pop_27 rfl rfl ?_
      refine r_isub dX2_pop_28 ?_
      refine r_aald7 dX2_pop_29 h (fun x7 h => ?_)
      refine r_astore_n (L' := [(2, (4, x7)), (0, (4, a0)), (1, (4, a1))]) dX2_pop_30 (by decide) rfl ?_
      refine r_aload_n 0 dX2_pop_31 rfl ?_
      refine r_ifnull 40 dX2_pop_32 (by decide) h (fun h => ?_) (fun h => ?_)
      · refine r_weak (L' := [(0, (4, a0))]) [1] rfl ?_
        exact t_X2_pop_40 hl0   h
      · refine r_aload_n 2 dX2_pop_35 rfl ?_
        refine r_aload_n 0 dX2_pop_36 rfl ?_
        refine r_callV (K' := Y_X1_become) (R' := R_X1_become) (idx := 25) (n := 1) (b := a1) (as := [(4, x7)]) (rest := []) (C' := 0) (D' := 0) (cn := 1) rfl k0_X1_become kV_X1_become kl_X2_25 ⟨by decide, by decide⟩ dX2_pop_37 rfl rfl (Nat.le_of_ble_eq_true rfl) (by decide) (by decide) rfl h (fun r hr => m_X1_become hl0 ⟨r, hr, hr⟩) (fun _ τ9 _ h => ?_)
        refine r_weak (L' := [(0, (4, a0))]) [1] rfl ?_
        exact t_X2_pop_40 hl0   h
theorem m_X2_pop {g : zF} (hl0 : g.2.2.2.1.stackTraces = false) {Q : zR × zS → Prop} {a0 a1 : Int} {σ : zS} (h : zo (f_X2_pop a0 a1 σ) Q) : zm g Y_X2_pop R_X2_pop [(4, a0), (4, a1)] σ Q := zm_of (by decide) rfl (Nat.le_of_ble_eq_true rfl) (t_X2_pop hl0 h)


/- X3_find -/

set_option maxRecDepth 100000 in
set_option maxHeartbeats 4000000 in
theorem t_X3_find_2 {g : zF} (hl0 : g.2.2.2.1.stackTraces = false) {Q : zR × zS → Prop}   : ∀ (n : Nat) (a0 a1 a2 : Int) (σ : zS), zo (f_X3_find_2  n a0 a1 a2 σ) Q → zw g Y_X3_find R_X3_find 2 [(0, (4, a0)), (1, (0, a1)), (2, (0, a2))] [] σ 0 0 Q := by
  intro n
  induction n with
  | zero => intro a0 a1 a2 σ h; obtain ⟨r, h, -⟩ := h; cases h
  | succ n ih =>
    intro a0 a1 a2 σ h
    unfold f_X3_find_2 at h
    refine r_iload_n 2 dX3_find_2 rfl ?_
    refine r_aload_n 0 dX3_find_3 rfl ?_
    refine r_getf fd_X3_15 rfl dX3_find_4 h (fun x1 h => ?_)
    refine r_icmp_ge 37 dX3_find_7 (by decide) h (fun h => ?_) (fun h => ?_)
    · refine r_iconst (v := (-1)) dX3_find_37 rfl rfl ?_
      exact r_iret rfl dX3_find_38 h
    · refine r_iload_n 2 dX3_find_10 rfl ?_
      refine r_aload_n 0 dX3_find_11 rfl ?_
      refine r_getr fd_X3_9 rfl dX3_find_12 h (fun x2 h => ?_)
      refine r_alen dX3_find_15 h (fun x3 h => ?_)
      refine r_icmp_ge 37 dX3_find_16 (by decide) h (fun h => ?_) (fun h => ?_)
      · refine r_iconst (v := (-1)) dX3_find_37 rfl rfl ?_
        exact r_iret rfl dX3_find_38 h
      · refine r_aload_n 0 dX3_find_19 rfl ?_
        refine r_getr fd_X3_9 rfl dX3_find_20 h (fun x4 h => ?_)
        refine r_iload_n 2 dX3_find_23 rfl ?_
        refine r_iald dX3_find_24 h (fun x5 h => ?_)
        refine r_iload_n 1 dX3_find_25 rfl ?_
        refine r_icmp_ne 31 dX3_find_26 (by decide) h (fun h => ?_) (fun h => ?_)
        · refine r_iinc (L' := [(2, (0, (w32 (a2 + 1)))), (0, (4, a0)), (1, (0, a1))]) 2 dX3_find_31 rfl (by decide) rfl ?_
          refine r_goto 2 dX3_find_34 (by decide) ?_
          refine r_weak (L' := [(0, (4, a0)), (1, (0, a1)), (2, (0, (w32 (a2 + 1))))]) [1, 2, 0] rfl ?_
          exact ih _ _ _ _ h
        · refine r_iload_n 2 dX3_find_29 rfl ?_
          exact r_iret rfl dX3_find_30 h

set_option maxRecDepth 100000 in
set_option maxHeartbeats 4000000 in
theorem t_X3_find {g : zF} (hl0 : g.2.2.2.1.stackTraces = false) {Q : zR × zS → Prop}   {a0 a1 : Int} {σ : zS} (h : zo (f_X3_find  a0 a1 σ) Q) : zw g Y_X3_find R_X3_find 0 [(0, (4, a0)), (1, (0, a1))] [] σ 0 0 Q := by
  unfold f_X3_find at h
  refine r_iconst (v := 0) dX3_find_0 rfl rfl ?_
  refine r_istore_n (L' := [(2, (0, 0)), (0, (4, a0)), (1, (0, a1))]) dX3_find_1 (by decide) rfl ?_
  refine r_weak (L' := [(0, (4, a0)), (1, (0, a1)), (2, (0, 0))]) [1, 2, 0] rfl ?_
  exact t_X3_find_2 hl0   zFU _ _ _ _ h
theorem m_X3_find {g : zF} (hl0 : g.2.2.2.1.stackTraces = false) {Q : zR × zS → Prop} {a0 a1 : Int} {σ : zS} (h : zo (f_X3_find a0 a1 σ) Q) : zm g Y_X3_find R_X3_find [(4, a0), (0, a1)] σ Q := zm_of (by decide) rfl (Nat.le_of_ble_eq_true rfl) (t_X3_find hl0 h)


/- X3_add -/

set_option maxRecDepth 100000 in
set_option maxHeartbeats 4000000 in
theorem t_X3_add {g : zF} (hl0 : g.2.2.2.1.stackTraces = false) {Q : zR × zS → Prop}   {a0 a1 : Int} {σ : zS} (h : zo (f_X3_add  a0 a1 σ) Q) : zw g Y_X3_add R_X3_add 0 [(0, (4, a0)), (1, (0, a1))] [] σ 0 0 Q := by
  unfold f_X3_add at h
  refine r_aload_n 0 dX3_add_0 rfl ?_
  refine r_getf fd_X3_15 rfl dX3_add_1 h (fun x1 h => ?_)
  refine r_if_lt 39 dX3_add_4 (by decide) h (fun h => ?_) (fun h => ?_)
  · exact r_vret rfl dX3_add_39 h
  · refine r_aload_n 0 dX3_add_7 rfl ?_
    refine r_getf fd_X3_15 rfl dX3_add_8 h (fun x2 h => ?_)
    refine r_aload_n 0 dX3_add_11 rfl ?_
    refine r_getr fd_X3_9 rfl dX3_add_12 h (fun x3 h => ?_)
    refine r_alen dX3_add_15 h (fun x4 h => ?_)
    refine r_icmp_ge 39 dX3_add_16 (by decide) h (fun h => ?_) (fun h => ?_)
    · exact r_vret rfl dX3_add_39 h
    · refine r_aload_n 0 dX3_add_19 rfl ?_
      refine r_getr fd_X3_9 rfl dX3_add_20 h (fun x5 h => ?_)
      refine r_aload_n 0 dX3_add_23 rfl ?_
      refine r_getf fd_X3_15 rfl dX3_add_24 h (fun x6 h => ?_)
      refine r_iload_n 1 dX3_add_27 rfl ?_
      refine r_iast dX3_add_28 h (fun τ7 h => ?_)
      refine r_aload_n 0 dX3_add_29 rfl ?_
      refine r_dup dX3_add_30 rfl ?_
      refine r_getf fd_X3_15 rfl dX3_add_31 h (fun x8 h => ?_)
      refine r_iconst (v := 1) dX3_add_34 rfl rfl ?_
      refine r_iadd dX3_add_35 ?_
      refine r_putf fd_X3_15 fp_X3_add_15 dX3_add_36 h (fun τ9 h => ?_)
      exact r_vret rfl dX3_add_39 h
theorem m_X3_add {g : zF} (hl0 : g.2.2.2.1.stackTraces = false) {Q : zR × zS → Prop} {a0 a1 : Int} {σ : zS} (h : zo (f_X3_add a0 a1 σ) Q) : zm g Y_X3_add R_X3_add [(4, a0), (0, a1)] σ Q := zm_of (by decide) rfl (Nat.le_of_ble_eq_true rfl) (t_X3_add hl0 h)


/- X3_get -/

set_option maxRecDepth 100000 in
set_option maxHeartbeats 4000000 in
theorem t_X3_get {g : zF} (hl0 : g.2.2.2.1.stackTraces = false) {Q : zR × zS → Prop}   {a0 a1 : Int} {σ : zS} (h : zo (f_X3_get  a0 a1 σ) Q) : zw g Y_X3_get R_X3_get 0 [(0, (4, a0)), (1, (0, a1))] [] σ 0 0 Q := by
  unfold f_X3_get at h
  refine r_iload_n 1 dX3_get_0 rfl ?_
  refine r_if_lt 30 dX3_get_1 (by decide) h (fun h => ?_) (fun h => ?_)
  · refine r_iconst (v := 0) dX3_get_30 rfl rfl ?_
    exact r_iret rfl dX3_get_31 h
  · refine r_iload_n 1 dX3_get_4 rfl ?_
    refine r_aload_n 0 dX3_get_5 rfl ?_
    refine r_getf fd_X3_15 rfl dX3_get_6 h (fun x1 h => ?_)
    refine r_icmp_ge 30 dX3_get_9 (by decide) h (fun h => ?_) (fun h => ?_)
    · refine r_iconst (v := 0) dX3_get_30 rfl rfl ?_
      exact r_iret rfl dX3_get_31 h
    · refine r_iload_n 1 dX3_get_12 rfl ?_
      refine r_aload_n 0 dX3_get_13 rfl ?_
      refine r_getr fd_X3_9 rfl dX3_get_14 h (fun x2 h => ?_)
      refine r_alen dX3_get_17 h (fun x3 h => ?_)
      refine r_icmp_ge 30 dX3_get_18 (by decide) h (fun h => ?_) (fun h => ?_)
      · refine r_iconst (v := 0) dX3_get_30 rfl rfl ?_
        exact r_iret rfl dX3_get_31 h
      · refine r_aload_n 0 dX3_get_21 rfl ?_
        refine r_getr fd_X3_9 rfl dX3_get_22 h (fun x4 h => ?_)
        refine r_iload_n 1 dX3_get_25 rfl ?_
        refine r_iald dX3_get_26 h (fun x5 h => ?_)
        refine r_goto 31 dX3_get_27 (by decide) ?_
        exact r_iret rfl dX3_get_31 h
theorem m_X3_get {g : zF} (hl0 : g.2.2.2.1.stackTraces = false) {Q : zR × zS → Prop} {a0 a1 : Int} {σ : zS} (h : zo (f_X3_get a0 a1 σ) Q) : zm g Y_X3_get R_X3_get [(4, a0), (0, a1)] σ Q := zm_of (by decide) rfl (Nat.le_of_ble_eq_true rfl) (t_X3_get hl0 h)


/- X4_init -/

set_option maxRecDepth 100000 in
set_option maxHeartbeats 4000000 in
theorem t_X4_init {g : zF} (hl0 : g.2.2.2.1.stackTraces = false) {Q : zR × zS → Prop}   {a0 a1 a2 : Int} {σ : zS} (h : zo (f_X4_init  a0 a1 a2 σ) Q) : zw g Y_X4_init R_X4_init 0 [(0, (4, a0)), (1, (4, a1)), (2, (4, a2))] [] σ 0 0 Q := by
  unfold f_X4_init at h
  refine r_aload_n 0 dX4_init_0 rfl ?_
  refine r_objinit oi_X4_3 ⟨by decide, Nat.le_of_ble_eq_true rfl⟩ dX4_init_1 h (fun h => ?_)
  refine r_aload_n 0 dX4_init_4 rfl ?_
  refine r_iconst (v := (-1)) dX4_init_5 rfl rfl ?_
  refine r_putf fd_X4_9 fp_X4_init_9 dX4_init_6 h (fun τ1 h => ?_)
  refine r_aload_n 0 dX4_init_9 rfl ?_
  refine r_aload_n 1 dX4_init_10 rfl ?_
  refine r_putr fd_X4_15 fp_X4_init_15 dX4_init_11 h (fun τ2 h => ?_)
  refine r_aload_n 0 dX4_init_14 rfl ?_
  refine r_aload_n 2 dX4_init_15 rfl ?_
  refine r_putr fd_X4_19 fp_X4_init_19 dX4_init_16 h (fun τ3 h => ?_)
  exact r_vret rfl dX4_init_19 h
theorem m_X4_init {g : zF} (hl0 : g.2.2.2.1.stackTraces = false) {Q : zR × zS → Prop} {a0 a1 a2 : Int} {σ : zS} (h : zo (f_X4_init a0 a1 a2 σ) Q) : zm g Y_X4_init R_X4_init [(4, a0), (4, a1), (4, a2)] σ Q := zm_of (by decide) rfl (Nat.le_of_ble_eq_true rfl) (t_X4_init hl0 h)


/- X4_kindOf -/

set_option maxRecDepth 100000 in
set_option maxHeartbeats 4000000 in
theorem t_X4_kindOf_28 {g : zF} (hl0 : g.2.2.2.1.stackTraces = false) {Q : zR × zS → Prop}   {a0 : Int} {σ : zS} (h : zo (f_X4_kindOf_28  a0 σ) Q) : zw g Y_X4_kindOf R_X4_kindOf 28 [(0, (0, a0))] [] σ 0 0 Q := by
  unfold f_X4_kindOf_28 at h
  refine r_iload_n 0 dX4_kindOf_28 rfl ?_
  refine r_bipush (v := 32) dX4_kindOf_29 rfl rfl ?_
  refine r_icmp_eq 40 dX4_kindOf_31 (by decide) h (fun h => ?_) (fun h => ?_)
  · refine r_iconst (v := 4) dX4_kindOf_40 rfl rfl ?_
    refine r_goto 45 dX4_kindOf_41 (by decide) ?_
    exact r_iret rfl dX4_kindOf_45 h
  · refine r_iload_n 0 dX4_kindOf_34 rfl ?_
    refine r_bipush (v := 10) dX4_kindOf_35 rfl rfl ?_
    refine r_icmp_ne 44 dX4_kindOf_37 (by decide) h (fun h => ?_) (fun h => ?_)
    · refine r_iconst (v := 3) dX4_kindOf_44 rfl rfl ?_
      exact r_iret rfl dX4_kindOf_45 h
    · refine r_iconst (v := 4) dX4_kindOf_40 rfl rfl ?_
      refine r_goto 45 dX4_kindOf_41 (by decide) ?_
      exact r_iret rfl dX4_kindOf_45 h

set_option maxRecDepth 100000 in
set_option maxHeartbeats 4000000 in
theorem t_X4_kindOf_14 {g : zF} (hl0 : g.2.2.2.1.stackTraces = false) {Q : zR × zS → Prop}   {a0 : Int} {σ : zS} (h : zo (f_X4_kindOf_14  a0 σ) Q) : zw g Y_X4_kindOf R_X4_kindOf 14 [(0, (0, a0))] [] σ 0 0 Q := by
  unfold f_X4_kindOf_14 at h
  refine r_iload_n 0 dX4_kindOf_14 rfl ?_
  refine r_bipush (v := 48) dX4_kindOf_15 rfl rfl ?_
  refine r_icmp_lt 28 dX4_kindOf_17 (by decide) h (fun h => ?_) (fun h => ?_)
  · exact t_X4_kindOf_28 hl0   h
  · refine r_iload_n 0 dX4_kindOf_20 rfl ?_
    refine r_bipush (v := 57) dX4_kindOf_21 rfl rfl ?_
    refine r_icmp_gt 28 dX4_kindOf_23 (by decide) h (fun h => ?_) (fun h => ?_)
    · exact t_X4_kindOf_28 hl0   h
    · refine r_iconst (v := 2) dX4_kindOf_26 rfl rfl ?_
      exact r_iret rfl dX4_kindOf_27 h

set_option maxRecDepth 100000 in
set_option maxHeartbeats 4000000 in
theorem t_X4_kindOf {g : zF} (hl0 : g.2.2.2.1.stackTraces = false) {Q : zR × zS → Prop}   {a0 : Int} {σ : zS} (h : zo (f_X4_kindOf  a0 σ) Q) : zw g Y_X4_kindOf R_X4_kindOf 0 [(0, (0, a0))] [] σ 0 0 Q := by
  unfold f_X4_kindOf at h
  refine r_iload_n 0 dX4_kindOf_0 rfl ?_
  refine r_bipush (v := 97) dX4_kindOf_1 rfl rfl ?_
  refine r_icmp_lt 14 dX4_kindOf_3 (by decide) h (fun h => ?_) (fun h => ?_)
  · exact t_X4_kindOf_14 hl0   h
  · refine r_iload_n 0 dX4_kindOf_6 rfl ?_
    refine r_bipush (v := 122) dX4_kindOf_7 rfl rfl ?_
    refine r_icmp_gt 14 dX4_kindOf_9 (by decide) h (fun h => ?_) (fun h => ?_)
    · exact t_X4_kindOf_14 hl0   h
    · refine r_iconst (v := 1) dX4_kindOf_12 rfl rfl ?_
      exact r_iret rfl dX4_kindOf_13 h
theorem m_X4_kindOf {g : zF} (hl0 : g.2.2.2.1.stackTraces = false) {Q : zR × zS → Prop} {a0 : Int} {σ : zS} (h : zo (f_X4_kindOf a0 σ) Q) : zm g Y_X4_kindOf R_X4_kindOf [(0, a0)] σ Q := zm_of (by decide) rfl (Nat.le_of_ble_eq_true rfl) (t_X4_kindOf hl0 h)


/- X4_next -/

set_option maxRecDepth 100000 in
set_option maxHeartbeats 4000000 in
theorem t_X4_next_109 {g : zF} (hl0 : g.2.2.2.1.stackTraces = false) {Q : zR × zS → Prop}   : ∀ (n : Nat) (a0 : Int) (σ : zS), zo (f_X4_next_109  n a0 σ) Q → zw g Y_X4_next R_X4_next 109 [(0, (4, a0))] [] σ 0 0 Q := by
  intro n
  induction n with
  | zero => intro a0 σ h; obtain ⟨r, h, -⟩ := h; cases h
  | succ n ih =>
    intro a0 σ h
    unfold f_X4_next_109 at h
    refine r_aload_n 0 dX4_next_109 rfl ?_
    refine r_getf fd_X4_41 rfl dX4_next_110 h (fun x1 h => ?_)
    refine r_iconst (v := 3) dX4_next_113 rfl rfl ?_
    refine r_icmp_eq 165 dX4_next_114 (by decide) h (fun h => ?_) (fun h => ?_)
    · exact r_vret rfl dX4_next_165 h
    · refine r_aload_n 0 dX4_next_117 rfl ?_
      refine r_getf fd_X4_23 rfl dX4_next_118 h (fun x2 h => ?_)
      refine r_aload_n 0 dX4_next_121 rfl ?_
      refine r_getr fd_X4_15 rfl dX4_next_122 h (fun x3 h => ?_)
      refine r_getf fd_X4_176 rfl dX4_next_125 h (fun x4 h => ?_)
      refine r_icmp_ge 165 dX4_next_128 (by decide) h (fun h => ?_) (fun h => ?_)
      · exact r_vret rfl dX4_next_165 h
      · refine r_aload_n 0 dX4_next_131 rfl ?_
        refine r_getr fd_X4_15 rfl dX4_next_132 h (fun x5 h => ?_)
        refine r_aload_n 0 dX4_next_135 rfl ?_
        refine r_getf fd_X4_23 rfl dX4_next_136 h (fun x6 h => ?_)
        refine r_callV (K' := Y_X0_at) (R' := R_X0_at) (idx := 158) (n := 1) (b := x5) (as := [(0, x6)]) (rest := []) (C' := 0) (D' := 0) (cn := 0) rfl k0_X0_at kV_X0_at kl_X4_158 ⟨by decide, by decide⟩ dX4_next_139 rfl rfl (Nat.le_of_ble_eq_true rfl) (by decide) (by decide) rfl h (fun r hr => m_X0_at hl0 ⟨r, hr, hr⟩) (fun x7 τ8 _ h => ?_)
        refine r_callS (K' := Y_X4_kindOf) (R' := R_X4_kindOf) (idx := 178) (n := 1) (as := [(0, x7)]) (rest := []) (C' := 0) (D' := 0) rfl k0_X4_kindOf wd_444 kl_X4_178 ⟨by decide, by decide⟩ dX4_next_142 rfl rfl (Nat.le_of_ble_eq_true rfl) (by decide) (by decide) h (fun r hr => m_X4_kindOf hl0 ⟨r, hr, hr⟩) (fun x9 τ10 _ h => ?_)
        refine r_aload_n 0 dX4_next_145 rfl ?_
        refine r_getf fd_X4_41 rfl dX4_next_146 h (fun x11 h => ?_)
        refine r_icmp_ne 165 dX4_next_149 (by decide) h (fun h => ?_) (fun h => ?_)
        · exact r_vret rfl dX4_next_165 h
        · refine r_aload_n 0 dX4_next_152 rfl ?_
          refine r_dup dX4_next_153 rfl ?_
          refine r_getf fd_X4_23 rfl dX4_next_154 h (fun x12 h => ?_)
          refine r_iconst (v := 1) dX4_next_157 rfl rfl ?_
          refine r_iadd dX4_next_158 ?_
          refine r_putf fd_X4_23 fp_X4_next_23 dX4_next_159 h (fun τ13 h => ?_)
          refine r_goto 109 dX4_next_162 (by decide) ?_
          exact ih _ _ h

set_option maxRecDepth 100000 in
set_option maxHeartbeats 4000000 in
theorem t_X4_next_53 {g : zF} (hl0 : g.2.2.2.1.stackTraces = false) {Q : zR × zS → Prop}   {a0 : Int} {σ : zS} (h : zo (f_X4_next_53  a0 σ) Q) : zw g Y_X4_next R_X4_next 53 [(0, (4, a0))] [] σ 0 0 Q := by
  unfold f_X4_next_53 at h
  refine r_aload_n 0 dX4_next_53 rfl ?_
  refine r_aload_n 0 dX4_next_54 rfl ?_
  refine r_getf fd_X4_125 rfl dX4_next_55 h (fun x1 h => ?_)
  refine r_putf fd_X4_23 fp_X4_next_23 dX4_next_58 h (fun τ2 h => ?_)
  refine r_aload_n 0 dX4_next_61 rfl ?_
  refine r_getf fd_X4_125 rfl dX4_next_62 h (fun x3 h => ?_)
  refine r_aload_n 0 dX4_next_65 rfl ?_
  refine r_getr fd_X4_15 rfl dX4_next_66 h (fun x4 h => ?_)
  refine r_getf fd_X4_176 rfl dX4_next_69 h (fun x5 h => ?_)
  refine r_icmp_lt 81 dX4_next_72 (by decide) h (fun h => ?_) (fun h => ?_)
  · refine r_aload_n 0 dX4_next_81 rfl ?_
    refine r_aload_n 0 dX4_next_82 rfl ?_
    refine r_getr fd_X4_15 rfl dX4_next_83 h (fun x6 h => ?_)
    refine r_aload_n 0 dX4_next_86 rfl ?_
    refine r_getf fd_X4_125 rfl dX4_next_87 h (fun x7 h => ?_)
    refine r_callV (K' := Y_X0_at) (R' := R_X0_at) (idx := 158) (n := 1) (b := x6) (as := [(0, x7)]) (rest := [(4, a0)]) (C' := 0) (D' := 0) (cn := 0) rfl k0_X0_at kV_X0_at kl_X4_158 ⟨by decide, by decide⟩ dX4_next_90 rfl rfl (Nat.le_of_ble_eq_true rfl) (by decide) (by decide) rfl h (fun r hr => m_X0_at hl0 ⟨r, hr, hr⟩) (fun x8 τ9 _ h => ?_)
    refine r_callS (K' := Y_X4_kindOf) (R' := R_X4_kindOf) (idx := 178) (n := 1) (as := [(0, x8)]) (rest := [(4, a0)]) (C' := 0) (D' := 0) rfl k0_X4_kindOf wd_444 kl_X4_178 ⟨by decide, by decide⟩ dX4_next_93 rfl rfl (Nat.le_of_ble_eq_true rfl) (by decide) (by decide) h (fun r hr => m_X4_kindOf hl0 ⟨r, hr, hr⟩) (fun x10 τ11 _ h => ?_)
    refine r_putf fd_X4_41 fp_X4_next_41 dX4_next_96 h (fun τ12 h => ?_)
    refine r_aload_n 0 dX4_next_99 rfl ?_
    refine r_aload_n 0 dX4_next_100 rfl ?_
    refine r_getf fd_X4_125 rfl dX4_next_101 h (fun x13 h => ?_)
    refine r_iconst (v := 1) dX4_next_104 rfl rfl ?_
    refine r_iadd dX4_next_105 ?_
    refine r_putf fd_X4_23 fp_X4_next_23 dX4_next_106 h (fun τ14 h => ?_)
    exact t_X4_next_109 hl0   zFU _ _ h
  · refine r_aload_n 0 dX4_next_75 rfl ?_
    refine r_iconst (v := 0) dX4_next_76 rfl rfl ?_
    refine r_putf fd_X4_41 fp_X4_next_41 dX4_next_77 h (fun τ15 h => ?_)
    exact r_vret rfl dX4_next_80 h

set_option maxRecDepth 100000 in
set_option maxHeartbeats 4000000 in
theorem t_X4_next_8 {g : zF} (hl0 : g.2.2.2.1.stackTraces = false) {Q : zR × zS → Prop}   : ∀ (n : Nat) (a0 : Int) (σ : zS), zo (f_X4_next_8  n a0 σ) Q → zw g Y_X4_next R_X4_next 8 [(0, (4, a0))] [] σ 0 0 Q := by
  intro n
  induction n with
  | zero => intro a0 σ h; obtain ⟨r, h, -⟩ := h; cases h
  | succ n ih =>
    intro a0 σ h
    unfold f_X4_next_8 at h
    refine r_aload_n 0 dX4_next_8 rfl ?_
    refine r_getf fd_X4_125 rfl dX4_next_9 h (fun x1 h => ?_)
    refine r_aload_n 0 dX4_next_12 rfl ?_
    refine r_getr fd_X4_15 rfl dX4_next_13 h (fun x2 h => ?_)
    refine r_getf fd_X4_176 rfl dX4_next_16 h (fun x3 h => ?_)
    refine r_icmp_ge 53 dX4_next_19 (by decide) h (fun h => ?_) (fun h => ?_)
    · exact t_X4_next_53 hl0   h
    · refine r_aload_n 0 dX4_next_22 rfl ?_
      refine r_getr fd_X4_15 rfl dX4_next_23 h (fun x4 h => ?_)
      refine r_aload_n 0 dX4_next_26 rfl ?_
      refine r_getf fd_X4_125 rfl dX4_next_27 h (fun x5 h => ?_)
      refine r_callV (K' := Y_X0_at) (R' := R_X0_at) (idx := 158) (n := 1) (b := x4) (as := [(0, x5)]) (rest := []) (C' := 0) (D' := 0) (cn := 0) rfl k0_X0_at kV_X0_at kl_X4_158 ⟨by decide, by decide⟩ dX4_next_30 rfl rfl (Nat.le_of_ble_eq_true rfl) (by decide) (by decide) rfl h (fun r hr => m_X0_at hl0 ⟨r, hr, hr⟩) (fun x6 τ7 _ h => ?_)
      refine r_callS (K' := Y_X4_kindOf) (R' := R_X4_kindOf) (idx := 178) (n := 1) (as := [(0, x6)]) (rest := []) (C' := 0) (D' := 0) rfl k0_X4_kindOf wd_444 kl_X4_178 ⟨by decide, by decide⟩ dX4_next_33 rfl rfl (Nat.le_of_ble_eq_true rfl) (by decide) (by decide) h (fun r hr => m_X4_kindOf hl0 ⟨r, hr, hr⟩) (fun x8 τ9 _ h => ?_)
      refine r_iconst (v := 4) dX4_next_36 rfl rfl ?_
      refine r_icmp_ne 53 dX4_next_37 (by decide) h (fun h => ?_) (fun h => ?_)
      · exact t_X4_next_53 hl0   h
      · refine r_aload_n 0 dX4_next_40 rfl ?_
        refine r_dup dX4_next_41 rfl ?_
        refine r_getf fd_X4_125 rfl dX4_next_42 h (fun x10 h => ?_)
        refine r_iconst (v := 1) dX4_next_45 rfl rfl ?_
        refine r_iadd dX4_next_46 ?_
        refine r_putf fd_X4_125 fp_X4_next_125 dX4_next_47 h (fun τ11 h => ?_)
        refine r_goto 8 dX4_next_50 (by decide) ?_
        exact ih _ _ h

set_option maxRecDepth 100000 in
set_option maxHeartbeats 4000000 in
theorem t_X4_next {g : zF} (hl0 : g.2.2.2.1.stackTraces = false) {Q : zR × zS → Prop}   {a0 : Int} {σ : zS} (h : zo (f_X4_next  a0 σ) Q) : zw g Y_X4_next R_X4_next 0 [(0, (4, a0))] [] σ 0 0 Q := by
  unfold f_X4_next at h
  refine r_aload_n 0 dX4_next_0 rfl ?_
  refine r_aload_n 0 dX4_next_1 rfl ?_
  refine r_getf fd_X4_23 rfl dX4_next_2 h (fun x1 h => ?_)
  refine r_putf fd_X4_125 fp_X4_next_125 dX4_next_5 h (fun τ2 h => ?_)
  exact t_X4_next_8 hl0   zFU _ _ h
theorem m_X4_next {g : zF} (hl0 : g.2.2.2.1.stackTraces = false) {Q : zR × zS → Prop} {a0 : Int} {σ : zS} (h : zo (f_X4_next a0 σ) Q) : zm g Y_X4_next R_X4_next [(4, a0)] σ Q := zm_of (by decide) rfl (Nat.le_of_ble_eq_true rfl) (t_X4_next hl0 h)

