/- X1_driftOf -/

set_option maxRecDepth 100000 in
set_option maxHeartbeats 4000000 in
theorem t_X1_driftOf {g : zF} (hl0 : g.2.2.2.1.stackTraces = false) {Q : zR × zS → Prop}   {a0 a1 a2 : Int} {σ : zS} (h : zo (f_X1_driftOf  a0 a1 a2 σ) Q) : zw g Y_X1_driftOf R_X1_driftOf 0 [(0, (4, a0)), (1, (4, a1)), (2, (0, a2))] [] σ 0 0 Q := by
  unfold f_X1_driftOf at h
  refine r_aload_n 0 dX1_driftOf_0 rfl ?_
  refine r_iconst (v := 0) dX1_driftOf_1 rfl rfl ?_
  refine r_callV (K' := Y_X1_rule) (R' := R_X1_rule) (idx := 75) (n := 1) (b := a0) (as := [(0, 0)]) (rest := []) (C' := 0) (D' := 0) (cn := 1) rfl k0_X1_rule kV_X1_rule kl_X1_75 ⟨by decide, by decide⟩ dX1_driftOf_2 rfl rfl (Nat.le_of_ble_eq_true rfl) (by decide) (by decide) rfl h (fun r hr => m_X1_rule hl0 ⟨r, hr, hr⟩) (fun x1 τ2 _ h => ?_)
  refine r_aload_n 0 dX1_driftOf_5 rfl ?_
  refine r_getf fd_X1_72 rfl dX1_driftOf_6 h (fun x3 h => ?_)
  refine r_aload_n 1 dX1_driftOf_9 rfl ?_
  refine r_iload_n 2 dX1_driftOf_10 rfl ?_
  refine r_iconst (v := 4) dX1_driftOf_11 rfl rfl ?_
  refine r_callV (K' := Y_X5_get) (R' := R_X5_get) (idx := 111) (n := 2) (b := a1) (as := [(0, a2), (0, 4)]) (rest := [(0, x3), (0, x1)]) (C' := 0) (D' := 0) (cn := 5) rfl k0_X5_get kV_X5_get kl_X1_111 ⟨by decide, by decide⟩ dX1_driftOf_12 rfl rfl (Nat.le_of_ble_eq_true rfl) (by decide) (by decide) rfl h (fun r hr => m_X5_get hl0 ⟨r, hr, hr⟩) (fun x4 τ5 _ h => ?_)
  refine r_isub dX1_driftOf_15 ?_
  refine r_imul dX1_driftOf_16 ?_
  exact r_iret rfl dX1_driftOf_17 h
theorem m_X1_driftOf {g : zF} (hl0 : g.2.2.2.1.stackTraces = false) {Q : zR × zS → Prop} {a0 a1 a2 : Int} {σ : zS} (h : zo (f_X1_driftOf a0 a1 a2 σ) Q) : zm g Y_X1_driftOf R_X1_driftOf [(4, a0), (4, a1), (0, a2)] σ Q := zm_of (by decide) rfl (Nat.le_of_ble_eq_true rfl) (t_X1_driftOf hl0 h)


/- X1_beliefSpread -/

set_option maxRecDepth 100000 in
set_option maxHeartbeats 4000000 in
theorem t_X1_beliefSpread {g : zF} (hl0 : g.2.2.2.1.stackTraces = false) {Q : zR × zS → Prop}   {a0 a1 a2 : Int} {σ : zS} (h : zo (f_X1_beliefSpread  a0 a1 a2 σ) Q) : zw g Y_X1_beliefSpread R_X1_beliefSpread 0 [(0, (4, a0)), (1, (0, a1)), (2, (0, a2))] [] σ 0 0 Q := by
  unfold f_X1_beliefSpread at h
  refine r_aload_n 0 dX1_beliefSpread_0 rfl ?_
  refine r_iload_n 1 dX1_beliefSpread_1 rfl ?_
  refine r_callV (K' := Y_X1_listOf) (R' := R_X1_listOf) (idx := 67) (n := 1) (b := a0) (as := [(0, a1)]) (rest := []) (C' := 0) (D' := 0) (cn := 1) rfl k0_X1_listOf kV_X1_listOf kl_X1_67 ⟨by decide, by decide⟩ dX1_beliefSpread_2 rfl rfl (Nat.le_of_ble_eq_true rfl) (by decide) (by decide) rfl h (fun r hr => m_X1_listOf hl0 ⟨r, hr, hr⟩) (fun x1 τ2 _ h => ?_)
  refine r_astore_n (L' := [(3, (4, x1)), (0, (4, a0)), (1, (0, a1)), (2, (0, a2))]) dX1_beliefSpread_5 (by decide) rfl ?_
  refine r_aload_n 0 dX1_beliefSpread_6 rfl ?_
  refine r_iload_n 3 dX1_beliefSpread_7 rfl ?_
  refine r_iconst (v := 1) dX1_beliefSpread_8 rfl rfl ?_
  refine r_callV (K' := Y_X5_get) (R' := R_X5_get) (idx := 111) (n := 2) (b := x1) (as := [(0, a2), (0, 1)]) (rest := []) (C' := 0) (D' := 0) (cn := 5) rfl k0_X5_get kV_X5_get kl_X1_111 ⟨by decide, by decide⟩ dX1_beliefSpread_9 rfl rfl (Nat.le_of_ble_eq_true rfl) (by decide) (by decide) rfl h (fun r hr => m_X5_get hl0 ⟨r, hr, hr⟩) (fun x3 τ4 _ h => ?_)
  refine r_istore (L' := [(4, (0, x3)), (3, (4, x1)), (0, (4, a0)), (1, (0, a1)), (2, (0, a2))]) dX1_beliefSpread_12 (by decide) rfl ?_
  refine r_aload_n 2 dX1_beliefSpread_14 rfl ?_
  refine r_aload_n 1 dX1_beliefSpread_15 rfl ?_
  refine r_iload_n 4 dX1_beliefSpread_16 rfl ?_
  refine r_callV (K' := Y_X1_driftOf) (R' := R_X1_driftOf) (idx := 114) (n := 2) (b := a0) (as := [(4, x1), (0, a2)]) (rest := []) (C' := 0) (D' := 0) (cn := 1) rfl k0_X1_driftOf kV_X1_driftOf kl_X1_114 ⟨by decide, by decide⟩ dX1_beliefSpread_17 rfl rfl (Nat.le_of_ble_eq_true rfl) (by decide) (by decide) rfl h (fun r hr => m_X1_driftOf hl0 ⟨r, hr, hr⟩) (fun x5 τ6 _ h => ?_)
  refine r_istore (L' := [(5, (0, x5)), (4, (0, x3)), (3, (4, x1)), (0, (4, a0)), (1, (0, a1)), (2, (0, a2))]) dX1_beliefSpread_20 (by decide) rfl ?_
  refine r_iload 1 dX1_beliefSpread_22 rfl ?_
  refine r_iload_n 4 dX1_beliefSpread_24 rfl ?_
  refine r_icmp_ne 31 dX1_beliefSpread_25 (by decide) h (fun h => ?_) (fun h => ?_)
  · refine r_iload 0 dX1_beliefSpread_31 rfl ?_
    refine r_aload_n 3 dX1_beliefSpread_33 rfl ?_
    refine r_iconst (v := 1) dX1_beliefSpread_34 rfl rfl ?_
    refine r_callV (K' := Y_X1_rule) (R' := R_X1_rule) (idx := 75) (n := 1) (b := a0) (as := [(0, 1)]) (rest := [(0, x5)]) (C' := 0) (D' := 0) (cn := 1) rfl k0_X1_rule kV_X1_rule kl_X1_75 ⟨by decide, by decide⟩ dX1_beliefSpread_35 rfl rfl (Nat.le_of_ble_eq_true rfl) (by decide) (by decide) rfl h (fun r hr => m_X1_rule hl0 ⟨r, hr, hr⟩) (fun x7 τ8 _ h => ?_)
    refine r_bipush (v := 10) dX1_beliefSpread_38 rfl rfl ?_
    refine r_aload_n 3 dX1_beliefSpread_40 rfl ?_
    refine r_iload_n 4 dX1_beliefSpread_41 rfl ?_
    refine r_iload 1 dX1_beliefSpread_42 rfl ?_
    refine r_callV (K' := Y_X1_trustIn) (R' := R_X1_trustIn) (idx := 98) (n := 2) (b := a0) (as := [(0, a1), (0, x3)]) (rest := [(0, 10), (0, x7), (0, x5)]) (C' := 0) (D' := 0) (cn := 1) rfl k0_X1_trustIn kV_X1_trustIn kl_X1_98 ⟨by decide, by decide⟩ dX1_beliefSpread_44 rfl rfl (Nat.le_of_ble_eq_true rfl) (by decide) (by decide) rfl h (fun r hr => m_X1_trustIn hl0 ⟨r, hr, hr⟩) (fun x9 τ10 _ h => ?_)
    refine r_isub dX1_beliefSpread_47 ?_
    refine r_imul dX1_beliefSpread_48 ?_
    refine r_aload_n 2 dX1_beliefSpread_49 rfl ?_
    refine r_iload_n 5 dX1_beliefSpread_50 rfl ?_
    refine r_iconst (v := 2) dX1_beliefSpread_51 rfl rfl ?_
    refine r_callV (K' := Y_X5_get) (R' := R_X5_get) (idx := 111) (n := 2) (b := x1) (as := [(0, a2), (0, 2)]) (rest := [(0, (w32 (x7 * (w32 (10 - x9))))), (0, x5)]) (C' := 0) (D' := 0) (cn := 5) rfl k0_X5_get kV_X5_get kl_X1_111 ⟨by decide, by decide⟩ dX1_beliefSpread_52 rfl rfl (Nat.le_of_ble_eq_true rfl) (by decide) (by decide) rfl h (fun r hr => m_X5_get hl0 ⟨r, hr, hr⟩) (fun x11 τ12 _ h => ?_)
    refine r_imul dX1_beliefSpread_55 ?_
    refine r_iadd dX1_beliefSpread_56 ?_
    exact r_iret rfl dX1_beliefSpread_57 h
  · refine r_iload 0 dX1_beliefSpread_28 rfl ?_
    exact r_iret rfl dX1_beliefSpread_30 h
theorem m_X1_beliefSpread {g : zF} (hl0 : g.2.2.2.1.stackTraces = false) {Q : zR × zS → Prop} {a0 a1 a2 : Int} {σ : zS} (h : zo (f_X1_beliefSpread a0 a1 a2 σ) Q) : zm g Y_X1_beliefSpread R_X1_beliefSpread [(4, a0), (0, a1), (0, a2)] σ Q := zm_of (by decide) rfl (Nat.le_of_ble_eq_true rfl) (t_X1_beliefSpread hl0 h)


/- X5_rowOf -/

set_option maxRecDepth 100000 in
set_option maxHeartbeats 4000000 in
theorem t_X5_rowOf_32 {g : zF} (hl0 : g.2.2.2.1.stackTraces = false) {Q : zR × zS → Prop} (r2 : Int → Int → Int → Int → zS → zFn) (hr2 : ∀ b0 b1 b2 b3 τ, zo (r2 b0 b1 b2 b3 τ) Q → zw g Y_X5_rowOf R_X5_rowOf 2 [(0, (4, b0)), (1, (0, b1)), (2, (0, b2)), (3, (0, b3))] [] τ 0 0 Q) {a0 a1 a2 a3 : Int} {σ : zS} (h : zo (f_X5_rowOf_32 r2 a0 a1 a2 a3 σ) Q) : zw g Y_X5_rowOf R_X5_rowOf 32 [(0, (4, a0)), (1, (0, a1)), (2, (0, a2)), (3, (0, a3))] [] σ 0 0 Q := by
  unfold f_X5_rowOf_32 at h
  refine r_iinc (L' := [(3, (0, (w32 (a3 + 1)))), (0, (4, a0)), (1, (0, a1)), (2, (0, a2))]) 3 dX5_rowOf_32 rfl (by decide) rfl ?_
  refine r_goto 2 dX5_rowOf_35 (by decide) ?_
  refine r_weak (L' := [(0, (4, a0)), (1, (0, a1)), (2, (0, a2)), (3, (0, (w32 (a3 + 1))))]) [1, 2, 3, 0] rfl ?_
  refine r_room (C' := 0) (D' := 0) (by omega) (by omega) ?_
  exact hr2 _ _ _ _ _ h

set_option maxRecDepth 100000 in
set_option maxHeartbeats 4000000 in
theorem t_X5_rowOf_2 {g : zF} (hl0 : g.2.2.2.1.stackTraces = false) {Q : zR × zS → Prop}   : ∀ (n : Nat) (a0 a1 a2 a3 : Int) (σ : zS), zo (f_X5_rowOf_2  n a0 a1 a2 a3 σ) Q → zw g Y_X5_rowOf R_X5_rowOf 2 [(0, (4, a0)), (1, (0, a1)), (2, (0, a2)), (3, (0, a3))] [] σ 0 0 Q := by
  intro n
  induction n with
  | zero => intro a0 a1 a2 a3 σ h; obtain ⟨r, h, -⟩ := h; cases h
  | succ n ih =>
    intro a0 a1 a2 a3 σ h
    unfold f_X5_rowOf_2 at h
    refine r_iload_n 3 dX5_rowOf_2 rfl ?_
    refine r_aload_n 0 dX5_rowOf_3 rfl ?_
    refine r_getf fd_X5_15 rfl dX5_rowOf_4 h (fun x1 h => ?_)
    refine r_icmp_ge 38 dX5_rowOf_7 (by decide) h (fun h => ?_) (fun h => ?_)
    · refine r_iconst (v := (-1)) dX5_rowOf_38 rfl rfl ?_
      exact r_iret rfl dX5_rowOf_39 h
    · refine r_aload_n 0 dX5_rowOf_10 rfl ?_
      refine r_iload_n 3 dX5_rowOf_11 rfl ?_
      refine r_iconst (v := 0) dX5_rowOf_12 rfl rfl ?_
      refine r_callV (K' := Y_X5_get) (R' := R_X5_get) (idx := 19) (n := 2) (b := a0) (as := [(0, a3), (0, 0)]) (rest := []) (C' := 0) (D' := 0) (cn := 5) rfl k0_X5_get kV_X5_get kl_X5_19 ⟨by decide, by decide⟩ dX5_rowOf_13 rfl rfl (Nat.le_of_ble_eq_true rfl) (by decide) (by decide) rfl h (fun r hr => m_X5_get hl0 ⟨r, hr, hr⟩) (fun x2 τ3 _ h => ?_)
      refine r_iload_n 1 dX5_rowOf_16 rfl ?_
      refine r_icmp_ne 32 dX5_rowOf_17 (by decide) h (fun h => ?_) (fun h => ?_)
      · refine r_room (C' := 0) (D' := 0) (by omega) (by omega) ?_
        exact t_X5_rowOf_32 hl0  (f_X5_rowOf_2  n) (fun b0 b1 b2 b3 τ h => ih b0 b1 b2 b3 τ h) h
      · refine r_aload_n 0 dX5_rowOf_20 rfl ?_
        refine r_iload_n 3 dX5_rowOf_21 rfl ?_
        refine r_iconst (v := 3) dX5_rowOf_22 rfl rfl ?_
        refine r_callV (K' := Y_X5_get) (R' := R_X5_get) (idx := 19) (n := 2) (b := a0) (as := [(0, a3), (0, 3)]) (rest := []) (C' := 0) (D' := 0) (cn := 5) rfl k0_X5_get kV_X5_get kl_X5_19 ⟨by decide, by decide⟩ dX5_rowOf_23 rfl rfl (Nat.le_of_ble_eq_true rfl) (by decide) (by decide) rfl h (fun r hr => m_X5_get hl0 ⟨r, hr, hr⟩) (fun x4 τ5 _ h => ?_)
        refine r_iload_n 2 dX5_rowOf_26 rfl ?_
        refine r_icmp_ne 32 dX5_rowOf_27 (by decide) h (fun h => ?_) (fun h => ?_)
        · refine r_room (C' := 0) (D' := 0) (by omega) (by omega) ?_
          exact t_X5_rowOf_32 hl0  (f_X5_rowOf_2  n) (fun b0 b1 b2 b3 τ h => ih b0 b1 b2 b3 τ h) h
        · refine r_iload_n 3 dX5_rowOf_30 rfl ?_
          exact r_iret rfl dX5_rowOf_31 h

set_option maxRecDepth 100000 in
set_option maxHeartbeats 4000000 in
theorem t_X5_rowOf {g : zF} (hl0 : g.2.2.2.1.stackTraces = false) {Q : zR × zS → Prop}   {a0 a1 a2 : Int} {σ : zS} (h : zo (f_X5_rowOf  a0 a1 a2 σ) Q) : zw g Y_X5_rowOf R_X5_rowOf 0 [(0, (4, a0)), (1, (0, a1)), (2, (0, a2))] [] σ 0 0 Q := by
  unfold f_X5_rowOf at h
  refine r_iconst (v := 0) dX5_rowOf_0 rfl rfl ?_
  refine r_istore_n (L' := [(3, (0, 0)), (0, (4, a0)), (1, (0, a1)), (2, (0, a2))]) dX5_rowOf_1 (by decide) rfl ?_
  refine r_weak (L' := [(0, (4, a0)), (1, (0, a1)), (2, (0, a2)), (3, (0, 0))]) [1, 2, 3, 0] rfl ?_
  refine r_room (C' := 0) (D' := 0) (by omega) (by omega) ?_
  exact t_X5_rowOf_2 hl0    zFU _ _ _ _ _ h
theorem m_X5_rowOf {g : zF} (hl0 : g.2.2.2.1.stackTraces = false) {Q : zR × zS → Prop} {a0 a1 a2 : Int} {σ : zS} (h : zo (f_X5_rowOf a0 a1 a2 σ) Q) : zm g Y_X5_rowOf R_X5_rowOf [(4, a0), (0, a1), (0, a2)] σ Q := zm_of (by decide) rfl (Nat.le_of_ble_eq_true rfl) (t_X5_rowOf hl0 h)


/- X5_closeGap -/

set_option maxRecDepth 100000 in
set_option maxHeartbeats 4000000 in
theorem t_X5_closeGap {g : zF} (hl0 : g.2.2.2.1.stackTraces = false) {Q : zR × zS → Prop}   {a0 a1 a2 : Int} {σ : zS} (h : zo (f_X5_closeGap  a0 a1 a2 σ) Q) : zw g Y_X5_closeGap R_X5_closeGap 0 [(0, (4, a0)), (1, (0, a1)), (2, (0, a2))] [] σ 0 0 Q := by
  unfold f_X5_closeGap at h
  refine r_aload_n 0 dX5_closeGap_0 rfl ?_
  refine r_getf fd_X5_15 rfl dX5_closeGap_1 h (fun x1 h => ?_)
  refine r_iload_n 2 dX5_closeGap_4 rfl ?_
  refine r_isub dX5_closeGap_5 ?_
  refine r_bipush (v := 8) dX5_closeGap_6 rfl rfl ?_
  refine r_imul dX5_closeGap_8 ?_
  refine r_istore_n (L' := [(3, (0, (w32 ((w32 (x1 - a2)) * 8)))), (0, (4, a0)), (1, (0, a1)), (2, (0, a2))]) dX5_closeGap_9 (by decide) rfl ?_
  refine r_iload_n 3 dX5_closeGap_10 rfl ?_
  refine r_bipush (v := 8) dX5_closeGap_11 rfl rfl ?_
  refine r_imul dX5_closeGap_13 ?_
  refine r_istore (L' := [(4, (0, (w32 (a2 * 8)))), (3, (0, (w32 ((w32 (x1 - a2)) * 8)))), (0, (4, a0)), (1, (0, a1)), (2, (0, a2))]) dX5_closeGap_14 (by decide) rfl ?_
  refine r_iload_n 3 dX5_closeGap_16 rfl ?_
  refine r_bipush (v := 8) dX5_closeGap_17 rfl rfl ?_
  refine r_imul dX5_closeGap_19 ?_
  refine r_istore (L' := [(5, (0, (w32 (a1 * 8)))), (4, (0, (w32 (a2 * 8)))), (3, (0, (w32 ((w32 (x1 - a2)) * 8)))), (0, (4, a0)), (1, (0, a1)), (2, (0, a2))]) dX5_closeGap_20 (by decide) rfl ?_
  refine r_iload 0 dX5_closeGap_22 rfl ?_
  refine r_if_lt 78 dX5_closeGap_24 (by decide) h (fun h => ?_) (fun h => ?_)
  · exact r_vret rfl dX5_closeGap_78 h
  · refine r_iload 0 dX5_closeGap_27 rfl ?_
    refine r_iload 1 dX5_closeGap_29 rfl ?_
    refine r_icmp_gt 78 dX5_closeGap_31 (by decide) h (fun h => ?_) (fun h => ?_)
    · exact r_vret rfl dX5_closeGap_78 h
    · refine r_iload_n 2 dX5_closeGap_34 rfl ?_
      refine r_if_lt 78 dX5_closeGap_35 (by decide) h (fun h => ?_) (fun h => ?_)
      · exact r_vret rfl dX5_closeGap_78 h
      · refine r_iload 1 dX5_closeGap_38 rfl ?_
        refine r_iload_n 2 dX5_closeGap_40 rfl ?_
        refine r_iadd dX5_closeGap_41 ?_
        refine r_aload_n 3 dX5_closeGap_42 rfl ?_
        refine r_getr fd_X5_9 rfl dX5_closeGap_43 h (fun x2 h => ?_)
        refine r_alen dX5_closeGap_46 h (fun x3 h => ?_)
        refine r_icmp_gt 78 dX5_closeGap_47 (by decide) h (fun h => ?_) (fun h => ?_)
        · exact r_vret rfl dX5_closeGap_78 h
        · refine r_aload_n 3 dX5_closeGap_50 rfl ?_
          refine r_getr fd_X5_9 rfl dX5_closeGap_51 h (fun x4 h => ?_)
          refine r_iload 1 dX5_closeGap_54 rfl ?_
          refine r_aload_n 3 dX5_closeGap_56 rfl ?_
          refine r_getr fd_X5_9 rfl dX5_closeGap_57 h (fun x5 h => ?_)
          refine r_iload 0 dX5_closeGap_60 rfl ?_
          refine r_iload_n 2 dX5_closeGap_62 rfl ?_
          refine r_acopy ac_X5_47 ⟨by decide, Nat.le_of_ble_eq_true rfl⟩ dX5_closeGap_63 h (fun τ6 h => ?_)
          refine r_aload_n 3 dX5_closeGap_66 rfl ?_
          refine r_dup dX5_closeGap_67 rfl ?_
          refine r_getf fd_X5_15 rfl dX5_closeGap_68 h (fun x7 h => ?_)
          refine r_iload_n 5 dX5_closeGap_71 rfl ?_
          refine r_iload_n 4 dX5_closeGap_72 rfl ?_
          refine r_isub dX5_closeGap_73 ?_
          refine r_isub dX5_closeGap_74 ?_
          refine r_putf fd_X5_15 fp_X5_closeGap_15 dX5_closeGap_75 h (fun τ8 h => ?_)
          exact r_vret rfl dX5_closeGap_78 h
theorem m_X5_closeGap {g : zF} (hl0 : g.2.2.2.1.stackTraces = false) {Q : zR × zS → Prop} {a0 a1 a2 : Int} {σ : zS} (h : zo (f_X5_closeGap a0 a1 a2 σ) Q) : zm g Y_X5_closeGap R_X5_closeGap [(4, a0), (0, a1), (0, a2)] σ Q := zm_of (by decide) rfl (Nat.le_of_ble_eq_true rfl) (t_X5_closeGap hl0 h)


/- X5_removeRow -/

set_option maxRecDepth 100000 in
set_option maxHeartbeats 4000000 in
theorem t_X5_removeRow {g : zF} (hl0 : g.2.2.2.1.stackTraces = false) {Q : zR × zS → Prop}   {a0 a1 : Int} {σ : zS} (h : zo (f_X5_removeRow  a0 a1 σ) Q) : zw g Y_X5_removeRow R_X5_removeRow 0 [(0, (4, a0)), (1, (0, a1))] [] σ 0 0 Q := by
  unfold f_X5_removeRow at h
  refine r_iload_n 1 dX5_removeRow_0 rfl ?_
  refine r_if_lt 20 dX5_removeRow_1 (by decide) h (fun h => ?_) (fun h => ?_)
  · exact r_vret rfl dX5_removeRow_20 h
  · refine r_iload_n 1 dX5_removeRow_4 rfl ?_
    refine r_aload_n 0 dX5_removeRow_5 rfl ?_
    refine r_getf fd_X5_15 rfl dX5_removeRow_6 h (fun x1 h => ?_)
    refine r_icmp_ge 20 dX5_removeRow_9 (by decide) h (fun h => ?_) (fun h => ?_)
    · exact r_vret rfl dX5_removeRow_20 h
    · refine r_aload_n 0 dX5_removeRow_12 rfl ?_
      refine r_iload_n 1 dX5_removeRow_13 rfl ?_
      refine r_iload_n 1 dX5_removeRow_14 rfl ?_
      refine r_iconst (v := 1) dX5_removeRow_15 rfl rfl ?_
      refine r_iadd dX5_removeRow_16 ?_
      refine r_callV (K' := Y_X5_closeGap) (R' := R_X5_closeGap) (idx := 35) (n := 2) (b := a0) (as := [(0, a1), (0, (w32 (a1 + 1)))]) (rest := []) (C' := 0) (D' := 0) (cn := 5) rfl k0_X5_closeGap kV_X5_closeGap kl_X5_35 ⟨by decide, by decide⟩ dX5_removeRow_17 rfl rfl (Nat.le_of_ble_eq_true rfl) (by decide) (by decide) rfl h (fun r hr => m_X5_closeGap hl0 ⟨r, hr, hr⟩) (fun _ τ3 _ h => ?_)
      exact r_vret rfl dX5_removeRow_20 h
theorem m_X5_removeRow {g : zF} (hl0 : g.2.2.2.1.stackTraces = false) {Q : zR × zS → Prop} {a0 a1 : Int} {σ : zS} (h : zo (f_X5_removeRow a0 a1 σ) Q) : zm g Y_X5_removeRow R_X5_removeRow [(4, a0), (0, a1)] σ Q := zm_of (by decide) rfl (Nat.le_of_ble_eq_true rfl) (t_X5_removeRow hl0 h)


/- X5_isFull -/

set_option maxRecDepth 100000 in
set_option maxHeartbeats 4000000 in
theorem t_X5_isFull {g : zF} (hl0 : g.2.2.2.1.stackTraces = false) {Q : zR × zS → Prop}   {a0 : Int} {σ : zS} (h : zo (f_X5_isFull  a0 σ) Q) : zw g Y_X5_isFull R_X5_isFull 0 [(0, (4, a0))] [] σ 0 0 Q := by
  unfold f_X5_isFull at h
  refine r_aload_n 0 dX5_isFull_0 rfl ?_
  refine r_getf fd_X5_15 rfl dX5_isFull_1 h (fun x1 h => ?_)
  refine r_iconst (v := 1) dX5_isFull_4 rfl rfl ?_
  refine r_iadd dX5_isFull_5 ?_
  refine r_bipush (v := 8) dX5_isFull_6 rfl rfl ?_
  refine r_imul dX5_isFull_8 ?_
  refine r_aload_n 0 dX5_isFull_9 rfl ?_
  refine r_getr fd_X5_9 rfl dX5_isFull_10 h (fun x2 h => ?_)
  refine r_alen dX5_isFull_13 h (fun x3 h => ?_)
  refine r_icmp_le 21 dX5_isFull_14 (by decide) h (fun h => ?_) (fun h => ?_)
  · refine r_iconst (v := 0) dX5_isFull_21 rfl rfl ?_
    exact r_zretc (by decide) rfl dX5_isFull_22 h
  · refine r_iconst (v := 1) dX5_isFull_17 rfl rfl ?_
    refine r_goto 22 dX5_isFull_18 (by decide) ?_
    exact r_zretc (by decide) rfl dX5_isFull_22 h
theorem m_X5_isFull {g : zF} (hl0 : g.2.2.2.1.stackTraces = false) {Q : zR × zS → Prop} {a0 : Int} {σ : zS} (h : zo (f_X5_isFull a0 σ) Q) : zm g Y_X5_isFull R_X5_isFull [(4, a0)] σ Q := zm_of (by decide) rfl (Nat.le_of_ble_eq_true rfl) (t_X5_isFull hl0 h)


/- X5_addRow -/

set_option maxRecDepth 100000 in
set_option maxHeartbeats 4000000 in
theorem t_X5_addRow {g : zF} (hl0 : g.2.2.2.1.stackTraces = false) {Q : zR × zS → Prop}   {a0 : Int} {σ : zS} (h : zo (f_X5_addRow  a0 σ) Q) : zw g Y_X5_addRow R_X5_addRow 0 [(0, (4, a0))] [] σ 0 0 Q := by
  unfold f_X5_addRow at h
  refine r_aload_n 0 dX5_addRow_0 rfl ?_
  refine r_callV (K' := Y_X5_isFull) (R' := R_X5_isFull) (idx := 23) (n := 0) (b := a0) (as := []) (rest := []) (C' := 0) (D' := 0) (cn := 5) rfl k0_X5_isFull kV_X5_isFull kl_X5_23 ⟨by decide, by decide⟩ dX5_addRow_1 rfl rfl (Nat.le_of_ble_eq_true rfl) (by decide) (by decide) rfl h (fun r hr => m_X5_isFull hl0 ⟨r, hr, hr⟩) (fun x1 τ2 _ h => ?_)
  refine r_if_eq 9 dX5_addRow_4 (by decide) h (fun h => ?_) (fun h => ?_)
  · refine r_aload_n 0 dX5_addRow_9 rfl ?_
    refine r_dup dX5_addRow_10 rfl ?_
    refine r_getf fd_X5_15 rfl dX5_addRow_11 h (fun x3 h => ?_)
    refine r_iconst (v := 1) dX5_addRow_14 rfl rfl ?_
    refine r_iadd dX5_addRow_15 ?_
    refine r_putf fd_X5_15 fp_X5_addRow_15 dX5_addRow_16 h (fun τ4 h => ?_)
    refine r_aload_n 0 dX5_addRow_19 rfl ?_
    refine r_getf fd_X5_15 rfl dX5_addRow_20 h (fun x5 h => ?_)
    refine r_iconst (v := 1) dX5_addRow_23 rfl rfl ?_
    refine r_isub dX5_addRow_24 ?_
    exact r_iret rfl dX5_addRow_25 h
  · refine r_iconst (v := (-1)) dX5_addRow_7 rfl rfl ?_
    exact r_iret rfl dX5_addRow_8 h
theorem m_X5_addRow {g : zF} (hl0 : g.2.2.2.1.stackTraces = false) {Q : zR × zS → Prop} {a0 : Int} {σ : zS} (h : zo (f_X5_addRow a0 σ) Q) : zm g Y_X5_addRow R_X5_addRow [(4, a0)] σ Q := zm_of (by decide) rfl (Nat.le_of_ble_eq_true rfl) (t_X5_addRow hl0 h)


/- X5_put -/

set_option maxRecDepth 100000 in
set_option maxHeartbeats 4000000 in
theorem t_X5_put {g : zF} (hl0 : g.2.2.2.1.stackTraces = false) {Q : zR × zS → Prop}   {a0 a1 a2 a3 : Int} {σ : zS} (h : zo (f_X5_put  a0 a1 a2 a3 σ) Q) : zw g Y_X5_put R_X5_put 0 [(0, (4, a0)), (1, (0, a1)), (2, (0, a2)), (3, (0, a3))] [] σ 0 0 Q := by
  unfold f_X5_put at h
  refine r_iload_n 1 dX5_put_0 rfl ?_
  refine r_if_lt 22 dX5_put_1 (by decide) h (fun h => ?_) (fun h => ?_)
  · exact r_vret rfl dX5_put_22 h
  · refine r_iload_n 1 dX5_put_4 rfl ?_
    refine r_aload_n 0 dX5_put_5 rfl ?_
    refine r_getf fd_X5_15 rfl dX5_put_6 h (fun x1 h => ?_)
    refine r_icmp_ge 22 dX5_put_9 (by decide) h (fun h => ?_) (fun h => ?_)
    · exact r_vret rfl dX5_put_22 h
    · refine r_iload_n 2 dX5_put_12 rfl ?_
      refine r_if_lt 22 dX5_put_13 (by decide) h (fun h => ?_) (fun h => ?_)
      · exact r_vret rfl dX5_put_22 h
      · refine r_iload_n 2 dX5_put_16 rfl ?_
        refine r_bipush (v := 8) dX5_put_17 rfl rfl ?_
        refine r_icmp_lt 23 dX5_put_19 (by decide) h (fun h => ?_) (fun h => ?_)
        · refine r_iload_n 1 dX5_put_23 rfl ?_
          refine r_bipush (v := 8) dX5_put_24 rfl rfl ?_
          refine r_imul dX5_put_26 ?_
          refine r_iload_n 2 dX5_put_27 rfl ?_
          refine r_iadd dX5_put_28 ?_
          refine r_istore (L' := [(4, (0, (w32 ((w32 (a1 * 8)) + a2)))), (0, (4, a0)), (1, (0, a1)), (2, (0, a2)), (3, (0, a3))]) dX5_put_29 (by decide) rfl ?_
          refine r_iload 0 dX5_put_31 rfl ?_
          refine r_if_lt 54 dX5_put_33 (by decide) h (fun h => ?_) (fun h => ?_)
          · exact r_vret rfl dX5_put_54 h
          · refine r_iload 0 dX5_put_36 rfl ?_
            refine r_aload_n 1 dX5_put_38 rfl ?_
            refine r_getr fd_X5_9 rfl dX5_put_39 h (fun x2 h => ?_)
            refine r_alen dX5_put_42 h (fun x3 h => ?_)
            refine r_icmp_ge 54 dX5_put_43 (by decide) h (fun h => ?_) (fun h => ?_)
            · exact r_vret rfl dX5_put_54 h
            · refine r_aload_n 1 dX5_put_46 rfl ?_
              refine r_getr fd_X5_9 rfl dX5_put_47 h (fun x4 h => ?_)
              refine r_iload 0 dX5_put_50 rfl ?_
              refine r_iload_n 4 dX5_put_52 rfl ?_
              refine r_iast dX5_put_53 h (fun τ5 h => ?_)
              exact r_vret rfl dX5_put_54 h
        · exact r_vret rfl dX5_put_22 h
theorem m_X5_put {g : zF} (hl0 : g.2.2.2.1.stackTraces = false) {Q : zR × zS → Prop} {a0 a1 a2 a3 : Int} {σ : zS} (h : zo (f_X5_put a0 a1 a2 a3 σ) Q) : zm g Y_X5_put R_X5_put [(4, a0), (0, a1), (0, a2), (0, a3)] σ Q := zm_of (by decide) rfl (Nat.le_of_ble_eq_true rfl) (t_X5_put hl0 h)


/- X5_lowMoved -/

set_option maxRecDepth 100000 in
set_option maxHeartbeats 4000000 in
theorem t_X5_lowMoved {g : zF} (hl0 : g.2.2.2.1.stackTraces = false) {Q : zR × zS → Prop}   {a0 a1 a2 : Int} {σ : zS} (h : zo (f_X5_lowMoved  a0 a1 a2 σ) Q) : zw g Y_X5_lowMoved R_X5_lowMoved 0 [(0, (4, a0)), (1, (0, a1)), (2, (0, a2))] [] σ 0 0 Q := by
  unfold f_X5_lowMoved at h
  refine r_iconst (v := 0) dX5_lowMoved_0 rfl rfl ?_
  refine r_aload_n 0 dX5_lowMoved_1 rfl ?_
  refine r_iload_n 1 dX5_lowMoved_2 rfl ?_
  refine r_iconst (v := 5) dX5_lowMoved_3 rfl rfl ?_
  refine r_callV (K' := Y_X5_get) (R' := R_X5_get) (idx := 19) (n := 2) (b := a0) (as := [(0, a1), (0, 5)]) (rest := [(0, 0)]) (C' := 0) (D' := 0) (cn := 5) rfl k0_X5_get kV_X5_get kl_X5_19 ⟨by decide, by decide⟩ dX5_lowMoved_4 rfl rfl (Nat.le_of_ble_eq_true rfl) (by decide) (by decide) rfl h (fun r hr => m_X5_get hl0 ⟨r, hr, hr⟩) (fun x1 τ2 _ h => ?_)
  refine r_iload_n 2 dX5_lowMoved_7 rfl ?_
  refine r_isub dX5_lowMoved_8 ?_
  refine r_mmax mq_X5_44 ⟨by decide, Nat.le_of_ble_eq_true rfl⟩ rfl dX5_lowMoved_9 ?_
  exact r_iret rfl dX5_lowMoved_12 h
theorem m_X5_lowMoved {g : zF} (hl0 : g.2.2.2.1.stackTraces = false) {Q : zR × zS → Prop} {a0 a1 a2 : Int} {σ : zS} (h : zo (f_X5_lowMoved a0 a1 a2 σ) Q) : zm g Y_X5_lowMoved R_X5_lowMoved [(4, a0), (0, a1), (0, a2)] σ Q := zm_of (by decide) rfl (Nat.le_of_ble_eq_true rfl) (t_X5_lowMoved hl0 h)


/- X5_highMoved -/

set_option maxRecDepth 100000 in
set_option maxHeartbeats 4000000 in
theorem t_X5_highMoved {g : zF} (hl0 : g.2.2.2.1.stackTraces = false) {Q : zR × zS → Prop}   {a0 a1 a2 : Int} {σ : zS} (h : zo (f_X5_highMoved  a0 a1 a2 σ) Q) : zw g Y_X5_highMoved R_X5_highMoved 0 [(0, (4, a0)), (1, (0, a1)), (2, (0, a2))] [] σ 0 0 Q := by
  unfold f_X5_highMoved at h
  refine r_sipush (v := 999) dX5_highMoved_0 rfl rfl ?_
  refine r_aload_n 0 dX5_highMoved_3 rfl ?_
  refine r_iload_n 1 dX5_highMoved_4 rfl ?_
  refine r_bipush (v := 6) dX5_highMoved_5 rfl rfl ?_
  refine r_callV (K' := Y_X5_get) (R' := R_X5_get) (idx := 19) (n := 2) (b := a0) (as := [(0, a1), (0, 6)]) (rest := [(0, 999)]) (C' := 0) (D' := 0) (cn := 5) rfl k0_X5_get kV_X5_get kl_X5_19 ⟨by decide, by decide⟩ dX5_highMoved_7 rfl rfl (Nat.le_of_ble_eq_true rfl) (by decide) (by decide) rfl h (fun r hr => m_X5_get hl0 ⟨r, hr, hr⟩) (fun x1 τ2 _ h => ?_)
  refine r_iload_n 2 dX5_highMoved_10 rfl ?_
  refine r_iadd dX5_highMoved_11 ?_
  refine r_mmin mq_X5_39 ⟨by decide, Nat.le_of_ble_eq_true rfl⟩ rfl dX5_highMoved_12 ?_
  exact r_iret rfl dX5_highMoved_15 h
theorem m_X5_highMoved {g : zF} (hl0 : g.2.2.2.1.stackTraces = false) {Q : zR × zS → Prop} {a0 a1 a2 : Int} {σ : zS} (h : zo (f_X5_highMoved a0 a1 a2 σ) Q) : zm g Y_X5_highMoved R_X5_highMoved [(4, a0), (0, a1), (0, a2)] σ Q := zm_of (by decide) rfl (Nat.le_of_ble_eq_true rfl) (t_X5_highMoved hl0 h)


/- X1_judge -/

set_option maxRecDepth 100000 in
set_option maxHeartbeats 4000000 in
theorem t_X1_judge_153 {g : zF} (hl0 : g.2.2.2.1.stackTraces = false) {Q : zR × zS → Prop}   {a10 s0 s1 s2 : Int} {σ : zS} (h : zo (f_X1_judge_153  a10 s0 s1 s2 σ) Q) : zw g Y_X1_judge R_X1_judge 153 [(10, (0, a10))] [(0, s2), (0, s1), (4, s0)] σ 0 0 Q := by
  unfold f_X1_judge_153 at h
  refine r_callV (K' := Y_X1_tally) (R' := R_X1_tally) (idx := 132) (n := 2) (b := s0) (as := [(0, s1), (0, s2)]) (rest := []) (C' := 0) (D' := 0) (cn := 1) rfl k0_X1_tally kV_X1_tally kl_X1_132 ⟨by decide, by decide⟩ dX1_judge_153 rfl rfl (Nat.le_of_ble_eq_true rfl) (by decide) (by decide) rfl h (fun r hr => m_X1_tally hl0 ⟨r, hr, hr⟩) (fun _ τ2 _ h => ?_)
  refine r_iload 0 dX1_judge_156 rfl ?_
  exact r_zret rfl dX1_judge_158 h

set_option maxRecDepth 100000 in
set_option maxHeartbeats 4000000 in
theorem t_X1_judge_120 {g : zF} (hl0 : g.2.2.2.1.stackTraces = false) {Q : zR × zS → Prop}   {a0 a1 a5 a10 s0 s1 : Int} {σ : zS} (h : zo (f_X1_judge_120  a0 a1 a5 a10 s0 s1 σ) Q) : zw g Y_X1_judge R_X1_judge 120 [(0, (4, a0)), (1, (0, a1)), (5, (0, a5)), (10, (0, a10))] [(0, s1), (0, s0)] σ 0 0 Q := by
  unfold f_X1_judge_120 at h
  refine r_iadd dX1_judge_120 ?_
  refine r_istore (L' := [(11, (0, (w32 (s0 + s1)))), (0, (4, a0)), (1, (0, a1)), (5, (0, a5)), (10, (0, a10))]) dX1_judge_121 (by decide) rfl ?_
  refine r_aload_n 1 dX1_judge_123 rfl ?_
  refine r_iload_n 2 dX1_judge_124 rfl ?_
  refine r_iload 3 dX1_judge_125 rfl ?_
  refine r_iconst (v := 0) dX1_judge_127 rfl rfl ?_
  refine r_bipush (v := 10) dX1_judge_128 rfl rfl ?_
  refine r_iload 0 dX1_judge_130 rfl ?_
  refine r_mmin mq_X1_83 ⟨by decide, Nat.le_of_ble_eq_true rfl⟩ rfl dX1_judge_132 ?_
  refine r_mmax mq_X1_142 ⟨by decide, Nat.le_of_ble_eq_true rfl⟩ rfl dX1_judge_135 ?_
  refine r_callV (K' := Y_X1_putTrust) (R' := R_X1_putTrust) (idx := 148) (n := 3) (b := a0) (as := [(0, a1), (0, a5), (0, (max 0 (min 10 (w32 (s0 + s1)))))]) (rest := []) (C' := 0) (D' := 0) (cn := 1) rfl k0_X1_putTrust kV_X1_putTrust kl_X1_148 ⟨by decide, by decide⟩ dX1_judge_138 rfl rfl (Nat.le_of_ble_eq_true rfl) (by decide) (by decide) rfl h (fun r hr => m_X1_putTrust hl0 ⟨r, hr, hr⟩) (fun _ τ2 _ h => ?_)
  refine r_aload_n 1 dX1_judge_141 rfl ?_
  refine r_iload_n 2 dX1_judge_142 rfl ?_
  refine r_iload 4 dX1_judge_143 rfl ?_
  refine r_if_eq 152 dX1_judge_145 (by decide) h (fun h => ?_) (fun h => ?_)
  · refine r_iconst (v := 3) dX1_judge_152 rfl rfl ?_
    refine r_weak (L' := [(10, (0, a10))]) [4] rfl ?_
    refine r_room (C' := 0) (D' := 0) (by omega) (by omega) ?_
    exact t_X1_judge_153 hl0    h
  · refine r_iconst (v := 4) dX1_judge_148 rfl rfl ?_
    refine r_goto 153 dX1_judge_149 (by decide) ?_
    refine r_weak (L' := [(10, (0, a10))]) [4] rfl ?_
    refine r_room (C' := 0) (D' := 0) (by omega) (by omega) ?_
    exact t_X1_judge_153 hl0    h

set_option maxRecDepth 100000 in
set_option maxHeartbeats 4000000 in
theorem t_X1_judge_100 {g : zF} (hl0 : g.2.2.2.1.stackTraces = false) {Q : zR × zS → Prop}   {a0 a1 a5 s0 : Int} {σ : zS} (h : zo (f_X1_judge_100  a0 a1 a5 s0 σ) Q) : zw g Y_X1_judge R_X1_judge 100 [(0, (4, a0)), (1, (0, a1)), (5, (0, a5))] [(0, s0)] σ 0 0 Q := by
  unfold f_X1_judge_100 at h
  refine r_istore (L' := [(10, (0, s0)), (0, (4, a0)), (1, (0, a1)), (5, (0, a5))]) dX1_judge_100 (by decide) rfl ?_
  refine r_aload_n 1 dX1_judge_102 rfl ?_
  refine r_iload_n 2 dX1_judge_103 rfl ?_
  refine r_iload 3 dX1_judge_104 rfl ?_
  refine r_callV (K' := Y_X1_trustIn) (R' := R_X1_trustIn) (idx := 98) (n := 2) (b := a0) (as := [(0, a1), (0, a5)]) (rest := []) (C' := 0) (D' := 0) (cn := 1) rfl k0_X1_trustIn kV_X1_trustIn kl_X1_98 ⟨by decide, by decide⟩ dX1_judge_106 rfl rfl (Nat.le_of_ble_eq_true rfl) (by decide) (by decide) rfl h (fun r hr => m_X1_trustIn hl0 ⟨r, hr, hr⟩) (fun x1 τ2 _ h => ?_)
  refine r_iload 0 dX1_judge_109 rfl ?_
  refine r_if_eq 119 dX1_judge_111 (by decide) h (fun h => ?_) (fun h => ?_)
  · refine r_iconst (v := 1) dX1_judge_119 rfl rfl ?_
    refine r_weak (L' := [(0, (4, a0)), (1, (0, a1)), (5, (0, a5)), (10, (0, s0))]) [1, 2, 3, 0] rfl ?_
    refine r_room (C' := 0) (D' := 0) (by omega) (by omega) ?_
    exact t_X1_judge_120 hl0    h
  · refine r_bipush (v := (-2)) dX1_judge_114 rfl rfl ?_
    refine r_goto 120 dX1_judge_116 (by decide) ?_
    refine r_weak (L' := [(0, (4, a0)), (1, (0, a1)), (5, (0, a5)), (10, (0, s0))]) [1, 2, 3, 0] rfl ?_
    refine r_room (C' := 0) (D' := 0) (by omega) (by omega) ?_
    exact t_X1_judge_120 hl0    h

set_option maxRecDepth 100000 in
set_option maxHeartbeats 4000000 in
theorem t_X1_judge {g : zF} (hl0 : g.2.2.2.1.stackTraces = false) {Q : zR × zS → Prop}   {a0 a1 a2 a3 : Int} {σ : zS} (h : zo (f_X1_judge  a0 a1 a2 a3 σ) Q) : zw g Y_X1_judge R_X1_judge 0 [(0, (4, a0)), (1, (0, a1)), (2, (0, a2)), (3, (0, a3))] [] σ 0 0 Q := by
  unfold f_X1_judge at h
  refine r_aload_n 0 dX1_judge_0 rfl ?_
  refine r_iload_n 1 dX1_judge_1 rfl ?_
  refine r_callV (K' := Y_X1_listOf) (R' := R_X1_listOf) (idx := 67) (n := 1) (b := a0) (as := [(0, a1)]) (rest := []) (C' := 0) (D' := 0) (cn := 1) rfl k0_X1_listOf kV_X1_listOf kl_X1_67 ⟨by decide, by decide⟩ dX1_judge_2 rfl rfl (Nat.le_of_ble_eq_true rfl) (by decide) (by decide) rfl h (fun r hr => m_X1_listOf hl0 ⟨r, hr, hr⟩) (fun x1 τ2 _ h => ?_)
  refine r_astore (L' := [(4, (4, x1)), (0, (4, a0)), (1, (0, a1)), (2, (0, a2)), (3, (0, a3))]) dX1_judge_5 (by decide) rfl ?_
  refine r_aload 0 dX1_judge_7 rfl ?_
  refine r_iload_n 3 dX1_judge_9 rfl ?_
  refine r_iconst (v := 1) dX1_judge_10 rfl rfl ?_
  refine r_callV (K' := Y_X5_get) (R' := R_X5_get) (idx := 111) (n := 2) (b := x1) (as := [(0, a2), (0, 1)]) (rest := []) (C' := 0) (D' := 0) (cn := 5) rfl k0_X5_get kV_X5_get kl_X1_111 ⟨by decide, by decide⟩ dX1_judge_11 rfl rfl (Nat.le_of_ble_eq_true rfl) (by decide) (by decide) rfl h (fun r hr => m_X5_get hl0 ⟨r, hr, hr⟩) (fun x3 τ4 _ h => ?_)
  refine r_istore (L' := [(5, (0, x3)), (4, (4, x1)), (0, (4, a0)), (1, (0, a1)), (2, (0, a2)), (3, (0, a3))]) dX1_judge_14 (by decide) rfl ?_
  refine r_aload_n 2 dX1_judge_16 rfl ?_
  refine r_iload_n 3 dX1_judge_17 rfl ?_
  refine r_iload 0 dX1_judge_18 rfl ?_
  refine r_callV (K' := Y_X1_isLinked) (R' := R_X1_isLinked) (idx := 101) (n := 2) (b := a0) (as := [(0, a1), (0, x3)]) (rest := []) (C' := 0) (D' := 0) (cn := 1) rfl k0_X1_isLinked kV_X1_isLinked kl_X1_101 ⟨by decide, by decide⟩ dX1_judge_20 rfl rfl (Nat.le_of_ble_eq_true rfl) (by decide) (by decide) rfl h (fun r hr => m_X1_isLinked hl0 ⟨r, hr, hr⟩) (fun x5 τ6 _ h => ?_)
  refine r_if_ne 28 dX1_judge_23 (by decide) h (fun h => ?_) (fun h => ?_)
  · refine r_aload_n 2 dX1_judge_28 rfl ?_
    refine r_aload 1 dX1_judge_29 rfl ?_
    refine r_iload_n 4 dX1_judge_31 rfl ?_
    refine r_callV (K' := Y_X1_driftOf) (R' := R_X1_driftOf) (idx := 114) (n := 2) (b := a0) (as := [(4, x1), (0, a2)]) (rest := []) (C' := 0) (D' := 0) (cn := 1) rfl k0_X1_driftOf kV_X1_driftOf kl_X1_114 ⟨by decide, by decide⟩ dX1_judge_32 rfl rfl (Nat.le_of_ble_eq_true rfl) (by decide) (by decide) rfl h (fun r hr => m_X1_driftOf hl0 ⟨r, hr, hr⟩) (fun x7 τ8 _ h => ?_)
    refine r_istore (L' := [(6, (0, x7)), (5, (0, x3)), (4, (4, x1)), (0, (4, a0)), (1, (0, a1)), (2, (0, a2)), (3, (0, a3))]) dX1_judge_35 (by decide) rfl ?_
    refine r_aload_n 3 dX1_judge_37 rfl ?_
    refine r_aload 2 dX1_judge_38 rfl ?_
    refine r_iload_n 6 dX1_judge_40 rfl ?_
    refine r_callV (K' := Y_X1_driftOf) (R' := R_X1_driftOf) (idx := 114) (n := 2) (b := a0) (as := [(4, x1), (0, a3)]) (rest := []) (C' := 0) (D' := 0) (cn := 1) rfl k0_X1_driftOf kV_X1_driftOf kl_X1_114 ⟨by decide, by decide⟩ dX1_judge_41 rfl rfl (Nat.le_of_ble_eq_true rfl) (by decide) (by decide) rfl h (fun r hr => m_X1_driftOf hl0 ⟨r, hr, hr⟩) (fun x9 τ10 _ h => ?_)
    refine r_istore (L' := [(7, (0, x9)), (6, (0, x7)), (5, (0, x3)), (4, (4, x1)), (0, (4, a0)), (1, (0, a1)), (2, (0, a2)), (3, (0, a3))]) dX1_judge_44 (by decide) rfl ?_
    refine r_aload 3 dX1_judge_46 rfl ?_
    refine r_iload_n 6 dX1_judge_48 rfl ?_
    refine r_iload 1 dX1_judge_49 rfl ?_
    refine r_callV (K' := Y_X5_lowMoved) (R' := R_X5_lowMoved) (idx := 139) (n := 2) (b := x1) (as := [(0, a2), (0, x7)]) (rest := []) (C' := 0) (D' := 0) (cn := 5) rfl k0_X5_lowMoved kV_X5_lowMoved kl_X1_139 ⟨by decide, by decide⟩ dX1_judge_51 rfl rfl (Nat.le_of_ble_eq_true rfl) (by decide) (by decide) rfl h (fun r hr => m_X5_lowMoved hl0 ⟨r, hr, hr⟩) (fun x11 τ12 _ h => ?_)
    refine r_aload 3 dX1_judge_54 rfl ?_
    refine r_iload_n 7 dX1_judge_56 rfl ?_
    refine r_iload 0 dX1_judge_57 rfl ?_
    refine r_callV (K' := Y_X5_lowMoved) (R' := R_X5_lowMoved) (idx := 139) (n := 2) (b := x1) (as := [(0, a3), (0, x9)]) (rest := [(0, x11)]) (C' := 0) (D' := 0) (cn := 5) rfl k0_X5_lowMoved kV_X5_lowMoved kl_X1_139 ⟨by decide, by decide⟩ dX1_judge_59 rfl rfl (Nat.le_of_ble_eq_true rfl) (by decide) (by decide) rfl h (fun r hr => m_X5_lowMoved hl0 ⟨r, hr, hr⟩) (fun x13 τ14 _ h => ?_)
    refine r_mmax mq_X1_142 ⟨by decide, Nat.le_of_ble_eq_true rfl⟩ rfl dX1_judge_62 ?_
    refine r_istore (L' := [(8, (0, (max x11 x13))), (7, (0, x9)), (6, (0, x7)), (5, (0, x3)), (4, (4, x1)), (0, (4, a0)), (1, (0, a1)), (2, (0, a2)), (3, (0, a3))]) dX1_judge_65 (by decide) rfl ?_
    refine r_aload 4 dX1_judge_67 rfl ?_
    refine r_iload_n 7 dX1_judge_69 rfl ?_
    refine r_iload 2 dX1_judge_70 rfl ?_
    refine r_callV (K' := Y_X5_highMoved) (R' := R_X5_highMoved) (idx := 145) (n := 2) (b := x1) (as := [(0, a2), (0, x7)]) (rest := []) (C' := 0) (D' := 0) (cn := 5) rfl k0_X5_highMoved kV_X5_highMoved kl_X1_145 ⟨by decide, by decide⟩ dX1_judge_72 rfl rfl (Nat.le_of_ble_eq_true rfl) (by decide) (by decide) rfl h (fun r hr => m_X5_highMoved hl0 ⟨r, hr, hr⟩) (fun x15 τ16 _ h => ?_)
    refine r_aload 4 dX1_judge_75 rfl ?_
    refine r_iload_n 8 dX1_judge_77 rfl ?_
    refine r_iload 1 dX1_judge_78 rfl ?_
    refine r_callV (K' := Y_X5_highMoved) (R' := R_X5_highMoved) (idx := 145) (n := 2) (b := x1) (as := [(0, a3), (0, x9)]) (rest := [(0, x15)]) (C' := 0) (D' := 0) (cn := 5) rfl k0_X5_highMoved kV_X5_highMoved kl_X1_145 ⟨by decide, by decide⟩ dX1_judge_80 rfl rfl (Nat.le_of_ble_eq_true rfl) (by decide) (by decide) rfl h (fun r hr => m_X5_highMoved hl0 ⟨r, hr, hr⟩) (fun x17 τ18 _ h => ?_)
    refine r_mmin mq_X1_83 ⟨by decide, Nat.le_of_ble_eq_true rfl⟩ rfl dX1_judge_83 ?_
    refine r_istore (L' := [(9, (0, (min x15 x17))), (8, (0, (max x11 x13))), (7, (0, x9)), (6, (0, x7)), (5, (0, x3)), (4, (4, x1)), (0, (4, a0)), (1, (0, a1)), (2, (0, a2)), (3, (0, a3))]) dX1_judge_86 (by decide) rfl ?_
    refine r_iload 1 dX1_judge_88 rfl ?_
    refine r_iload 0 dX1_judge_90 rfl ?_
    refine r_icmp_le 99 dX1_judge_92 (by decide) h (fun h => ?_) (fun h => ?_)
    · refine r_iconst (v := 0) dX1_judge_99 rfl rfl ?_
      refine r_weak (L' := [(0, (4, a0)), (1, (0, a1)), (5, (0, x3))]) [6, 7, 4] rfl ?_
      refine r_room (C' := 0) (D' := 0) (by omega) (by omega) ?_
      exact t_X1_judge_100 hl0    h
    · refine r_iconst (v := 1) dX1_judge_95 rfl rfl ?_
      refine r_goto 100 dX1_judge_96 (by decide) ?_
      refine r_weak (L' := [(0, (4, a0)), (1, (0, a1)), (5, (0, x3))]) [6, 7, 4] rfl ?_
      refine r_room (C' := 0) (D' := 0) (by omega) (by omega) ?_
      exact t_X1_judge_100 hl0    h
  · refine r_iconst (v := 0) dX1_judge_26 rfl rfl ?_
    exact r_zretc (by decide) rfl dX1_judge_27 h
theorem m_X1_judge {g : zF} (hl0 : g.2.2.2.1.stackTraces = false) {Q : zR × zS → Prop} {a0 a1 a2 a3 : Int} {σ : zS} (h : zo (f_X1_judge a0 a1 a2 a3 σ) Q) : zm g Y_X1_judge R_X1_judge [(4, a0), (0, a1), (0, a2), (0, a3)] σ Q := zm_of (by decide) rfl (Nat.le_of_ble_eq_true rfl) (t_X1_judge hl0 h)


/- X1_makeProbe -/

set_option maxRecDepth 100000 in
set_option maxHeartbeats 4000000 in
theorem t_X1_makeProbe_140 {g : zF} (hl0 : g.2.2.2.1.stackTraces = false) {Q : zR × zS → Prop} (r106 : Int → Int → Int → Int → Int → Int → Int → zS → zFn) (hr106 : ∀ b0 b1 b2 b5 b6 b7 b8 τ, zo (r106 b0 b1 b2 b5 b6 b7 b8 τ) Q → zw g Y_X1_makeProbe R_X1_makeProbe 106 [(0, (4, b0)), (1, (0, b1)), (2, (0, b2)), (5, (4, b5)), (6, (0, b6)), (7, (0, b7)), (8, (0, b8))] [] τ 0 0 Q) {a0 a1 a2 a5 a6 a7 a8 : Int} {σ : zS} (h : zo (f_X1_makeProbe_140 r106 a0 a1 a2 a5 a6 a7 a8 σ) Q) : zw g Y_X1_makeProbe R_X1_makeProbe 140 [(0, (4, a0)), (1, (0, a1)), (2, (0, a2)), (5, (4, a5)), (6, (0, a6)), (7, (0, a7)), (8, (0, a8))] [] σ 0 0 Q := by
  unfold f_X1_makeProbe_140 at h
  refine r_iinc (L' := [(8, (0, (w32 (a8 + 1)))), (0, (4, a0)), (1, (0, a1)), (2, (0, a2)), (5, (4, a5)), (6, (0, a6)), (7, (0, a7))]) 6 dX1_makeProbe_140 rfl (by decide) rfl ?_
  refine r_goto 106 dX1_makeProbe_143 (by decide) ?_
  refine r_weak (L' := [(0, (4, a0)), (1, (0, a1)), (2, (0, a2)), (5, (4, a5)), (6, (0, a6)), (7, (0, a7)), (8, (0, (w32 (a8 + 1))))]) [1, 2, 3, 4, 5, 6, 0] rfl ?_
  refine r_room (C' := 0) (D' := 0) (by omega) (by omega) ?_
  exact hr106 _ _ _ _ _ _ _ _ h

set_option maxRecDepth 100000 in
set_option maxHeartbeats 4000000 in
theorem t_X1_makeProbe_106 {g : zF} (hl0 : g.2.2.2.1.stackTraces = false) {Q : zR × zS → Prop}   : ∀ (n : Nat) (a0 a1 a2 a5 a6 a7 a8 : Int) (σ : zS), zo (f_X1_makeProbe_106  n a0 a1 a2 a5 a6 a7 a8 σ) Q → zw g Y_X1_makeProbe R_X1_makeProbe 106 [(0, (4, a0)), (1, (0, a1)), (2, (0, a2)), (5, (4, a5)), (6, (0, a6)), (7, (0, a7)), (8, (0, a8))] [] σ 0 0 Q := by
  intro n
  induction n with
  | zero => intro a0 a1 a2 a5 a6 a7 a8 σ h; obtain ⟨r, h, -⟩ := h; cases h
  | succ n ih =>
    intro a0 a1 a2 a5 a6 a7 a8 σ h
    unfold f_X1_makeProbe_106 at h
    refine r_iload 6 dX1_makeProbe_106 rfl ?_
    refine r_iload 4 dX1_makeProbe_108 rfl ?_
    refine r_icmp_ge 146 dX1_makeProbe_110 (by decide) h (fun h => ?_) (fun h => ?_)
    · refine r_iload 5 dX1_makeProbe_146 rfl ?_
      exact r_iret rfl dX1_makeProbe_148 h
    · refine r_aload 3 dX1_makeProbe_113 rfl ?_
      refine r_iload 6 dX1_makeProbe_115 rfl ?_
      refine r_iconst (v := 3) dX1_makeProbe_117 rfl rfl ?_
      refine r_callV (K' := Y_X5_get) (R' := R_X5_get) (idx := 111) (n := 2) (b := a5) (as := [(0, a8), (0, 3)]) (rest := []) (C' := 0) (D' := 0) (cn := 5) rfl k0_X5_get kV_X5_get kl_X1_111 ⟨by decide, by decide⟩ dX1_makeProbe_118 rfl rfl (Nat.le_of_ble_eq_true rfl) (by decide) (by decide) rfl h (fun r hr => m_X5_get hl0 ⟨r, hr, hr⟩) (fun x1 τ2 _ h => ?_)
      refine r_iload_n 2 dX1_makeProbe_121 rfl ?_
      refine r_icmp_ne 140 dX1_makeProbe_122 (by decide) h (fun h => ?_) (fun h => ?_)
      · refine r_room (C' := 0) (D' := 0) (by omega) (by omega) ?_
        exact t_X1_makeProbe_140 hl0  (f_X1_makeProbe_106  n) (fun b0 b1 b2 b5 b6 b7 b8 τ h => ih b0 b1 b2 b5 b6 b7 b8 τ h) h
      · refine r_aload_n 0 dX1_makeProbe_125 rfl ?_
        refine r_iload_n 1 dX1_makeProbe_126 rfl ?_
        refine r_iload 6 dX1_makeProbe_127 rfl ?_
        refine r_iload 4 dX1_makeProbe_129 rfl ?_
        refine r_callV (K' := Y_X1_judge) (R' := R_X1_judge) (idx := 135) (n := 3) (b := a0) (as := [(0, a1), (0, a8), (0, a6)]) (rest := []) (C' := 0) (D' := 0) (cn := 1) rfl k0_X1_judge kV_X1_judge kl_X1_135 ⟨by decide, by decide⟩ dX1_makeProbe_131 rfl rfl (Nat.le_of_ble_eq_true rfl) (by decide) (by decide) rfl h (fun r hr => m_X1_judge hl0 ⟨r, hr, hr⟩) (fun x3 τ4 _ h => ?_)
        refine r_if_eq 140 dX1_makeProbe_134 (by decide) h (fun h => ?_) (fun h => ?_)
        · refine r_room (C' := 0) (D' := 0) (by omega) (by omega) ?_
          exact t_X1_makeProbe_140 hl0  (f_X1_makeProbe_106  n) (fun b0 b1 b2 b5 b6 b7 b8 τ h => ih b0 b1 b2 b5 b6 b7 b8 τ h) h
        · refine r_iinc (L' := [(7, (0, (w32 (a7 + 1)))), (0, (4, a0)), (1, (0, a1)), (2, (0, a2)), (5, (4, a5)), (6, (0, a6)), (8, (0, a8))]) 5 dX1_makeProbe_137 rfl (by decide) rfl ?_
          refine r_weak (L' := [(0, (4, a0)), (1, (0, a1)), (2, (0, a2)), (5, (4, a5)), (6, (0, a6)), (7, (0, (w32 (a7 + 1)))), (8, (0, a8))]) [1, 2, 3, 4, 5, 0, 6] rfl ?_
          refine r_room (C' := 0) (D' := 0) (by omega) (by omega) ?_
          exact t_X1_makeProbe_140 hl0  (f_X1_makeProbe_106  n) (fun b0 b1 b2 b5 b6 b7 b8 τ h => ih b0 b1 b2 b5 b6 b7 b8 τ h) h

set_option maxRecDepth 100000 in
set_option maxHeartbeats 4000000 in
theorem t_X1_makeProbe {g : zF} (hl0 : g.2.2.2.1.stackTraces = false) {Q : zR × zS → Prop}   {a0 a1 a2 a3 a4 : Int} {σ : zS} (h : zo (f_X1_makeProbe  a0 a1 a2 a3 a4 σ) Q) : zw g Y_X1_makeProbe R_X1_makeProbe 0 [(0, (4, a0)), (1, (0, a1)), (2, (0, a2)), (3, (0, a3)), (4, (0, a4))] [] σ 0 0 Q := by
  unfold f_X1_makeProbe at h
  refine r_aload_n 0 dX1_makeProbe_0 rfl ?_
  refine r_iload_n 1 dX1_makeProbe_1 rfl ?_
  refine r_callV (K' := Y_X1_listOf) (R' := R_X1_listOf) (idx := 67) (n := 1) (b := a0) (as := [(0, a1)]) (rest := []) (C' := 0) (D' := 0) (cn := 1) rfl k0_X1_listOf kV_X1_listOf kl_X1_67 ⟨by decide, by decide⟩ dX1_makeProbe_2 rfl rfl (Nat.le_of_ble_eq_true rfl) (by decide) (by decide) rfl h (fun r hr => m_X1_listOf hl0 ⟨r, hr, hr⟩) (fun x1 τ2 _ h => ?_)
  refine r_astore (L' := [(5, (4, x1)), (0, (4, a0)), (1, (0, a1)), (2, (0, a2)), (3, (0, a3)), (4, (0, a4))]) dX1_makeProbe_5 (by decide) rfl ?_
  refine r_aload 0 dX1_makeProbe_7 rfl ?_
  refine r_aload 0 dX1_makeProbe_9 rfl ?_
  refine r_iload_n 2 dX1_makeProbe_11 rfl ?_
  refine r_iload_n 3 dX1_makeProbe_12 rfl ?_
  refine r_callV (K' := Y_X5_rowOf) (R' := R_X5_rowOf) (idx := 118) (n := 2) (b := x1) (as := [(0, a1), (0, a2)]) (rest := [(4, x1)]) (C' := 0) (D' := 0) (cn := 5) rfl k0_X5_rowOf kV_X5_rowOf kl_X1_118 ⟨by decide, by decide⟩ dX1_makeProbe_13 rfl rfl (Nat.le_of_ble_eq_true rfl) (by decide) (by decide) rfl h (fun r hr => m_X5_rowOf hl0 ⟨r, hr, hr⟩) (fun x3 τ4 _ h => ?_)
  refine r_callV (K' := Y_X5_removeRow) (R' := R_X5_removeRow) (idx := 121) (n := 1) (b := x1) (as := [(0, x3)]) (rest := []) (C' := 0) (D' := 0) (cn := 5) rfl k0_X5_removeRow kV_X5_removeRow kl_X1_121 ⟨by decide, by decide⟩ dX1_makeProbe_16 rfl rfl (Nat.le_of_ble_eq_true rfl) (by decide) (by decide) rfl h (fun r hr => m_X5_removeRow hl0 ⟨r, hr, hr⟩) (fun _ τ6 _ h => ?_)
  refine r_aload 0 dX1_makeProbe_19 rfl ?_
  refine r_callV (K' := Y_X5_addRow) (R' := R_X5_addRow) (idx := 124) (n := 0) (b := x1) (as := []) (rest := []) (C' := 0) (D' := 0) (cn := 5) rfl k0_X5_addRow kV_X5_addRow kl_X1_124 ⟨by decide, by decide⟩ dX1_makeProbe_21 rfl rfl (Nat.le_of_ble_eq_true rfl) (by decide) (by decide) rfl h (fun r hr => m_X5_addRow hl0 ⟨r, hr, hr⟩) (fun x7 τ8 _ h => ?_)
  refine r_istore (L' := [(6, (0, x7)), (5, (4, x1)), (0, (4, a0)), (1, (0, a1)), (2, (0, a2)), (3, (0, a3)), (4, (0, a4))]) dX1_makeProbe_24 (by decide) rfl ?_
  refine r_aload 1 dX1_makeProbe_26 rfl ?_
  refine r_iload 0 dX1_makeProbe_28 rfl ?_
  refine r_iconst (v := 0) dX1_makeProbe_30 rfl rfl ?_
  refine r_iload_n 3 dX1_makeProbe_31 rfl ?_
  refine r_callV (K' := Y_X5_put) (R' := R_X5_put) (idx := 128) (n := 3) (b := x1) (as := [(0, x7), (0, 0), (0, a1)]) (rest := []) (C' := 0) (D' := 0) (cn := 5) rfl k0_X5_put kV_X5_put kl_X1_128 ⟨by decide, by decide⟩ dX1_makeProbe_32 rfl rfl (Nat.le_of_ble_eq_true rfl) (by decide) (by decide) rfl h (fun r hr => m_X5_put hl0 ⟨r, hr, hr⟩) (fun _ τ10 _ h => ?_)
  refine r_aload 1 dX1_makeProbe_35 rfl ?_
  refine r_iload 0 dX1_makeProbe_37 rfl ?_
  refine r_iconst (v := 1) dX1_makeProbe_39 rfl rfl ?_
  refine r_iload_n 3 dX1_makeProbe_40 rfl ?_
  refine r_callV (K' := Y_X5_put) (R' := R_X5_put) (idx := 128) (n := 3) (b := x1) (as := [(0, x7), (0, 1), (0, a1)]) (rest := []) (C' := 0) (D' := 0) (cn := 5) rfl k0_X5_put kV_X5_put kl_X1_128 ⟨by decide, by decide⟩ dX1_makeProbe_41 rfl rfl (Nat.le_of_ble_eq_true rfl) (by decide) (by decide) rfl h (fun r hr => m_X5_put hl0 ⟨r, hr, hr⟩) (fun _ τ12 _ h => ?_)
  refine r_aload 1 dX1_makeProbe_44 rfl ?_
  refine r_iload 0 dX1_makeProbe_46 rfl ?_
  refine r_iconst (v := 2) dX1_makeProbe_48 rfl rfl ?_
  refine r_iconst (v := 0) dX1_makeProbe_49 rfl rfl ?_
  refine r_callV (K' := Y_X5_put) (R' := R_X5_put) (idx := 128) (n := 3) (b := x1) (as := [(0, x7), (0, 2), (0, 0)]) (rest := []) (C' := 0) (D' := 0) (cn := 5) rfl k0_X5_put kV_X5_put kl_X1_128 ⟨by decide, by decide⟩ dX1_makeProbe_50 rfl rfl (Nat.le_of_ble_eq_true rfl) (by decide) (by decide) rfl h (fun r hr => m_X5_put hl0 ⟨r, hr, hr⟩) (fun _ τ14 _ h => ?_)
  refine r_aload 1 dX1_makeProbe_53 rfl ?_
  refine r_iload 0 dX1_makeProbe_55 rfl ?_
  refine r_iconst (v := 3) dX1_makeProbe_57 rfl rfl ?_
  refine r_iload_n 4 dX1_makeProbe_58 rfl ?_
  refine r_callV (K' := Y_X5_put) (R' := R_X5_put) (idx := 128) (n := 3) (b := x1) (as := [(0, x7), (0, 3), (0, a2)]) (rest := []) (C' := 0) (D' := 0) (cn := 5) rfl k0_X5_put kV_X5_put kl_X1_128 ⟨by decide, by decide⟩ dX1_makeProbe_59 rfl rfl (Nat.le_of_ble_eq_true rfl) (by decide) (by decide) rfl h (fun r hr => m_X5_put hl0 ⟨r, hr, hr⟩) (fun _ τ16 _ h => ?_)
  refine r_aload 1 dX1_makeProbe_62 rfl ?_
  refine r_iload 0 dX1_makeProbe_64 rfl ?_
  refine r_iconst (v := 4) dX1_makeProbe_66 rfl rfl ?_
  refine r_aload_n 2 dX1_makeProbe_67 rfl ?_
  refine r_getf fd_X1_72 rfl dX1_makeProbe_68 h (fun x17 h => ?_)
  refine r_callV (K' := Y_X5_put) (R' := R_X5_put) (idx := 128) (n := 3) (b := x1) (as := [(0, x7), (0, 4), (0, x17)]) (rest := []) (C' := 0) (D' := 0) (cn := 5) rfl k0_X5_put kV_X5_put kl_X1_128 ⟨by decide, by decide⟩ dX1_makeProbe_71 rfl rfl (Nat.le_of_ble_eq_true rfl) (by decide) (by decide) rfl h (fun r hr => m_X5_put hl0 ⟨r, hr, hr⟩) (fun _ τ19 _ h => ?_)
  refine r_aload 1 dX1_makeProbe_74 rfl ?_
  refine r_iload 0 dX1_makeProbe_76 rfl ?_
  refine r_iconst (v := 5) dX1_makeProbe_78 rfl rfl ?_
  refine r_iload_n 5 dX1_makeProbe_79 rfl ?_
  refine r_callV (K' := Y_X5_put) (R' := R_X5_put) (idx := 128) (n := 3) (b := x1) (as := [(0, x7), (0, 5), (0, a3)]) (rest := []) (C' := 0) (D' := 0) (cn := 5) rfl k0_X5_put kV_X5_put kl_X1_128 ⟨by decide, by decide⟩ dX1_makeProbe_80 rfl rfl (Nat.le_of_ble_eq_true rfl) (by decide) (by decide) rfl h (fun r hr => m_X5_put hl0 ⟨r, hr, hr⟩) (fun _ τ21 _ h => ?_)
  refine r_aload 1 dX1_makeProbe_83 rfl ?_
  refine r_iload 0 dX1_makeProbe_85 rfl ?_
  refine r_bipush (v := 6) dX1_makeProbe_87 rfl rfl ?_
  refine r_iload 6 dX1_makeProbe_89 rfl ?_
  refine r_callV (K' := Y_X5_put) (R' := R_X5_put) (idx := 128) (n := 3) (b := x1) (as := [(0, x7), (0, 6), (0, a4)]) (rest := []) (C' := 0) (D' := 0) (cn := 5) rfl k0_X5_put kV_X5_put kl_X1_128 ⟨by decide, by decide⟩ dX1_makeProbe_91 rfl rfl (Nat.le_of_ble_eq_true rfl) (by decide) (by decide) rfl h (fun r hr => m_X5_put hl0 ⟨r, hr, hr⟩) (fun _ τ23 _ h => ?_)
  refine r_aload_n 2 dX1_makeProbe_94 rfl ?_
  refine r_iload_n 3 dX1_makeProbe_95 rfl ?_
  refine r_iconst (v := 0) dX1_makeProbe_96 rfl rfl ?_
  refine r_callV (K' := Y_X1_tally) (R' := R_X1_tally) (idx := 132) (n := 2) (b := a0) (as := [(0, a1), (0, 0)]) (rest := []) (C' := 0) (D' := 0) (cn := 1) rfl k0_X1_tally kV_X1_tally kl_X1_132 ⟨by decide, by decide⟩ dX1_makeProbe_97 rfl rfl (Nat.le_of_ble_eq_true rfl) (by decide) (by decide) rfl h (fun r hr => m_X1_tally hl0 ⟨r, hr, hr⟩) (fun _ τ25 _ h => ?_)
  refine r_iconst (v := 0) dX1_makeProbe_100 rfl rfl ?_
  refine r_istore (L' := [(7, (0, 0)), (6, (0, x7)), (5, (4, x1)), (0, (4, a0)), (1, (0, a1)), (2, (0, a2)), (3, (0, a3)), (4, (0, a4))]) dX1_makeProbe_101 (by decide) rfl ?_
  refine r_iconst (v := 0) dX1_makeProbe_103 rfl rfl ?_
  refine r_istore (L' := [(8, (0, 0)), (7, (0, 0)), (6, (0, x7)), (5, (4, x1)), (0, (4, a0)), (1, (0, a1)), (2, (0, a2)), (3, (0, a3)), (4, (0, a4))]) dX1_makeProbe_104 (by decide) rfl ?_
  refine r_weak (L' := [(0, (4, a0)), (1, (0, a1)), (2, (0, a2)), (5, (4, x1)), (6, (0, x7)), (7, (0, 0)), (8, (0, 0))]) [4, 5, 6, 3, 2, 1, 0] rfl ?_
  refine r_room (C' := 0) (D' := 0) (by omega) (by omega) ?_
  exact t_X1_makeProbe_106 hl0    zFU _ _ _ _ _ _ _ _ h
theorem m_X1_makeProbe {g : zF} (hl0 : g.2.2.2.1.stackTraces = false) {Q : zR × zS → Prop} {a0 a1 a2 a3 a4 : Int} {σ : zS} (h : zo (f_X1_makeProbe a0 a1 a2 a3 a4 σ) Q) : zm g Y_X1_makeProbe R_X1_makeProbe [(4, a0), (0, a1), (0, a2), (0, a3), (0, a4)] σ Q := zm_of (by decide) rfl (Nat.le_of_ble_eq_true rfl) (t_X1_makeProbe hl0 h)


/- X5_addCopy -/

set_option maxRecDepth 100000 in
set_option maxHeartbeats 4000000 in
theorem t_X5_addCopy_8 {g : zF} (hl0 : g.2.2.2.1.stackTraces = false) {Q : zR × zS → Prop}   : ∀ (n : Nat) (a0 a1 a2 a3 a4 : Int) (σ : zS), zo (f_X5_addCopy_8  n a0 a1 a2 a3 a4 σ) Q → zw g Y_X5_addCopy R_X5_addCopy 8 [(0, (4, a0)), (1, (4, a1)), (2, (0, a2)), (3, (0, a3)), (4, (0, a4))] [] σ 0 0 Q := by
  intro n
  induction n with
  | zero => intro a0 a1 a2 a3 a4 σ h; obtain ⟨r, h, -⟩ := h; cases h
  | succ n ih =>
    intro a0 a1 a2 a3 a4 σ h
    unfold f_X5_addCopy_8 at h
    refine r_iload 4 dX5_addCopy_8 rfl ?_
    refine r_bipush (v := 8) dX5_addCopy_10 rfl rfl ?_
    refine r_icmp_ge 35 dX5_addCopy_12 (by decide) h (fun h => ?_) (fun h => ?_)
    · refine r_iload_n 3 dX5_addCopy_35 rfl ?_
      exact r_iret rfl dX5_addCopy_36 h
    · refine r_aload_n 0 dX5_addCopy_15 rfl ?_
      refine r_iload_n 3 dX5_addCopy_16 rfl ?_
      refine r_iload 4 dX5_addCopy_17 rfl ?_
      refine r_aload_n 1 dX5_addCopy_19 rfl ?_
      refine r_iload_n 2 dX5_addCopy_20 rfl ?_
      refine r_iload 4 dX5_addCopy_21 rfl ?_
      refine r_callV (K' := Y_X5_get) (R' := R_X5_get) (idx := 19) (n := 2) (b := a1) (as := [(0, a2), (0, a4)]) (rest := [(0, a4), (0, a3), (4, a0)]) (C' := 0) (D' := 0) (cn := 5) rfl k0_X5_get kV_X5_get kl_X5_19 ⟨by decide, by decide⟩ dX5_addCopy_23 rfl rfl (Nat.le_of_ble_eq_true rfl) (by decide) (by decide) rfl h (fun r hr => m_X5_get hl0 ⟨r, hr, hr⟩) (fun x1 τ2 _ h => ?_)
      refine r_callV (K' := Y_X5_put) (R' := R_X5_put) (idx := 31) (n := 3) (b := a0) (as := [(0, a3), (0, a4), (0, x1)]) (rest := []) (C' := 0) (D' := 0) (cn := 5) rfl k0_X5_put kV_X5_put kl_X5_31 ⟨by decide, by decide⟩ dX5_addCopy_26 rfl rfl (Nat.le_of_ble_eq_true rfl) (by decide) (by decide) rfl h (fun r hr => m_X5_put hl0 ⟨r, hr, hr⟩) (fun _ τ4 _ h => ?_)
      refine r_iinc (L' := [(4, (0, (w32 (a4 + 1)))), (0, (4, a0)), (1, (4, a1)), (2, (0, a2)), (3, (0, a3))]) 4 dX5_addCopy_29 rfl (by decide) rfl ?_
      refine r_goto 8 dX5_addCopy_32 (by decide) ?_
      refine r_weak (L' := [(0, (4, a0)), (1, (4, a1)), (2, (0, a2)), (3, (0, a3)), (4, (0, (w32 (a4 + 1))))]) [1, 2, 3, 4, 0] rfl ?_
      refine r_room (C' := 0) (D' := 0) (by omega) (by omega) ?_
      exact ih _ _ _ _ _ _ h

set_option maxRecDepth 100000 in
set_option maxHeartbeats 4000000 in
theorem t_X5_addCopy {g : zF} (hl0 : g.2.2.2.1.stackTraces = false) {Q : zR × zS → Prop}   {a0 a1 a2 : Int} {σ : zS} (h : zo (f_X5_addCopy  a0 a1 a2 σ) Q) : zw g Y_X5_addCopy R_X5_addCopy 0 [(0, (4, a0)), (1, (4, a1)), (2, (0, a2))] [] σ 0 0 Q := by
  unfold f_X5_addCopy at h
  refine r_aload_n 0 dX5_addCopy_0 rfl ?_
  refine r_callV (K' := Y_X5_addRow) (R' := R_X5_addRow) (idx := 27) (n := 0) (b := a0) (as := []) (rest := []) (C' := 0) (D' := 0) (cn := 5) rfl k0_X5_addRow kV_X5_addRow kl_X5_27 ⟨by decide, by decide⟩ dX5_addCopy_1 rfl rfl (Nat.le_of_ble_eq_true rfl) (by decide) (by decide) rfl h (fun r hr => m_X5_addRow hl0 ⟨r, hr, hr⟩) (fun x1 τ2 _ h => ?_)
  refine r_istore_n (L' := [(3, (0, x1)), (0, (4, a0)), (1, (4, a1)), (2, (0, a2))]) dX5_addCopy_4 (by decide) rfl ?_
  refine r_iconst (v := 0) dX5_addCopy_5 rfl rfl ?_
  refine r_istore (L' := [(4, (0, 0)), (3, (0, x1)), (0, (4, a0)), (1, (4, a1)), (2, (0, a2))]) dX5_addCopy_6 (by decide) rfl ?_
  refine r_weak (L' := [(0, (4, a0)), (1, (4, a1)), (2, (0, a2)), (3, (0, x1)), (4, (0, 0))]) [2, 3, 4, 1, 0] rfl ?_
  refine r_room (C' := 0) (D' := 0) (by omega) (by omega) ?_
  exact t_X5_addCopy_8 hl0    zFU _ _ _ _ _ _ h
theorem m_X5_addCopy {g : zF} (hl0 : g.2.2.2.1.stackTraces = false) {Q : zR × zS → Prop} {a0 a1 a2 : Int} {σ : zS} (h : zo (f_X5_addCopy a0 a1 a2 σ) Q) : zm g Y_X5_addCopy R_X5_addCopy [(4, a0), (4, a1), (0, a2)] σ Q := zm_of (by decide) rfl (Nat.le_of_ble_eq_true rfl) (t_X5_addCopy hl0 h)


/- X1_sendReport -/

set_option maxRecDepth 100000 in
set_option maxHeartbeats 4000000 in
theorem t_X1_sendReport_122 {g : zF} (hl0 : g.2.2.2.1.stackTraces = false) {Q : zR × zS → Prop} (r3 : Int → Int → Int → Int → Int → zS → zFn) (hr3 : ∀ b0 b1 b2 b3 b4 τ, zo (r3 b0 b1 b2 b3 b4 τ) Q → zw g Y_X1_sendReport R_X1_sendReport 3 [(0, (4, b0)), (1, (0, b1)), (2, (4, b2)), (3, (0, b3)), (4, (0, b4))] [] τ 0 0 Q) {a0 a1 a2 a3 a4 : Int} {σ : zS} (h : zo (f_X1_sendReport_122 r3 a0 a1 a2 a3 a4 σ) Q) : zw g Y_X1_sendReport R_X1_sendReport 122 [(0, (4, a0)), (1, (0, a1)), (2, (4, a2)), (3, (0, a3)), (4, (0, a4))] [] σ 0 0 Q := by
  unfold f_X1_sendReport_122 at h
  refine r_iinc (L' := [(4, (0, (w32 (a4 + 1)))), (0, (4, a0)), (1, (0, a1)), (2, (4, a2)), (3, (0, a3))]) 4 dX1_sendReport_122 rfl (by decide) rfl ?_
  refine r_goto 3 dX1_sendReport_125 (by decide) ?_
  refine r_weak (L' := [(0, (4, a0)), (1, (0, a1)), (2, (4, a2)), (3, (0, a3)), (4, (0, (w32 (a4 + 1))))]) [1, 2, 3, 4, 0] rfl ?_
  refine r_room (C' := 0) (D' := 0) (by omega) (by omega) ?_
  exact hr3 _ _ _ _ _ _ h

set_option maxRecDepth 100000 in
set_option maxHeartbeats 4000000 in
theorem t_X1_sendReport_42 {g : zF} (hl0 : g.2.2.2.1.stackTraces = false) {Q : zR × zS → Prop} (r3 : Int → Int → Int → Int → Int → zS → zFn) (hr3 : ∀ b0 b1 b2 b3 b4 τ, zo (r3 b0 b1 b2 b3 b4 τ) Q → zw g Y_X1_sendReport R_X1_sendReport 3 [(0, (4, b0)), (1, (0, b1)), (2, (4, b2)), (3, (0, b3)), (4, (0, b4))] [] τ 0 0 Q) {a0 a1 a2 a3 a4 s0 : Int} {σ : zS} (h : zo (f_X1_sendReport_42 r3 a0 a1 a2 a3 a4 s0 σ) Q) : zw g Y_X1_sendReport R_X1_sendReport 42 [(0, (4, a0)), (1, (0, a1)), (2, (4, a2)), (3, (0, a3)), (4, (0, a4))] [(0, s0)] σ 0 0 Q := by
  unfold f_X1_sendReport_42 at h
  refine r_istore (L' := [(5, (0, s0)), (0, (4, a0)), (1, (0, a1)), (2, (4, a2)), (3, (0, a3)), (4, (0, a4))]) dX1_sendReport_42 (by decide) rfl ?_
  refine r_aload_n 1 dX1_sendReport_44 rfl ?_
  refine r_iload_n 2 dX1_sendReport_45 rfl ?_
  refine r_iload 5 dX1_sendReport_46 rfl ?_
  refine r_callV (K' := Y_X1_isLinked) (R' := R_X1_isLinked) (idx := 101) (n := 2) (b := a0) (as := [(0, a1), (0, a4)]) (rest := []) (C' := 0) (D' := 0) (cn := 1) rfl k0_X1_isLinked kV_X1_isLinked kl_X1_101 ⟨by decide, by decide⟩ dX1_sendReport_48 rfl rfl (Nat.le_of_ble_eq_true rfl) (by decide) (by decide) rfl h (fun r hr => m_X1_isLinked hl0 ⟨r, hr, hr⟩) (fun x1 τ2 _ h => ?_)
  refine r_if_eq 122 dX1_sendReport_51 (by decide) h (fun h => ?_) (fun h => ?_)
  · refine r_weak (L' := [(0, (4, a0)), (1, (0, a1)), (2, (4, a2)), (3, (0, a3)), (4, (0, a4))]) [1, 2, 3, 4, 5] rfl ?_
    refine r_room (C' := 0) (D' := 0) (by omega) (by omega) ?_
    exact t_X1_sendReport_122 hl0  r3 hr3 h
  · refine r_iload 0 dX1_sendReport_54 rfl ?_
    refine r_if_ne 122 dX1_sendReport_56 (by decide) h (fun h => ?_) (fun h => ?_)
    · refine r_weak (L' := [(0, (4, a0)), (1, (0, a1)), (2, (4, a2)), (3, (0, a3)), (4, (0, a4))]) [1, 2, 3, 4, 5] rfl ?_
      refine r_room (C' := 0) (D' := 0) (by omega) (by omega) ?_
      exact t_X1_sendReport_122 hl0  r3 hr3 h
    · refine r_aload_n 1 dX1_sendReport_59 rfl ?_
      refine r_getr fd_X1_41 rfl dX1_sendReport_60 h (fun x3 h => ?_)
      refine r_callV (K' := Y_X5_isFull) (R' := R_X5_isFull) (idx := 155) (n := 0) (b := x3) (as := []) (rest := []) (C' := 0) (D' := 0) (cn := 5) rfl k0_X5_isFull kV_X5_isFull kl_X1_155 ⟨by decide, by decide⟩ dX1_sendReport_63 rfl rfl (Nat.le_of_ble_eq_true rfl) (by decide) (by decide) rfl h (fun r hr => m_X5_isFull hl0 ⟨r, hr, hr⟩) (fun x4 τ5 _ h => ?_)
      refine r_if_ne 122 dX1_sendReport_66 (by decide) h (fun h => ?_) (fun h => ?_)
      · refine r_weak (L' := [(0, (4, a0)), (1, (0, a1)), (2, (4, a2)), (3, (0, a3)), (4, (0, a4))]) [1, 2, 3, 4, 5] rfl ?_
        refine r_room (C' := 0) (D' := 0) (by omega) (by omega) ?_
        exact t_X1_sendReport_122 hl0  r3 hr3 h
      · refine r_aload_n 1 dX1_sendReport_69 rfl ?_
        refine r_getr fd_X1_41 rfl dX1_sendReport_70 h (fun x6 h => ?_)
        refine r_aload_n 3 dX1_sendReport_73 rfl ?_
        refine r_iload_n 4 dX1_sendReport_74 rfl ?_
        refine r_callV (K' := Y_X5_addCopy) (R' := R_X5_addCopy) (idx := 159) (n := 2) (b := x6) (as := [(4, a2), (0, a3)]) (rest := []) (C' := 0) (D' := 0) (cn := 5) rfl k0_X5_addCopy kV_X5_addCopy kl_X1_159 ⟨by decide, by decide⟩ dX1_sendReport_75 rfl rfl (Nat.le_of_ble_eq_true rfl) (by decide) (by decide) rfl h (fun r hr => m_X5_addCopy hl0 ⟨r, hr, hr⟩) (fun x7 τ8 _ h => ?_)
        refine r_istore (L' := [(6, (0, x7)), (5, (0, s0)), (0, (4, a0)), (1, (0, a1)), (2, (4, a2)), (3, (0, a3)), (4, (0, a4))]) dX1_sendReport_78 (by decide) rfl ?_
        refine r_aload_n 2 dX1_sendReport_80 rfl ?_
        refine r_getr fd_X1_41 rfl dX1_sendReport_81 h (fun x9 h => ?_)
        refine r_iload 0 dX1_sendReport_84 rfl ?_
        refine r_iconst (v := 1) dX1_sendReport_86 rfl rfl ?_
        refine r_iload_n 3 dX1_sendReport_87 rfl ?_
        refine r_callV (K' := Y_X5_put) (R' := R_X5_put) (idx := 128) (n := 3) (b := x9) (as := [(0, x7), (0, 1), (0, a1)]) (rest := []) (C' := 0) (D' := 0) (cn := 5) rfl k0_X5_put kV_X5_put kl_X1_128 ⟨by decide, by decide⟩ dX1_sendReport_88 rfl rfl (Nat.le_of_ble_eq_true rfl) (by decide) (by decide) rfl h (fun r hr => m_X5_put hl0 ⟨r, hr, hr⟩) (fun _ τ11 _ h => ?_)
        refine r_aload_n 2 dX1_sendReport_91 rfl ?_
        refine r_getr fd_X1_41 rfl dX1_sendReport_92 h (fun x12 h => ?_)
        refine r_iload 0 dX1_sendReport_95 rfl ?_
        refine r_iconst (v := 2) dX1_sendReport_97 rfl rfl ?_
        refine r_aload_n 4 dX1_sendReport_98 rfl ?_
        refine r_iload_n 5 dX1_sendReport_99 rfl ?_
        refine r_iconst (v := 2) dX1_sendReport_100 rfl rfl ?_
        refine r_callV (K' := Y_X5_get) (R' := R_X5_get) (idx := 111) (n := 2) (b := a2) (as := [(0, a3), (0, 2)]) (rest := [(0, 2), (0, x7), (4, x12)]) (C' := 0) (D' := 0) (cn := 5) rfl k0_X5_get kV_X5_get kl_X1_111 ⟨by decide, by decide⟩ dX1_sendReport_101 rfl rfl (Nat.le_of_ble_eq_true rfl) (by decide) (by decide) rfl h (fun r hr => m_X5_get hl0 ⟨r, hr, hr⟩) (fun x13 τ14 _ h => ?_)
        refine r_iconst (v := 1) dX1_sendReport_104 rfl rfl ?_
        refine r_iadd dX1_sendReport_105 ?_
        refine r_callV (K' := Y_X5_put) (R' := R_X5_put) (idx := 128) (n := 3) (b := x12) (as := [(0, x7), (0, 2), (0, (w32 (x13 + 1)))]) (rest := []) (C' := 0) (D' := 0) (cn := 5) rfl k0_X5_put kV_X5_put kl_X1_128 ⟨by decide, by decide⟩ dX1_sendReport_106 rfl rfl (Nat.le_of_ble_eq_true rfl) (by decide) (by decide) rfl h (fun r hr => m_X5_put hl0 ⟨r, hr, hr⟩) (fun _ τ16 _ h => ?_)
        refine r_aload_n 2 dX1_sendReport_109 rfl ?_
        refine r_getr fd_X1_41 rfl dX1_sendReport_110 h (fun x17 h => ?_)
        refine r_iload 0 dX1_sendReport_113 rfl ?_
        refine r_bipush (v := 7) dX1_sendReport_115 rfl rfl ?_
        refine r_iload 6 dX1_sendReport_117 rfl ?_
        refine r_callV (K' := Y_X5_put) (R' := R_X5_put) (idx := 128) (n := 3) (b := x17) (as := [(0, x7), (0, 7), (0, a4)]) (rest := []) (C' := 0) (D' := 0) (cn := 5) rfl k0_X5_put kV_X5_put kl_X1_128 ⟨by decide, by decide⟩ dX1_sendReport_119 rfl rfl (Nat.le_of_ble_eq_true rfl) (by decide) (by decide) rfl h (fun r hr => m_X5_put hl0 ⟨r, hr, hr⟩) (fun _ τ19 _ h => ?_)
        refine r_weak (L' := [(0, (4, a0)), (1, (0, a1)), (2, (4, a2)), (3, (0, a3)), (4, (0, a4))]) [2, 3, 4, 5, 6] rfl ?_
        refine r_room (C' := 0) (D' := 0) (by omega) (by omega) ?_
        exact t_X1_sendReport_122 hl0  r3 hr3 h

set_option maxRecDepth 100000 in
set_option maxHeartbeats 4000000 in
theorem t_X1_sendReport_37 {g : zF} (hl0 : g.2.2.2.1.stackTraces = false) {Q : zR × zS → Prop} (r3 : Int → Int → Int → Int → Int → zS → zFn) (hr3 : ∀ b0 b1 b2 b3 b4 τ, zo (r3 b0 b1 b2 b3 b4 τ) Q → zw g Y_X1_sendReport R_X1_sendReport 3 [(0, (4, b0)), (1, (0, b1)), (2, (4, b2)), (3, (0, b3)), (4, (0, b4))] [] τ 0 0 Q) {a0 a1 a2 a3 a4 : Int} {σ : zS} (h : zo (f_X1_sendReport_37 r3 a0 a1 a2 a3 a4 σ) Q) : zw g Y_X1_sendReport R_X1_sendReport 37 [(0, (4, a0)), (1, (0, a1)), (2, (4, a2)), (3, (0, a3)), (4, (0, a4))] [] σ 0 0 Q := by
  unfold f_X1_sendReport_37 at h
  refine r_iconst (v := 1) dX1_sendReport_37 rfl rfl ?_
  refine r_goto 42 dX1_sendReport_38 (by decide) ?_
  refine r_room (C' := 0) (D' := 0) (by omega) (by omega) ?_
  exact t_X1_sendReport_42 hl0  r3 hr3 h

set_option maxRecDepth 100000 in
set_option maxHeartbeats 4000000 in
theorem t_X1_sendReport_3 {g : zF} (hl0 : g.2.2.2.1.stackTraces = false) {Q : zR × zS → Prop}   : ∀ (n : Nat) (a0 a1 a2 a3 a4 : Int) (σ : zS), zo (f_X1_sendReport_3  n a0 a1 a2 a3 a4 σ) Q → zw g Y_X1_sendReport R_X1_sendReport 3 [(0, (4, a0)), (1, (0, a1)), (2, (4, a2)), (3, (0, a3)), (4, (0, a4))] [] σ 0 0 Q := by
  intro n
  induction n with
  | zero => intro a0 a1 a2 a3 a4 σ h; obtain ⟨r, h, -⟩ := h; cases h
  | succ n ih =>
    intro a0 a1 a2 a3 a4 σ h
    unfold f_X1_sendReport_3 at h
    refine r_iload 4 dX1_sendReport_3 rfl ?_
    refine r_aload_n 0 dX1_sendReport_5 rfl ?_
    refine r_getr fd_X1_18 rfl dX1_sendReport_6 h (fun x1 h => ?_)
    refine r_getf fd_X1_57 rfl dX1_sendReport_9 h (fun x2 h => ?_)
    refine r_icmp_ge 128 dX1_sendReport_12 (by decide) h (fun h => ?_) (fun h => ?_)
    · exact r_vret rfl dX1_sendReport_128 h
    · refine r_iload 4 dX1_sendReport_15 rfl ?_
      refine r_aload_n 2 dX1_sendReport_17 rfl ?_
      refine r_iload_n 3 dX1_sendReport_18 rfl ?_
      refine r_iconst (v := 0) dX1_sendReport_19 rfl rfl ?_
      refine r_callV (K' := Y_X5_get) (R' := R_X5_get) (idx := 111) (n := 2) (b := a2) (as := [(0, a3), (0, 0)]) (rest := [(0, a4)]) (C' := 0) (D' := 0) (cn := 5) rfl k0_X5_get kV_X5_get kl_X1_111 ⟨by decide, by decide⟩ dX1_sendReport_20 rfl rfl (Nat.le_of_ble_eq_true rfl) (by decide) (by decide) rfl h (fun r hr => m_X5_get hl0 ⟨r, hr, hr⟩) (fun x3 τ4 _ h => ?_)
      refine r_icmp_eq 37 dX1_sendReport_23 (by decide) h (fun h => ?_) (fun h => ?_)
      · refine r_room (C' := 0) (D' := 0) (by omega) (by omega) ?_
        exact t_X1_sendReport_37 hl0  (f_X1_sendReport_3  n) (fun b0 b1 b2 b3 b4 τ h => ih b0 b1 b2 b3 b4 τ h) h
      · refine r_iload 4 dX1_sendReport_26 rfl ?_
        refine r_aload_n 2 dX1_sendReport_28 rfl ?_
        refine r_iload_n 3 dX1_sendReport_29 rfl ?_
        refine r_iconst (v := 1) dX1_sendReport_30 rfl rfl ?_
        refine r_callV (K' := Y_X5_get) (R' := R_X5_get) (idx := 111) (n := 2) (b := a2) (as := [(0, a3), (0, 1)]) (rest := [(0, a4)]) (C' := 0) (D' := 0) (cn := 5) rfl k0_X5_get kV_X5_get kl_X1_111 ⟨by decide, by decide⟩ dX1_sendReport_31 rfl rfl (Nat.le_of_ble_eq_true rfl) (by decide) (by decide) rfl h (fun r hr => m_X5_get hl0 ⟨r, hr, hr⟩) (fun x5 τ6 _ h => ?_)
        refine r_icmp_ne 41 dX1_sendReport_34 (by decide) h (fun h => ?_) (fun h => ?_)
        · refine r_iconst (v := 0) dX1_sendReport_41 rfl rfl ?_
          refine r_room (C' := 0) (D' := 0) (by omega) (by omega) ?_
          exact t_X1_sendReport_42 hl0  (f_X1_sendReport_3  n) (fun b0 b1 b2 b3 b4 τ h => ih b0 b1 b2 b3 b4 τ h) h
        · refine r_room (C' := 0) (D' := 0) (by omega) (by omega) ?_
          exact t_X1_sendReport_37 hl0  (f_X1_sendReport_3  n) (fun b0 b1 b2 b3 b4 τ h => ih b0 b1 b2 b3 b4 τ h) h

set_option maxRecDepth 100000 in
set_option maxHeartbeats 4000000 in
theorem t_X1_sendReport {g : zF} (hl0 : g.2.2.2.1.stackTraces = false) {Q : zR × zS → Prop}   {a0 a1 a2 a3 : Int} {σ : zS} (h : zo (f_X1_sendReport  a0 a1 a2 a3 σ) Q) : zw g Y_X1_sendReport R_X1_sendReport 0 [(0, (4, a0)), (1, (0, a1)), (2, (4, a2)), (3, (0, a3))] [] σ 0 0 Q := by
  unfold f_X1_sendReport at h
  refine r_iconst (v := 0) dX1_sendReport_0 rfl rfl ?_
  refine r_istore (L' := [(4, (0, 0)), (0, (4, a0)), (1, (0, a1)), (2, (4, a2)), (3, (0, a3))]) dX1_sendReport_1 (by decide) rfl ?_
  refine r_weak (L' := [(0, (4, a0)), (1, (0, a1)), (2, (4, a2)), (3, (0, a3)), (4, (0, 0))]) [1, 2, 3, 4, 0] rfl ?_
  refine r_room (C' := 0) (D' := 0) (by omega) (by omega) ?_
  exact t_X1_sendReport_3 hl0    zFU _ _ _ _ _ _ h
theorem m_X1_sendReport {g : zF} (hl0 : g.2.2.2.1.stackTraces = false) {Q : zR × zS → Prop} {a0 a1 a2 a3 : Int} {σ : zS} (h : zo (f_X1_sendReport a0 a1 a2 a3 σ) Q) : zm g Y_X1_sendReport R_X1_sendReport [(4, a0), (0, a1), (4, a2), (0, a3)] σ Q := zm_of (by decide) rfl (Nat.le_of_ble_eq_true rfl) (t_X1_sendReport hl0 h)


/- X1_sendReports -/

set_option maxRecDepth 100000 in
set_option maxHeartbeats 4000000 in
theorem t_X1_sendReports_52 {g : zF} (hl0 : g.2.2.2.1.stackTraces = false) {Q : zR × zS → Prop}   {a0 a4 : Int} {σ : zS} (h : zo (f_X1_sendReports_52  a0 a4 σ) Q) : zw g Y_X1_sendReports R_X1_sendReports 52 [(0, (4, a0)), (4, (0, a4))] [] σ 0 0 Q := by
  unfold f_X1_sendReports_52 at h
  refine r_aload_n 0 dX1_sendReports_52 rfl ?_
  refine r_getr fd_X1_41 rfl dX1_sendReports_53 h (fun x1 h => ?_)
  refine r_getf fd_X1_71 rfl dX1_sendReports_56 h (fun x2 h => ?_)
  refine r_iload 1 dX1_sendReports_59 rfl ?_
  refine r_isub dX1_sendReports_61 ?_
  exact r_iret rfl dX1_sendReports_62 h

set_option maxRecDepth 100000 in
set_option maxHeartbeats 4000000 in
theorem t_X1_sendReports_46 {g : zF} (hl0 : g.2.2.2.1.stackTraces = false) {Q : zR × zS → Prop} (r18 : Int → Int → Int → Int → Int → Int → zS → zFn) (hr18 : ∀ b0 b1 b2 b3 b4 b5 τ, zo (r18 b0 b1 b2 b3 b4 b5 τ) Q → zw g Y_X1_sendReports R_X1_sendReports 18 [(0, (4, b0)), (1, (0, b1)), (2, (0, b2)), (3, (4, b3)), (4, (0, b4)), (5, (0, b5))] [] τ 0 0 Q) {a0 a1 a2 a3 a4 a5 : Int} {σ : zS} (h : zo (f_X1_sendReports_46 r18 a0 a1 a2 a3 a4 a5 σ) Q) : zw g Y_X1_sendReports R_X1_sendReports 46 [(0, (4, a0)), (1, (0, a1)), (2, (0, a2)), (3, (4, a3)), (4, (0, a4)), (5, (0, a5))] [] σ 0 0 Q := by
  unfold f_X1_sendReports_46 at h
  refine r_iinc (L' := [(5, (0, (w32 (a5 + 1)))), (0, (4, a0)), (1, (0, a1)), (2, (0, a2)), (3, (4, a3)), (4, (0, a4))]) 5 dX1_sendReports_46 rfl (by decide) rfl ?_
  refine r_goto 18 dX1_sendReports_49 (by decide) ?_
  refine r_weak (L' := [(0, (4, a0)), (1, (0, a1)), (2, (0, a2)), (3, (4, a3)), (4, (0, a4)), (5, (0, (w32 (a5 + 1))))]) [1, 2, 3, 4, 5, 0] rfl ?_
  refine r_room (C' := 0) (D' := 0) (by omega) (by omega) ?_
  exact hr18 _ _ _ _ _ _ _ h

set_option maxRecDepth 100000 in
set_option maxHeartbeats 4000000 in
theorem t_X1_sendReports_18 {g : zF} (hl0 : g.2.2.2.1.stackTraces = false) {Q : zR × zS → Prop}   : ∀ (n : Nat) (a0 a1 a2 a3 a4 a5 : Int) (σ : zS), zo (f_X1_sendReports_18  n a0 a1 a2 a3 a4 a5 σ) Q → zw g Y_X1_sendReports R_X1_sendReports 18 [(0, (4, a0)), (1, (0, a1)), (2, (0, a2)), (3, (4, a3)), (4, (0, a4)), (5, (0, a5))] [] σ 0 0 Q := by
  intro n
  induction n with
  | zero => intro a0 a1 a2 a3 a4 a5 σ h; obtain ⟨r, h, -⟩ := h; cases h
  | succ n ih =>
    intro a0 a1 a2 a3 a4 a5 σ h
    unfold f_X1_sendReports_18 at h
    refine r_iload 5 dX1_sendReports_18 rfl ?_
    refine r_aload_n 3 dX1_sendReports_20 rfl ?_
    refine r_getf fd_X1_71 rfl dX1_sendReports_21 h (fun x1 h => ?_)
    refine r_icmp_ge 52 dX1_sendReports_24 (by decide) h (fun h => ?_) (fun h => ?_)
    · refine r_weak (L' := [(0, (4, a0)), (4, (0, a4))]) [0, 4] rfl ?_
      refine r_room (C' := 0) (D' := 0) (by omega) (by omega) ?_
      exact t_X1_sendReports_52 hl0    h
    · refine r_aload_n 3 dX1_sendReports_27 rfl ?_
      refine r_iload 5 dX1_sendReports_28 rfl ?_
      refine r_iconst (v := 2) dX1_sendReports_30 rfl rfl ?_
      refine r_callV (K' := Y_X5_get) (R' := R_X5_get) (idx := 111) (n := 2) (b := a3) (as := [(0, a5), (0, 2)]) (rest := []) (C' := 0) (D' := 0) (cn := 5) rfl k0_X5_get kV_X5_get kl_X1_111 ⟨by decide, by decide⟩ dX1_sendReports_31 rfl rfl (Nat.le_of_ble_eq_true rfl) (by decide) (by decide) rfl h (fun r hr => m_X5_get hl0 ⟨r, hr, hr⟩) (fun x2 τ3 _ h => ?_)
      refine r_iload_n 2 dX1_sendReports_34 rfl ?_
      refine r_icmp_ge 46 dX1_sendReports_35 (by decide) h (fun h => ?_) (fun h => ?_)
      · refine r_room (C' := 0) (D' := 0) (by omega) (by omega) ?_
        exact t_X1_sendReports_46 hl0  (f_X1_sendReports_18  n) (fun b0 b1 b2 b3 b4 b5 τ h => ih b0 b1 b2 b3 b4 b5 τ h) h
      · refine r_aload_n 0 dX1_sendReports_38 rfl ?_
        refine r_iload_n 1 dX1_sendReports_39 rfl ?_
        refine r_aload_n 3 dX1_sendReports_40 rfl ?_
        refine r_iload 5 dX1_sendReports_41 rfl ?_
        refine r_callV (K' := Y_X1_sendReport) (R' := R_X1_sendReport) (idx := 151) (n := 3) (b := a0) (as := [(0, a1), (4, a3), (0, a5)]) (rest := []) (C' := 0) (D' := 0) (cn := 1) rfl k0_X1_sendReport kV_X1_sendReport kl_X1_151 ⟨by decide, by decide⟩ dX1_sendReports_43 rfl rfl (Nat.le_of_ble_eq_true rfl) (by decide) (by decide) rfl h (fun r hr => m_X1_sendReport hl0 ⟨r, hr, hr⟩) (fun _ τ5 _ h => ?_)
        refine r_room (C' := 0) (D' := 0) (by omega) (by omega) ?_
        exact t_X1_sendReports_46 hl0  (f_X1_sendReports_18  n) (fun b0 b1 b2 b3 b4 b5 τ h => ih b0 b1 b2 b3 b4 b5 τ h) h

set_option maxRecDepth 100000 in
set_option maxHeartbeats 4000000 in
theorem t_X1_sendReports {g : zF} (hl0 : g.2.2.2.1.stackTraces = false) {Q : zR × zS → Prop}   {a0 a1 a2 : Int} {σ : zS} (h : zo (f_X1_sendReports  a0 a1 a2 σ) Q) : zw g Y_X1_sendReports R_X1_sendReports 0 [(0, (4, a0)), (1, (0, a1)), (2, (0, a2))] [] σ 0 0 Q := by
  unfold f_X1_sendReports at h
  refine r_aload_n 0 dX1_sendReports_0 rfl ?_
  refine r_iload_n 1 dX1_sendReports_1 rfl ?_
  refine r_callV (K' := Y_X1_listOf) (R' := R_X1_listOf) (idx := 67) (n := 1) (b := a0) (as := [(0, a1)]) (rest := []) (C' := 0) (D' := 0) (cn := 1) rfl k0_X1_listOf kV_X1_listOf kl_X1_67 ⟨by decide, by decide⟩ dX1_sendReports_2 rfl rfl (Nat.le_of_ble_eq_true rfl) (by decide) (by decide) rfl h (fun r hr => m_X1_listOf hl0 ⟨r, hr, hr⟩) (fun x1 τ2 _ h => ?_)
  refine r_astore_n (L' := [(3, (4, x1)), (0, (4, a0)), (1, (0, a1)), (2, (0, a2))]) dX1_sendReports_5 (by decide) rfl ?_
  refine r_aload_n 1 dX1_sendReports_6 rfl ?_
  refine r_getr fd_X1_41 rfl dX1_sendReports_7 h (fun x3 h => ?_)
  refine r_getf fd_X1_71 rfl dX1_sendReports_10 h (fun x4 h => ?_)
  refine r_istore (L' := [(4, (0, x4)), (3, (4, x1)), (0, (4, a0)), (1, (0, a1)), (2, (0, a2))]) dX1_sendReports_13 (by decide) rfl ?_
  refine r_iconst (v := 0) dX1_sendReports_15 rfl rfl ?_
  refine r_istore (L' := [(5, (0, 0)), (4, (0, x4)), (3, (4, x1)), (0, (4, a0)), (1, (0, a1)), (2, (0, a2))]) dX1_sendReports_16 (by decide) rfl ?_
  refine r_weak (L' := [(0, (4, a0)), (1, (0, a1)), (2, (0, a2)), (3, (4, x1)), (4, (0, x4)), (5, (0, 0))]) [3, 4, 5, 2, 1, 0] rfl ?_
  refine r_room (C' := 0) (D' := 0) (by omega) (by omega) ?_
  exact t_X1_sendReports_18 hl0    zFU _ _ _ _ _ _ _ h
theorem m_X1_sendReports {g : zF} (hl0 : g.2.2.2.1.stackTraces = false) {Q : zR × zS → Prop} {a0 a1 a2 : Int} {σ : zS} (h : zo (f_X1_sendReports a0 a1 a2 σ) Q) : zm g Y_X1_sendReports R_X1_sendReports [(4, a0), (0, a1), (0, a2)] σ Q := zm_of (by decide) rfl (Nat.le_of_ble_eq_true rfl) (t_X1_sendReports hl0 h)


/- X1_reasonToRefuse -/

set_option maxRecDepth 100000 in
set_option maxHeartbeats 4000000 in
theorem t_X1_reasonToRefuse_125 {g : zF} (hl0 : g.2.2.2.1.stackTraces = false) {Q : zR × zS → Prop}   {a5 s0 : Int} {σ : zS} (h : zo (f_X1_reasonToRefuse_125  a5 s0 σ) Q) : zw g Y_X1_reasonToRefuse R_X1_reasonToRefuse 125 [(5, (0, a5))] [(0, s0)] σ 0 0 Q := by
  unfold f_X1_reasonToRefuse_125 at h
  refine r_istore (L' := [(6, (0, s0)), (5, (0, a5))]) dX1_reasonToRefuse_125 (by decide) rfl ?_
  refine r_iload 1 dX1_reasonToRefuse_127 rfl ?_
  refine r_if_gt 142 dX1_reasonToRefuse_129 (by decide) h (fun h => ?_) (fun h => ?_)
  · refine r_iconst (v := 3) dX1_reasonToRefuse_142 rfl rfl ?_
    refine r_goto 147 dX1_reasonToRefuse_143 (by decide) ?_
    exact r_iret rfl dX1_reasonToRefuse_147 h
  · refine r_iload 1 dX1_reasonToRefuse_132 rfl ?_
    refine r_if_ne 146 dX1_reasonToRefuse_134 (by decide) h (fun h => ?_) (fun h => ?_)
    · refine r_iconst (v := 0) dX1_reasonToRefuse_146 rfl rfl ?_
      exact r_iret rfl dX1_reasonToRefuse_147 h
    · refine r_iload 0 dX1_reasonToRefuse_137 rfl ?_
      refine r_if_eq 146 dX1_reasonToRefuse_139 (by decide) h (fun h => ?_) (fun h => ?_)
      · refine r_iconst (v := 0) dX1_reasonToRefuse_146 rfl rfl ?_
        exact r_iret rfl dX1_reasonToRefuse_147 h
      · refine r_iconst (v := 3) dX1_reasonToRefuse_142 rfl rfl ?_
        refine r_goto 147 dX1_reasonToRefuse_143 (by decide) ?_
        exact r_iret rfl dX1_reasonToRefuse_147 h

set_option maxRecDepth 100000 in
set_option maxHeartbeats 4000000 in
theorem t_X1_reasonToRefuse {g : zF} (hl0 : g.2.2.2.1.stackTraces = false) {Q : zR × zS → Prop}   {a0 a1 : Int} {σ : zS} (h : zo (f_X1_reasonToRefuse  a0 a1 σ) Q) : zw g Y_X1_reasonToRefuse R_X1_reasonToRefuse 0 [(0, (4, a0)), (1, (0, a1))] [] σ 0 0 Q := by
  unfold f_X1_reasonToRefuse at h
  refine r_aload_n 0 dX1_reasonToRefuse_0 rfl ?_
  refine r_getr fd_X1_41 rfl dX1_reasonToRefuse_1 h (fun x1 h => ?_)
  refine r_iload_n 1 dX1_reasonToRefuse_4 rfl ?_
  refine r_bipush (v := 7) dX1_reasonToRefuse_5 rfl rfl ?_
  refine r_callV (K' := Y_X5_get) (R' := R_X5_get) (idx := 111) (n := 2) (b := x1) (as := [(0, a1), (0, 7)]) (rest := []) (C' := 0) (D' := 0) (cn := 5) rfl k0_X5_get kV_X5_get kl_X1_111 ⟨by decide, by decide⟩ dX1_reasonToRefuse_7 rfl rfl (Nat.le_of_ble_eq_true rfl) (by decide) (by decide) rfl h (fun r hr => m_X5_get hl0 ⟨r, hr, hr⟩) (fun x2 τ3 _ h => ?_)
  refine r_istore_n (L' := [(2, (0, x2)), (0, (4, a0)), (1, (0, a1))]) dX1_reasonToRefuse_10 (by decide) rfl ?_
  refine r_aload_n 1 dX1_reasonToRefuse_11 rfl ?_
  refine r_iload_n 0 dX1_reasonToRefuse_12 rfl ?_
  refine r_aload_n 1 dX1_reasonToRefuse_13 rfl ?_
  refine r_getr fd_X1_41 rfl dX1_reasonToRefuse_14 h (fun x4 h => ?_)
  refine r_iload_n 2 dX1_reasonToRefuse_17 rfl ?_
  refine r_iconst (v := 1) dX1_reasonToRefuse_18 rfl rfl ?_
  refine r_callV (K' := Y_X5_get) (R' := R_X5_get) (idx := 111) (n := 2) (b := x4) (as := [(0, a1), (0, 1)]) (rest := [(0, x2), (4, a0)]) (C' := 0) (D' := 0) (cn := 5) rfl k0_X5_get kV_X5_get kl_X1_111 ⟨by decide, by decide⟩ dX1_reasonToRefuse_19 rfl rfl (Nat.le_of_ble_eq_true rfl) (by decide) (by decide) rfl h (fun r hr => m_X5_get hl0 ⟨r, hr, hr⟩) (fun x5 τ6 _ h => ?_)
  refine r_callV (K' := Y_X1_isLinked) (R' := R_X1_isLinked) (idx := 101) (n := 2) (b := a0) (as := [(0, x2), (0, x5)]) (rest := []) (C' := 0) (D' := 0) (cn := 1) rfl k0_X1_isLinked kV_X1_isLinked kl_X1_101 ⟨by decide, by decide⟩ dX1_reasonToRefuse_22 rfl rfl (Nat.le_of_ble_eq_true rfl) (by decide) (by decide) rfl h (fun r hr => m_X1_isLinked hl0 ⟨r, hr, hr⟩) (fun x7 τ8 _ h => ?_)
  refine r_if_ne 30 dX1_reasonToRefuse_25 (by decide) h (fun h => ?_) (fun h => ?_)
  · refine r_aload_n 1 dX1_reasonToRefuse_30 rfl ?_
    refine r_aload_n 1 dX1_reasonToRefuse_31 rfl ?_
    refine r_getr fd_X1_41 rfl dX1_reasonToRefuse_32 h (fun x9 h => ?_)
    refine r_iload_n 2 dX1_reasonToRefuse_35 rfl ?_
    refine r_callV (K' := Y_X1_isTooOld) (R' := R_X1_isTooOld) (idx := 162) (n := 2) (b := a0) (as := [(4, x9), (0, a1)]) (rest := []) (C' := 0) (D' := 0) (cn := 1) rfl k0_X1_isTooOld kV_X1_isTooOld kl_X1_162 ⟨by decide, by decide⟩ dX1_reasonToRefuse_36 rfl rfl (Nat.le_of_ble_eq_true rfl) (by decide) (by decide) rfl h (fun r hr => m_X1_isTooOld hl0 ⟨r, hr, hr⟩) (fun x10 τ11 _ h => ?_)
    refine r_if_eq 44 dX1_reasonToRefuse_39 (by decide) h (fun h => ?_) (fun h => ?_)
    · refine r_aload_n 1 dX1_reasonToRefuse_44 rfl ?_
      refine r_iload_n 0 dX1_reasonToRefuse_45 rfl ?_
      refine r_callV (K' := Y_X1_listOf) (R' := R_X1_listOf) (idx := 67) (n := 1) (b := a0) (as := [(0, x2)]) (rest := []) (C' := 0) (D' := 0) (cn := 1) rfl k0_X1_listOf kV_X1_listOf kl_X1_67 ⟨by decide, by decide⟩ dX1_reasonToRefuse_46 rfl rfl (Nat.le_of_ble_eq_true rfl) (by decide) (by decide) rfl h (fun r hr => m_X1_listOf hl0 ⟨r, hr, hr⟩) (fun x12 τ13 _ h => ?_)
      refine r_astore_n (L' := [(3, (4, x12)), (2, (0, x2)), (0, (4, a0)), (1, (0, a1))]) dX1_reasonToRefuse_49 (by decide) rfl ?_
      refine r_aload_n 0 dX1_reasonToRefuse_50 rfl ?_
      refine r_aload_n 2 dX1_reasonToRefuse_51 rfl ?_
      refine r_getr fd_X1_41 rfl dX1_reasonToRefuse_52 h (fun x14 h => ?_)
      refine r_iload_n 3 dX1_reasonToRefuse_55 rfl ?_
      refine r_iconst (v := 0) dX1_reasonToRefuse_56 rfl rfl ?_
      refine r_callV (K' := Y_X5_get) (R' := R_X5_get) (idx := 111) (n := 2) (b := x14) (as := [(0, a1), (0, 0)]) (rest := [(4, x12)]) (C' := 0) (D' := 0) (cn := 5) rfl k0_X5_get kV_X5_get kl_X1_111 ⟨by decide, by decide⟩ dX1_reasonToRefuse_57 rfl rfl (Nat.le_of_ble_eq_true rfl) (by decide) (by decide) rfl h (fun r hr => m_X5_get hl0 ⟨r, hr, hr⟩) (fun x15 τ16 _ h => ?_)
      refine r_aload_n 2 dX1_reasonToRefuse_60 rfl ?_
      refine r_getr fd_X1_41 rfl dX1_reasonToRefuse_61 h (fun x17 h => ?_)
      refine r_iload_n 3 dX1_reasonToRefuse_64 rfl ?_
      refine r_iconst (v := 3) dX1_reasonToRefuse_65 rfl rfl ?_
      refine r_callV (K' := Y_X5_get) (R' := R_X5_get) (idx := 111) (n := 2) (b := x17) (as := [(0, a1), (0, 3)]) (rest := [(0, x15), (4, x12)]) (C' := 0) (D' := 0) (cn := 5) rfl k0_X5_get kV_X5_get kl_X1_111 ⟨by decide, by decide⟩ dX1_reasonToRefuse_66 rfl rfl (Nat.le_of_ble_eq_true rfl) (by decide) (by decide) rfl h (fun r hr => m_X5_get hl0 ⟨r, hr, hr⟩) (fun x18 τ19 _ h => ?_)
      refine r_callV (K' := Y_X5_rowOf) (R' := R_X5_rowOf) (idx := 118) (n := 2) (b := x12) (as := [(0, x15), (0, x18)]) (rest := []) (C' := 0) (D' := 0) (cn := 5) rfl k0_X5_rowOf kV_X5_rowOf kl_X1_118 ⟨by decide, by decide⟩ dX1_reasonToRefuse_69 rfl rfl (Nat.le_of_ble_eq_true rfl) (by decide) (by decide) rfl h (fun r hr => m_X5_rowOf hl0 ⟨r, hr, hr⟩) (fun x20 τ21 _ h => ?_)
      refine r_istore (L' := [(4, (0, x20)), (3, (4, x12)), (2, (0, x2)), (0, (4, a0)), (1, (0, a1))]) dX1_reasonToRefuse_72 (by decide) rfl ?_
      refine r_iload 0 dX1_reasonToRefuse_74 rfl ?_
      refine r_iconst (v := (-1)) dX1_reasonToRefuse_76 rfl rfl ?_
      refine r_icmp_ne 82 dX1_reasonToRefuse_77 (by decide) h (fun h => ?_) (fun h => ?_)
      · refine r_aload_n 1 dX1_reasonToRefuse_82 rfl ?_
        refine r_iload 0 dX1_reasonToRefuse_83 rfl ?_
        refine r_iconst (v := 4) dX1_reasonToRefuse_85 rfl rfl ?_
        refine r_callV (K' := Y_X5_get) (R' := R_X5_get) (idx := 111) (n := 2) (b := x12) (as := [(0, x20), (0, 4)]) (rest := []) (C' := 0) (D' := 0) (cn := 5) rfl k0_X5_get kV_X5_get kl_X1_111 ⟨by decide, by decide⟩ dX1_reasonToRefuse_86 rfl rfl (Nat.le_of_ble_eq_true rfl) (by decide) (by decide) rfl h (fun r hr => m_X5_get hl0 ⟨r, hr, hr⟩) (fun x22 τ23 _ h => ?_)
        refine r_aload_n 3 dX1_reasonToRefuse_89 rfl ?_
        refine r_getr fd_X1_41 rfl dX1_reasonToRefuse_90 h (fun x24 h => ?_)
        refine r_iload_n 4 dX1_reasonToRefuse_93 rfl ?_
        refine r_iconst (v := 4) dX1_reasonToRefuse_94 rfl rfl ?_
        refine r_callV (K' := Y_X5_get) (R' := R_X5_get) (idx := 111) (n := 2) (b := x24) (as := [(0, a1), (0, 4)]) (rest := [(0, x22)]) (C' := 0) (D' := 0) (cn := 5) rfl k0_X5_get kV_X5_get kl_X1_111 ⟨by decide, by decide⟩ dX1_reasonToRefuse_95 rfl rfl (Nat.le_of_ble_eq_true rfl) (by decide) (by decide) rfl h (fun r hr => m_X5_get hl0 ⟨r, hr, hr⟩) (fun x25 τ26 _ h => ?_)
        refine r_isub dX1_reasonToRefuse_98 ?_
        refine r_istore (L' := [(5, (0, (w32 (x22 - x25)))), (4, (0, x20)), (3, (4, x12)), (2, (0, x2)), (0, (4, a0)), (1, (0, a1))]) dX1_reasonToRefuse_99 (by decide) rfl ?_
        refine r_aload_n 2 dX1_reasonToRefuse_101 rfl ?_
        refine r_iload 1 dX1_reasonToRefuse_102 rfl ?_
        refine r_iconst (v := 2) dX1_reasonToRefuse_104 rfl rfl ?_
        refine r_callV (K' := Y_X5_get) (R' := R_X5_get) (idx := 111) (n := 2) (b := x12) (as := [(0, x20), (0, 2)]) (rest := []) (C' := 0) (D' := 0) (cn := 5) rfl k0_X5_get kV_X5_get kl_X1_111 ⟨by decide, by decide⟩ dX1_reasonToRefuse_105 rfl rfl (Nat.le_of_ble_eq_true rfl) (by decide) (by decide) rfl h (fun r hr => m_X5_get hl0 ⟨r, hr, hr⟩) (fun x27 τ28 _ h => ?_)
        refine r_aload_n 4 dX1_reasonToRefuse_108 rfl ?_
        refine r_getr fd_X1_41 rfl dX1_reasonToRefuse_109 h (fun x29 h => ?_)
        refine r_iload_n 5 dX1_reasonToRefuse_112 rfl ?_
        refine r_iconst (v := 2) dX1_reasonToRefuse_113 rfl rfl ?_
        refine r_callV (K' := Y_X5_get) (R' := R_X5_get) (idx := 111) (n := 2) (b := x29) (as := [(0, a1), (0, 2)]) (rest := [(0, x27)]) (C' := 0) (D' := 0) (cn := 5) rfl k0_X5_get kV_X5_get kl_X1_111 ⟨by decide, by decide⟩ dX1_reasonToRefuse_114 rfl rfl (Nat.le_of_ble_eq_true rfl) (by decide) (by decide) rfl h (fun r hr => m_X5_get hl0 ⟨r, hr, hr⟩) (fun x30 τ31 _ h => ?_)
        refine r_icmp_gt 124 dX1_reasonToRefuse_117 (by decide) h (fun h => ?_) (fun h => ?_)
        · refine r_iconst (v := 0) dX1_reasonToRefuse_124 rfl rfl ?_
          refine r_weak (L' := [(5, (0, (w32 (x22 - x25))))]) [0] rfl ?_
          refine r_room (C' := 0) (D' := 0) (by omega) (by omega) ?_
          exact t_X1_reasonToRefuse_125 hl0    h
        · refine r_iconst (v := 1) dX1_reasonToRefuse_120 rfl rfl ?_
          refine r_goto 125 dX1_reasonToRefuse_121 (by decide) ?_
          refine r_weak (L' := [(5, (0, (w32 (x22 - x25))))]) [0] rfl ?_
          refine r_room (C' := 0) (D' := 0) (by omega) (by omega) ?_
          exact t_X1_reasonToRefuse_125 hl0    h
      · refine r_iconst (v := 0) dX1_reasonToRefuse_80 rfl rfl ?_
        exact r_iret rfl dX1_reasonToRefuse_81 h
    · refine r_iconst (v := 2) dX1_reasonToRefuse_42 rfl rfl ?_
      exact r_iret rfl dX1_reasonToRefuse_43 h
  · refine r_iconst (v := 1) dX1_reasonToRefuse_28 rfl rfl ?_
    exact r_iret rfl dX1_reasonToRefuse_29 h
theorem m_X1_reasonToRefuse {g : zF} (hl0 : g.2.2.2.1.stackTraces = false) {Q : zR × zS → Prop} {a0 a1 : Int} {σ : zS} (h : zo (f_X1_reasonToRefuse a0 a1 σ) Q) : zm g Y_X1_reasonToRefuse R_X1_reasonToRefuse [(4, a0), (0, a1)] σ Q := zm_of (by decide) rfl (Nat.le_of_ble_eq_true rfl) (t_X1_reasonToRefuse hl0 h)

