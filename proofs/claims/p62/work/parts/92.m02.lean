/- X1_receive -/

set_option maxRecDepth 100000 in
set_option maxHeartbeats 4000000 in
theorem t_X1_receive {g : zF} (hl0 : g.2.2.2.1.stackTraces = false) {Q : zR × zS → Prop}   {a0 a1 : Int} {σ : zS} (h : zo (f_X1_receive  a0 a1 σ) Q) : zw g Y_X1_receive R_X1_receive 0 [(0, (4, a0)), (1, (0, a1))] [] σ 0 0 Q := by
  unfold f_X1_receive at h
  refine r_aload_n 0 dX1_receive_0 rfl ?_
  refine r_getr fd_X1_41 rfl dX1_receive_1 h (fun x1 h => ?_)
  refine r_iload_n 1 dX1_receive_4 rfl ?_
  refine r_bipush (v := 7) dX1_receive_5 rfl rfl ?_
  refine r_callV (K' := Y_X5_get) (R' := R_X5_get) (idx := 111) (n := 2) (b := x1) (as := [(0, a1), (0, 7)]) (rest := []) (C' := 0) (D' := 0) (cn := 5) rfl k0_X5_get kV_X5_get kl_X1_111 ⟨by decide, by decide⟩ dX1_receive_7 rfl rfl (Nat.le_of_ble_eq_true rfl) (by decide) (by decide) rfl h (fun r hr => m_X5_get hl0 ⟨r, hr, hr⟩) (fun x2 τ3 _ h => ?_)
  refine r_istore_n (L' := [(2, (0, x2)), (0, (4, a0)), (1, (0, a1))]) dX1_receive_10 (by decide) rfl ?_
  refine r_aload_n 1 dX1_receive_11 rfl ?_
  refine r_iload_n 2 dX1_receive_12 rfl ?_
  refine r_callV (K' := Y_X1_reasonToRefuse) (R' := R_X1_reasonToRefuse) (idx := 173) (n := 1) (b := a0) (as := [(0, a1)]) (rest := []) (C' := 0) (D' := 0) (cn := 1) rfl k0_X1_reasonToRefuse kV_X1_reasonToRefuse kl_X1_173 ⟨by decide, by decide⟩ dX1_receive_13 rfl rfl (Nat.le_of_ble_eq_true rfl) (by decide) (by decide) rfl h (fun r hr => m_X1_reasonToRefuse hl0 ⟨r, hr, hr⟩) (fun x4 τ5 _ h => ?_)
  refine r_if_eq 27 dX1_receive_16 (by decide) h (fun h => ?_) (fun h => ?_)
  · refine r_aload_n 1 dX1_receive_27 rfl ?_
    refine r_iload_n 0 dX1_receive_28 rfl ?_
    refine r_iconst (v := 1) dX1_receive_29 rfl rfl ?_
    refine r_callV (K' := Y_X1_tally) (R' := R_X1_tally) (idx := 132) (n := 2) (b := a0) (as := [(0, x2), (0, 1)]) (rest := []) (C' := 0) (D' := 0) (cn := 1) rfl k0_X1_tally kV_X1_tally kl_X1_132 ⟨by decide, by decide⟩ dX1_receive_30 rfl rfl (Nat.le_of_ble_eq_true rfl) (by decide) (by decide) rfl h (fun r hr => m_X1_tally hl0 ⟨r, hr, hr⟩) (fun _ τ7 _ h => ?_)
    refine r_aload_n 1 dX1_receive_33 rfl ?_
    refine r_getr fd_X1_41 rfl dX1_receive_34 h (fun x8 h => ?_)
    refine r_iload_n 2 dX1_receive_37 rfl ?_
    refine r_iconst (v := 3) dX1_receive_38 rfl rfl ?_
    refine r_callV (K' := Y_X5_get) (R' := R_X5_get) (idx := 111) (n := 2) (b := x8) (as := [(0, a1), (0, 3)]) (rest := []) (C' := 0) (D' := 0) (cn := 5) rfl k0_X5_get kV_X5_get kl_X1_111 ⟨by decide, by decide⟩ dX1_receive_39 rfl rfl (Nat.le_of_ble_eq_true rfl) (by decide) (by decide) rfl h (fun r hr => m_X5_get hl0 ⟨r, hr, hr⟩) (fun x9 τ10 _ h => ?_)
    refine r_istore_n (L' := [(3, (0, x9)), (2, (0, x2)), (0, (4, a0)), (1, (0, a1))]) dX1_receive_42 (by decide) rfl ?_
    refine r_aload_n 2 dX1_receive_43 rfl ?_
    refine r_iload_n 1 dX1_receive_44 rfl ?_
    refine r_callV (K' := Y_X1_listOf) (R' := R_X1_listOf) (idx := 67) (n := 1) (b := a0) (as := [(0, x2)]) (rest := []) (C' := 0) (D' := 0) (cn := 1) rfl k0_X1_listOf kV_X1_listOf kl_X1_67 ⟨by decide, by decide⟩ dX1_receive_45 rfl rfl (Nat.le_of_ble_eq_true rfl) (by decide) (by decide) rfl h (fun r hr => m_X1_listOf hl0 ⟨r, hr, hr⟩) (fun x11 τ12 _ h => ?_)
    refine r_astore (L' := [(4, (4, x11)), (3, (0, x9)), (2, (0, x2)), (0, (4, a0)), (1, (0, a1))]) dX1_receive_48 (by decide) rfl ?_
    refine r_aload 0 dX1_receive_50 rfl ?_
    refine r_aload 0 dX1_receive_52 rfl ?_
    refine r_aload_n 3 dX1_receive_54 rfl ?_
    refine r_getr fd_X1_41 rfl dX1_receive_55 h (fun x13 h => ?_)
    refine r_iload_n 4 dX1_receive_58 rfl ?_
    refine r_iconst (v := 0) dX1_receive_59 rfl rfl ?_
    refine r_callV (K' := Y_X5_get) (R' := R_X5_get) (idx := 111) (n := 2) (b := x13) (as := [(0, a1), (0, 0)]) (rest := [(4, x11), (4, x11)]) (C' := 0) (D' := 0) (cn := 5) rfl k0_X5_get kV_X5_get kl_X1_111 ⟨by decide, by decide⟩ dX1_receive_60 rfl rfl (Nat.le_of_ble_eq_true rfl) (by decide) (by decide) rfl h (fun r hr => m_X5_get hl0 ⟨r, hr, hr⟩) (fun x14 τ15 _ h => ?_)
    refine r_iload_n 1 dX1_receive_63 rfl ?_
    refine r_callV (K' := Y_X5_rowOf) (R' := R_X5_rowOf) (idx := 118) (n := 2) (b := x11) (as := [(0, x14), (0, x9)]) (rest := [(4, x11)]) (C' := 0) (D' := 0) (cn := 5) rfl k0_X5_rowOf kV_X5_rowOf kl_X1_118 ⟨by decide, by decide⟩ dX1_receive_64 rfl rfl (Nat.le_of_ble_eq_true rfl) (by decide) (by decide) rfl h (fun r hr => m_X5_rowOf hl0 ⟨r, hr, hr⟩) (fun x16 τ17 _ h => ?_)
    refine r_callV (K' := Y_X5_removeRow) (R' := R_X5_removeRow) (idx := 121) (n := 1) (b := x11) (as := [(0, x16)]) (rest := []) (C' := 0) (D' := 0) (cn := 5) rfl k0_X5_removeRow kV_X5_removeRow kl_X1_121 ⟨by decide, by decide⟩ dX1_receive_67 rfl rfl (Nat.le_of_ble_eq_true rfl) (by decide) (by decide) rfl h (fun r hr => m_X5_removeRow hl0 ⟨r, hr, hr⟩) (fun _ τ19 _ h => ?_)
    refine r_aload 0 dX1_receive_70 rfl ?_
    refine r_aload_n 3 dX1_receive_72 rfl ?_
    refine r_getr fd_X1_41 rfl dX1_receive_73 h (fun x20 h => ?_)
    refine r_iload_n 4 dX1_receive_76 rfl ?_
    refine r_callV (K' := Y_X5_addCopy) (R' := R_X5_addCopy) (idx := 159) (n := 2) (b := x11) (as := [(4, x20), (0, a1)]) (rest := []) (C' := 0) (D' := 0) (cn := 5) rfl k0_X5_addCopy kV_X5_addCopy kl_X1_159 ⟨by decide, by decide⟩ dX1_receive_77 rfl rfl (Nat.le_of_ble_eq_true rfl) (by decide) (by decide) rfl h (fun r hr => m_X5_addCopy hl0 ⟨r, hr, hr⟩) (fun x21 τ22 _ h => ?_)
    refine r_istore (L' := [(5, (0, x21)), (4, (4, x11)), (3, (0, x9)), (2, (0, x2)), (0, (4, a0)), (1, (0, a1))]) dX1_receive_80 (by decide) rfl ?_
    refine r_aload 1 dX1_receive_82 rfl ?_
    refine r_iload_n 3 dX1_receive_84 rfl ?_
    refine r_iload_n 2 dX1_receive_85 rfl ?_
    refine r_callV (K' := Y_X5_rowOf) (R' := R_X5_rowOf) (idx := 118) (n := 2) (b := x11) (as := [(0, x2), (0, x9)]) (rest := []) (C' := 0) (D' := 0) (cn := 5) rfl k0_X5_rowOf kV_X5_rowOf kl_X1_118 ⟨by decide, by decide⟩ dX1_receive_86 rfl rfl (Nat.le_of_ble_eq_true rfl) (by decide) (by decide) rfl h (fun r hr => m_X5_rowOf hl0 ⟨r, hr, hr⟩) (fun x23 τ24 _ h => ?_)
    refine r_istore (L' := [(6, (0, x23)), (5, (0, x21)), (4, (4, x11)), (3, (0, x9)), (2, (0, x2)), (0, (4, a0)), (1, (0, a1))]) dX1_receive_89 (by decide) rfl ?_
    refine r_iload 0 dX1_receive_91 rfl ?_
    refine r_iconst (v := (-1)) dX1_receive_93 rfl rfl ?_
    refine r_icmp_eq 107 dX1_receive_94 (by decide) h (fun h => ?_) (fun h => ?_)
    · refine r_iconst (v := 1) dX1_receive_107 rfl rfl ?_
      exact r_zretc (by decide) rfl dX1_receive_108 h
    · refine r_aload_n 5 dX1_receive_97 rfl ?_
      refine r_iload_n 4 dX1_receive_98 rfl ?_
      refine r_iload 1 dX1_receive_99 rfl ?_
      refine r_iload 0 dX1_receive_101 rfl ?_
      refine r_callV (K' := Y_X1_judge) (R' := R_X1_judge) (idx := 135) (n := 3) (b := a0) (as := [(0, x2), (0, x21), (0, x23)]) (rest := []) (C' := 0) (D' := 0) (cn := 1) rfl k0_X1_judge kV_X1_judge kl_X1_135 ⟨by decide, by decide⟩ dX1_receive_103 rfl rfl (Nat.le_of_ble_eq_true rfl) (by decide) (by decide) rfl h (fun r hr => m_X1_judge hl0 ⟨r, hr, hr⟩) (fun x25 τ26 _ h => ?_)
      refine r_pop dX1_receive_106 rfl ?_
      refine r_iconst (v := 1) dX1_receive_107 rfl rfl ?_
      exact r_zretc (by decide) rfl dX1_receive_108 h
  · refine r_aload_n 1 dX1_receive_19 rfl ?_
    refine r_iload_n 0 dX1_receive_20 rfl ?_
    refine r_iconst (v := 2) dX1_receive_21 rfl rfl ?_
    refine r_callV (K' := Y_X1_tally) (R' := R_X1_tally) (idx := 132) (n := 2) (b := a0) (as := [(0, x2), (0, 2)]) (rest := []) (C' := 0) (D' := 0) (cn := 1) rfl k0_X1_tally kV_X1_tally kl_X1_132 ⟨by decide, by decide⟩ dX1_receive_22 rfl rfl (Nat.le_of_ble_eq_true rfl) (by decide) (by decide) rfl h (fun r hr => m_X1_tally hl0 ⟨r, hr, hr⟩) (fun _ τ28 _ h => ?_)
    refine r_iconst (v := 0) dX1_receive_25 rfl rfl ?_
    exact r_zretc (by decide) rfl dX1_receive_26 h
theorem m_X1_receive {g : zF} (hl0 : g.2.2.2.1.stackTraces = false) {Q : zR × zS → Prop} {a0 a1 : Int} {σ : zS} (h : zo (f_X1_receive a0 a1 σ) Q) : zm g Y_X1_receive R_X1_receive [(4, a0), (0, a1)] σ Q := zm_of (by decide) rfl (Nat.le_of_ble_eq_true rfl) (t_X1_receive hl0 h)


/- X5_removeFirst -/

set_option maxRecDepth 100000 in
set_option maxHeartbeats 4000000 in
theorem t_X5_removeFirst {g : zF} (hl0 : g.2.2.2.1.stackTraces = false) {Q : zR × zS → Prop}   {a0 a1 : Int} {σ : zS} (h : zo (f_X5_removeFirst  a0 a1 σ) Q) : zw g Y_X5_removeFirst R_X5_removeFirst 0 [(0, (4, a0)), (1, (0, a1))] [] σ 0 0 Q := by
  unfold f_X5_removeFirst at h
  refine r_aload_n 0 dX5_removeFirst_0 rfl ?_
  refine r_iconst (v := 0) dX5_removeFirst_1 rfl rfl ?_
  refine r_iconst (v := 0) dX5_removeFirst_2 rfl rfl ?_
  refine r_iload_n 1 dX5_removeFirst_3 rfl ?_
  refine r_aload_n 0 dX5_removeFirst_4 rfl ?_
  refine r_getf fd_X5_15 rfl dX5_removeFirst_5 h (fun x1 h => ?_)
  refine r_mmin mq_X5_39 ⟨by decide, Nat.le_of_ble_eq_true rfl⟩ rfl dX5_removeFirst_8 ?_
  refine r_mmax mq_X5_44 ⟨by decide, Nat.le_of_ble_eq_true rfl⟩ rfl dX5_removeFirst_11 ?_
  refine r_callV (K' := Y_X5_closeGap) (R' := R_X5_closeGap) (idx := 35) (n := 2) (b := a0) (as := [(0, 0), (0, (max 0 (min a1 x1)))]) (rest := []) (C' := 0) (D' := 0) (cn := 5) rfl k0_X5_closeGap kV_X5_closeGap kl_X5_35 ⟨by decide, by decide⟩ dX5_removeFirst_14 rfl rfl (Nat.le_of_ble_eq_true rfl) (by decide) (by decide) rfl h (fun r hr => m_X5_closeGap hl0 ⟨r, hr, hr⟩) (fun _ τ3 _ h => ?_)
  exact r_vret rfl dX5_removeFirst_17 h
theorem m_X5_removeFirst {g : zF} (hl0 : g.2.2.2.1.stackTraces = false) {Q : zR × zS → Prop} {a0 a1 : Int} {σ : zS} (h : zo (f_X5_removeFirst a0 a1 σ) Q) : zm g Y_X5_removeFirst R_X5_removeFirst [(4, a0), (0, a1)] σ Q := zm_of (by decide) rfl (Nat.le_of_ble_eq_true rfl) (t_X5_removeFirst hl0 h)


/- X1_deliverFirst -/

set_option maxRecDepth 100000 in
set_option maxHeartbeats 4000000 in
theorem t_X1_deliverFirst_41 {g : zF} (hl0 : g.2.2.2.1.stackTraces = false) {Q : zR × zS → Prop}   {a0 a2 a3 : Int} {σ : zS} (h : zo (f_X1_deliverFirst_41  a0 a2 a3 σ) Q) : zw g Y_X1_deliverFirst R_X1_deliverFirst 41 [(0, (4, a0)), (2, (0, a2)), (3, (0, a3))] [] σ 0 0 Q := by
  unfold f_X1_deliverFirst_41 at h
  refine r_aload_n 0 dX1_deliverFirst_41 rfl ?_
  refine r_getr fd_X1_41 rfl dX1_deliverFirst_42 h (fun x1 h => ?_)
  refine r_iload_n 1 dX1_deliverFirst_45 rfl ?_
  refine r_callV (K' := Y_X5_removeFirst) (R' := R_X5_removeFirst) (idx := 170) (n := 1) (b := x1) (as := [(0, a2)]) (rest := []) (C' := 0) (D' := 0) (cn := 5) rfl k0_X5_removeFirst kV_X5_removeFirst kl_X1_170 ⟨by decide, by decide⟩ dX1_deliverFirst_46 rfl rfl (Nat.le_of_ble_eq_true rfl) (by decide) (by decide) rfl h (fun r hr => m_X5_removeFirst hl0 ⟨r, hr, hr⟩) (fun _ τ3 _ h => ?_)
  refine r_iload_n 2 dX1_deliverFirst_49 rfl ?_
  exact r_iret rfl dX1_deliverFirst_50 h

set_option maxRecDepth 100000 in
set_option maxHeartbeats 4000000 in
theorem t_X1_deliverFirst_35 {g : zF} (hl0 : g.2.2.2.1.stackTraces = false) {Q : zR × zS → Prop} (r17 : Int → Int → Int → Int → zS → zFn) (hr17 : ∀ b0 b2 b3 b4 τ, zo (r17 b0 b2 b3 b4 τ) Q → zw g Y_X1_deliverFirst R_X1_deliverFirst 17 [(0, (4, b0)), (2, (0, b2)), (3, (0, b3)), (4, (0, b4))] [] τ 0 0 Q) {a0 a2 a3 a4 : Int} {σ : zS} (h : zo (f_X1_deliverFirst_35 r17 a0 a2 a3 a4 σ) Q) : zw g Y_X1_deliverFirst R_X1_deliverFirst 35 [(0, (4, a0)), (2, (0, a2)), (3, (0, a3)), (4, (0, a4))] [] σ 0 0 Q := by
  unfold f_X1_deliverFirst_35 at h
  refine r_iinc (L' := [(4, (0, (w32 (a4 + 1)))), (0, (4, a0)), (2, (0, a2)), (3, (0, a3))]) 3 dX1_deliverFirst_35 rfl (by decide) rfl ?_
  refine r_goto 17 dX1_deliverFirst_38 (by decide) ?_
  refine r_weak (L' := [(0, (4, a0)), (2, (0, a2)), (3, (0, a3)), (4, (0, (w32 (a4 + 1))))]) [1, 2, 3, 0] rfl ?_
  refine r_room (C' := 0) (D' := 0) (by omega) (by omega) ?_
  exact hr17 _ _ _ _ _ h

set_option maxRecDepth 100000 in
set_option maxHeartbeats 4000000 in
theorem t_X1_deliverFirst_17 {g : zF} (hl0 : g.2.2.2.1.stackTraces = false) {Q : zR × zS → Prop}   : ∀ (n : Nat) (a0 a2 a3 a4 : Int) (σ : zS), zo (f_X1_deliverFirst_17  n a0 a2 a3 a4 σ) Q → zw g Y_X1_deliverFirst R_X1_deliverFirst 17 [(0, (4, a0)), (2, (0, a2)), (3, (0, a3)), (4, (0, a4))] [] σ 0 0 Q := by
  intro n
  induction n with
  | zero => intro a0 a2 a3 a4 σ h; obtain ⟨r, h, -⟩ := h; cases h
  | succ n ih =>
    intro a0 a2 a3 a4 σ h
    unfold f_X1_deliverFirst_17 at h
    refine r_iload 3 dX1_deliverFirst_17 rfl ?_
    refine r_iload_n 1 dX1_deliverFirst_19 rfl ?_
    refine r_icmp_ge 41 dX1_deliverFirst_20 (by decide) h (fun h => ?_) (fun h => ?_)
    · refine r_weak (L' := [(0, (4, a0)), (2, (0, a2)), (3, (0, a3))]) [0, 1, 2] rfl ?_
      refine r_room (C' := 0) (D' := 0) (by omega) (by omega) ?_
      exact t_X1_deliverFirst_41 hl0    h
    · refine r_aload_n 0 dX1_deliverFirst_23 rfl ?_
      refine r_iload 3 dX1_deliverFirst_24 rfl ?_
      refine r_callV (K' := Y_X1_receive) (R' := R_X1_receive) (idx := 166) (n := 1) (b := a0) (as := [(0, a4)]) (rest := []) (C' := 0) (D' := 0) (cn := 1) rfl k0_X1_receive kV_X1_receive kl_X1_166 ⟨by decide, by decide⟩ dX1_deliverFirst_26 rfl rfl (Nat.le_of_ble_eq_true rfl) (by decide) (by decide) rfl h (fun r hr => m_X1_receive hl0 ⟨r, hr, hr⟩) (fun x1 τ2 _ h => ?_)
      refine r_if_eq 35 dX1_deliverFirst_29 (by decide) h (fun h => ?_) (fun h => ?_)
      · refine r_room (C' := 0) (D' := 0) (by omega) (by omega) ?_
        exact t_X1_deliverFirst_35 hl0  (f_X1_deliverFirst_17  n) (fun b0 b2 b3 b4 τ h => ih b0 b2 b3 b4 τ h) h
      · refine r_iinc (L' := [(3, (0, (w32 (a3 + 1)))), (0, (4, a0)), (2, (0, a2)), (4, (0, a4))]) 2 dX1_deliverFirst_32 rfl (by decide) rfl ?_
        refine r_weak (L' := [(0, (4, a0)), (2, (0, a2)), (3, (0, (w32 (a3 + 1)))), (4, (0, a4))]) [1, 2, 0, 3] rfl ?_
        refine r_room (C' := 0) (D' := 0) (by omega) (by omega) ?_
        exact t_X1_deliverFirst_35 hl0  (f_X1_deliverFirst_17  n) (fun b0 b2 b3 b4 τ h => ih b0 b2 b3 b4 τ h) h

set_option maxRecDepth 100000 in
set_option maxHeartbeats 4000000 in
theorem t_X1_deliverFirst {g : zF} (hl0 : g.2.2.2.1.stackTraces = false) {Q : zR × zS → Prop}   {a0 a1 : Int} {σ : zS} (h : zo (f_X1_deliverFirst  a0 a1 σ) Q) : zw g Y_X1_deliverFirst R_X1_deliverFirst 0 [(0, (4, a0)), (1, (0, a1))] [] σ 0 0 Q := by
  unfold f_X1_deliverFirst at h
  refine r_iload_n 1 dX1_deliverFirst_0 rfl ?_
  refine r_aload_n 0 dX1_deliverFirst_1 rfl ?_
  refine r_getr fd_X1_41 rfl dX1_deliverFirst_2 h (fun x1 h => ?_)
  refine r_getf fd_X1_71 rfl dX1_deliverFirst_5 h (fun x2 h => ?_)
  refine r_mmin mq_X1_83 ⟨by decide, Nat.le_of_ble_eq_true rfl⟩ rfl dX1_deliverFirst_8 ?_
  refine r_istore_n (L' := [(2, (0, (min a1 x2))), (0, (4, a0)), (1, (0, a1))]) dX1_deliverFirst_11 (by decide) rfl ?_
  refine r_iconst (v := 0) dX1_deliverFirst_12 rfl rfl ?_
  refine r_istore_n (L' := [(3, (0, 0)), (2, (0, (min a1 x2))), (0, (4, a0)), (1, (0, a1))]) dX1_deliverFirst_13 (by decide) rfl ?_
  refine r_iconst (v := 0) dX1_deliverFirst_14 rfl rfl ?_
  refine r_istore (L' := [(4, (0, 0)), (3, (0, 0)), (2, (0, (min a1 x2))), (0, (4, a0)), (1, (0, a1))]) dX1_deliverFirst_15 (by decide) rfl ?_
  refine r_weak (L' := [(0, (4, a0)), (2, (0, (min a1 x2))), (3, (0, 0)), (4, (0, 0))]) [3, 2, 1, 0] rfl ?_
  refine r_room (C' := 0) (D' := 0) (by omega) (by omega) ?_
  exact t_X1_deliverFirst_17 hl0    zFU _ _ _ _ _ h
theorem m_X1_deliverFirst {g : zF} (hl0 : g.2.2.2.1.stackTraces = false) {Q : zR × zS → Prop} {a0 a1 : Int} {σ : zS} (h : zo (f_X1_deliverFirst a0 a1 σ) Q) : zm g Y_X1_deliverFirst R_X1_deliverFirst [(4, a0), (0, a1)] σ Q := zm_of (by decide) rfl (Nat.le_of_ble_eq_true rfl) (t_X1_deliverFirst hl0 h)


/- X1_makeRounds -/

set_option maxRecDepth 100000 in
set_option maxHeartbeats 4000000 in
theorem t_X1_makeRounds_42 {g : zF} (hl0 : g.2.2.2.1.stackTraces = false) {Q : zR × zS → Prop} (r4 : Int → Int → Int → Int → zS → zFn) (hr4 : ∀ b0 b1 b2 b3 τ, zo (r4 b0 b1 b2 b3 τ) Q → zw g Y_X1_makeRounds R_X1_makeRounds 4 [(0, (4, b0)), (1, (0, b1)), (2, (0, b2)), (3, (0, b3))] [] τ 0 0 Q) {a0 a1 a2 a3 : Int} {σ : zS} (h : zo (f_X1_makeRounds_42 r4 a0 a1 a2 a3 σ) Q) : zw g Y_X1_makeRounds R_X1_makeRounds 42 [(0, (4, a0)), (1, (0, a1)), (2, (0, a2)), (3, (0, a3))] [] σ 0 0 Q := by
  unfold f_X1_makeRounds_42 at h
  refine r_iload_n 2 dX1_makeRounds_42 rfl ?_
  refine r_aload_n 0 dX1_makeRounds_43 rfl ?_
  refine r_aload_n 0 dX1_makeRounds_44 rfl ?_
  refine r_getr fd_X1_41 rfl dX1_makeRounds_45 h (fun x1 h => ?_)
  refine r_getf fd_X1_71 rfl dX1_makeRounds_48 h (fun x2 h => ?_)
  refine r_callV (K' := Y_X1_deliverFirst) (R' := R_X1_deliverFirst) (idx := 179) (n := 1) (b := a0) (as := [(0, x2)]) (rest := [(0, a2)]) (C' := 0) (D' := 0) (cn := 1) rfl k0_X1_deliverFirst kV_X1_deliverFirst kl_X1_179 ⟨by decide, by decide⟩ dX1_makeRounds_51 rfl rfl (Nat.le_of_ble_eq_true rfl) (by decide) (by decide) rfl h (fun r hr => m_X1_deliverFirst hl0 ⟨r, hr, hr⟩) (fun x3 τ4 _ h => ?_)
  refine r_iadd dX1_makeRounds_54 ?_
  refine r_istore_n (L' := [(2, (0, (w32 (a2 + x3)))), (0, (4, a0)), (1, (0, a1)), (3, (0, a3))]) dX1_makeRounds_55 (by decide) rfl ?_
  refine r_iinc (L' := [(3, (0, (w32 (a3 + 1)))), (2, (0, (w32 (a2 + x3)))), (0, (4, a0)), (1, (0, a1))]) 3 dX1_makeRounds_56 rfl (by decide) rfl ?_
  refine r_goto 4 dX1_makeRounds_59 (by decide) ?_
  refine r_weak (L' := [(0, (4, a0)), (1, (0, a1)), (2, (0, (w32 (a2 + x3)))), (3, (0, (w32 (a3 + 1))))]) [2, 3, 1, 0] rfl ?_
  refine r_room (C' := 0) (D' := 0) (by omega) (by omega) ?_
  exact hr4 _ _ _ _ _ h

set_option maxRecDepth 100000 in
set_option maxHeartbeats 4000000 in
theorem t_X1_makeRounds_12 {g : zF} (hl0 : g.2.2.2.1.stackTraces = false) {Q : zR × zS → Prop} (r4 : Int → Int → Int → Int → zS → zFn) (hr4 : ∀ b0 b1 b2 b3 τ, zo (r4 b0 b1 b2 b3 τ) Q → zw g Y_X1_makeRounds R_X1_makeRounds 4 [(0, (4, b0)), (1, (0, b1)), (2, (0, b2)), (3, (0, b3))] [] τ 0 0 Q) : ∀ (n : Nat) (a0 a1 a2 a3 a4 : Int) (σ : zS), zo (f_X1_makeRounds_12 r4 n a0 a1 a2 a3 a4 σ) Q → zw g Y_X1_makeRounds R_X1_makeRounds 12 [(0, (4, a0)), (1, (0, a1)), (2, (0, a2)), (3, (0, a3)), (4, (0, a4))] [] σ 0 0 Q := by
  intro n
  induction n with
  | zero => intro a0 a1 a2 a3 a4 σ h; obtain ⟨r, h, -⟩ := h; cases h
  | succ n ih =>
    intro a0 a1 a2 a3 a4 σ h
    unfold f_X1_makeRounds_12 at h
    refine r_iload 4 dX1_makeRounds_12 rfl ?_
    refine r_aload_n 0 dX1_makeRounds_14 rfl ?_
    refine r_getr fd_X1_18 rfl dX1_makeRounds_15 h (fun x1 h => ?_)
    refine r_getf fd_X1_57 rfl dX1_makeRounds_18 h (fun x2 h => ?_)
    refine r_icmp_ge 42 dX1_makeRounds_21 (by decide) h (fun h => ?_) (fun h => ?_)
    · refine r_weak (L' := [(0, (4, a0)), (1, (0, a1)), (2, (0, a2)), (3, (0, a3))]) [0, 1, 2, 3] rfl ?_
      refine r_room (C' := 0) (D' := 0) (by omega) (by omega) ?_
      exact t_X1_makeRounds_42 hl0  r4 hr4 h
    · refine r_aload_n 0 dX1_makeRounds_24 rfl ?_
      refine r_iload 4 dX1_makeRounds_25 rfl ?_
      refine r_aload_n 0 dX1_makeRounds_27 rfl ?_
      refine r_iconst (v := 4) dX1_makeRounds_28 rfl rfl ?_
      refine r_callV (K' := Y_X1_rule) (R' := R_X1_rule) (idx := 75) (n := 1) (b := a0) (as := [(0, 4)]) (rest := [(0, a4), (4, a0)]) (C' := 0) (D' := 0) (cn := 1) rfl k0_X1_rule kV_X1_rule kl_X1_75 ⟨by decide, by decide⟩ dX1_makeRounds_29 rfl rfl (Nat.le_of_ble_eq_true rfl) (by decide) (by decide) rfl h (fun r hr => m_X1_rule hl0 ⟨r, hr, hr⟩) (fun x3 τ4 _ h => ?_)
      refine r_callV (K' := Y_X1_sendReports) (R' := R_X1_sendReports) (idx := 176) (n := 2) (b := a0) (as := [(0, a4), (0, x3)]) (rest := []) (C' := 0) (D' := 0) (cn := 1) rfl k0_X1_sendReports kV_X1_sendReports kl_X1_176 ⟨by decide, by decide⟩ dX1_makeRounds_32 rfl rfl (Nat.le_of_ble_eq_true rfl) (by decide) (by decide) rfl h (fun r hr => m_X1_sendReports hl0 ⟨r, hr, hr⟩) (fun x5 τ6 _ h => ?_)
      refine r_pop dX1_makeRounds_35 rfl ?_
      refine r_iinc (L' := [(4, (0, (w32 (a4 + 1)))), (0, (4, a0)), (1, (0, a1)), (2, (0, a2)), (3, (0, a3))]) 4 dX1_makeRounds_36 rfl (by decide) rfl ?_
      refine r_goto 12 dX1_makeRounds_39 (by decide) ?_
      refine r_weak (L' := [(0, (4, a0)), (1, (0, a1)), (2, (0, a2)), (3, (0, a3)), (4, (0, (w32 (a4 + 1))))]) [1, 2, 3, 4, 0] rfl ?_
      refine r_room (C' := 0) (D' := 0) (by omega) (by omega) ?_
      exact ih _ _ _ _ _ _ h

set_option maxRecDepth 100000 in
set_option maxHeartbeats 4000000 in
theorem t_X1_makeRounds_4 {g : zF} (hl0 : g.2.2.2.1.stackTraces = false) {Q : zR × zS → Prop}   : ∀ (n : Nat) (a0 a1 a2 a3 : Int) (σ : zS), zo (f_X1_makeRounds_4  n a0 a1 a2 a3 σ) Q → zw g Y_X1_makeRounds R_X1_makeRounds 4 [(0, (4, a0)), (1, (0, a1)), (2, (0, a2)), (3, (0, a3))] [] σ 0 0 Q := by
  intro n
  induction n with
  | zero => intro a0 a1 a2 a3 σ h; obtain ⟨r, h, -⟩ := h; cases h
  | succ n ih =>
    intro a0 a1 a2 a3 σ h
    unfold f_X1_makeRounds_4 at h
    refine r_iload_n 3 dX1_makeRounds_4 rfl ?_
    refine r_iload_n 1 dX1_makeRounds_5 rfl ?_
    refine r_icmp_ge 62 dX1_makeRounds_6 (by decide) h (fun h => ?_) (fun h => ?_)
    · refine r_iload_n 2 dX1_makeRounds_62 rfl ?_
      exact r_iret rfl dX1_makeRounds_63 h
    · refine r_iconst (v := 0) dX1_makeRounds_9 rfl rfl ?_
      refine r_istore (L' := [(4, (0, 0)), (0, (4, a0)), (1, (0, a1)), (2, (0, a2)), (3, (0, a3))]) dX1_makeRounds_10 (by decide) rfl ?_
      refine r_weak (L' := [(0, (4, a0)), (1, (0, a1)), (2, (0, a2)), (3, (0, a3)), (4, (0, 0))]) [1, 2, 3, 4, 0] rfl ?_
      refine r_room (C' := 0) (D' := 0) (by omega) (by omega) ?_
      exact t_X1_makeRounds_12 hl0  (f_X1_makeRounds_4  n) (fun b0 b1 b2 b3 τ h => ih b0 b1 b2 b3 τ h) zFU _ _ _ _ _ _ h

set_option maxRecDepth 100000 in
set_option maxHeartbeats 4000000 in
theorem t_X1_makeRounds {g : zF} (hl0 : g.2.2.2.1.stackTraces = false) {Q : zR × zS → Prop}   {a0 a1 : Int} {σ : zS} (h : zo (f_X1_makeRounds  a0 a1 σ) Q) : zw g Y_X1_makeRounds R_X1_makeRounds 0 [(0, (4, a0)), (1, (0, a1))] [] σ 0 0 Q := by
  unfold f_X1_makeRounds at h
  refine r_iconst (v := 0) dX1_makeRounds_0 rfl rfl ?_
  refine r_istore_n (L' := [(2, (0, 0)), (0, (4, a0)), (1, (0, a1))]) dX1_makeRounds_1 (by decide) rfl ?_
  refine r_iconst (v := 0) dX1_makeRounds_2 rfl rfl ?_
  refine r_istore_n (L' := [(3, (0, 0)), (2, (0, 0)), (0, (4, a0)), (1, (0, a1))]) dX1_makeRounds_3 (by decide) rfl ?_
  refine r_weak (L' := [(0, (4, a0)), (1, (0, a1)), (2, (0, 0)), (3, (0, 0))]) [2, 3, 1, 0] rfl ?_
  refine r_room (C' := 0) (D' := 0) (by omega) (by omega) ?_
  exact t_X1_makeRounds_4 hl0    zFU _ _ _ _ _ h
theorem m_X1_makeRounds {g : zF} (hl0 : g.2.2.2.1.stackTraces = false) {Q : zR × zS → Prop} {a0 a1 : Int} {σ : zS} (h : zo (f_X1_makeRounds a0 a1 σ) Q) : zm g Y_X1_makeRounds R_X1_makeRounds [(4, a0), (0, a1)] σ Q := zm_of (by decide) rfl (Nat.le_of_ble_eq_true rfl) (t_X1_makeRounds hl0 h)


/- X1_letPass -/

set_option maxRecDepth 100000 in
set_option maxHeartbeats 4000000 in
theorem t_X1_letPass_73 {g : zF} (hl0 : g.2.2.2.1.stackTraces = false) {Q : zR × zS → Prop} (r14 : Int → Int → Int → zS → zFn) (hr14 : ∀ b0 b2 b3 τ, zo (r14 b0 b2 b3 τ) Q → zw g Y_X1_letPass R_X1_letPass 14 [(0, (4, b0)), (2, (0, b2)), (3, (0, b3))] [] τ 0 0 Q) {a0 a2 a3 : Int} {σ : zS} (h : zo (f_X1_letPass_73 r14 a0 a2 a3 σ) Q) : zw g Y_X1_letPass R_X1_letPass 73 [(0, (4, a0)), (2, (0, a2)), (3, (0, a3))] [] σ 0 0 Q := by
  unfold f_X1_letPass_73 at h
  refine r_iinc (L' := [(3, (0, (w32 (a3 + 1)))), (0, (4, a0)), (2, (0, a2))]) 2 dX1_letPass_73 rfl (by decide) rfl ?_
  refine r_goto 14 dX1_letPass_76 (by decide) ?_
  refine r_weak (L' := [(0, (4, a0)), (2, (0, a2)), (3, (0, (w32 (a3 + 1))))]) [1, 2, 0] rfl ?_
  refine r_room (C' := 0) (D' := 0) (by omega) (by omega) ?_
  exact hr14 _ _ _ _ h

set_option maxRecDepth 100000 in
set_option maxHeartbeats 4000000 in
theorem t_X1_letPass_67 {g : zF} (hl0 : g.2.2.2.1.stackTraces = false) {Q : zR × zS → Prop} (r14 : Int → Int → Int → zS → zFn) (r41 : Int → Int → Int → Int → Int → zS → zFn) (hr14 : ∀ b0 b2 b3 τ, zo (r14 b0 b2 b3 τ) Q → zw g Y_X1_letPass R_X1_letPass 14 [(0, (4, b0)), (2, (0, b2)), (3, (0, b3))] [] τ 0 0 Q) (hr41 : ∀ b0 b2 b3 b4 b5 τ, zo (r41 b0 b2 b3 b4 b5 τ) Q → zw g Y_X1_letPass R_X1_letPass 41 [(0, (4, b0)), (2, (0, b2)), (3, (0, b3)), (4, (4, b4)), (5, (0, b5))] [] τ 0 0 Q) {a0 a2 a3 a4 a5 : Int} {σ : zS} (h : zo (f_X1_letPass_67 r14 r41 a0 a2 a3 a4 a5 σ) Q) : zw g Y_X1_letPass R_X1_letPass 67 [(0, (4, a0)), (2, (0, a2)), (3, (0, a3)), (4, (4, a4)), (5, (0, a5))] [] σ 0 0 Q := by
  unfold f_X1_letPass_67 at h
  refine r_iinc (L' := [(5, (0, (w32 (a5 + (-1))))), (0, (4, a0)), (2, (0, a2)), (3, (0, a3)), (4, (4, a4))]) 4 dX1_letPass_67 rfl (by decide) rfl ?_
  refine r_goto 41 dX1_letPass_70 (by decide) ?_
  refine r_weak (L' := [(0, (4, a0)), (2, (0, a2)), (3, (0, a3)), (4, (4, a4)), (5, (0, (w32 (a5 + (-1)))))]) [1, 2, 3, 4, 0] rfl ?_
  refine r_room (C' := 0) (D' := 0) (by omega) (by omega) ?_
  exact hr41 _ _ _ _ _ _ h

set_option maxRecDepth 100000 in
set_option maxHeartbeats 4000000 in
theorem t_X1_letPass_41 {g : zF} (hl0 : g.2.2.2.1.stackTraces = false) {Q : zR × zS → Prop} (r14 : Int → Int → Int → zS → zFn) (hr14 : ∀ b0 b2 b3 τ, zo (r14 b0 b2 b3 τ) Q → zw g Y_X1_letPass R_X1_letPass 14 [(0, (4, b0)), (2, (0, b2)), (3, (0, b3))] [] τ 0 0 Q) : ∀ (n : Nat) (a0 a2 a3 a4 a5 : Int) (σ : zS), zo (f_X1_letPass_41 r14 n a0 a2 a3 a4 a5 σ) Q → zw g Y_X1_letPass R_X1_letPass 41 [(0, (4, a0)), (2, (0, a2)), (3, (0, a3)), (4, (4, a4)), (5, (0, a5))] [] σ 0 0 Q := by
  intro n
  induction n with
  | zero => intro a0 a2 a3 a4 a5 σ h; obtain ⟨r, h, -⟩ := h; cases h
  | succ n ih =>
    intro a0 a2 a3 a4 a5 σ h
    unfold f_X1_letPass_41 at h
    refine r_iload 4 dX1_letPass_41 rfl ?_
    refine r_if_lt 73 dX1_letPass_43 (by decide) h (fun h => ?_) (fun h => ?_)
    · refine r_weak (L' := [(0, (4, a0)), (2, (0, a2)), (3, (0, a3))]) [0, 1, 2] rfl ?_
      refine r_room (C' := 0) (D' := 0) (by omega) (by omega) ?_
      exact t_X1_letPass_73 hl0  r14 hr14 h
    · refine r_aload_n 0 dX1_letPass_46 rfl ?_
      refine r_aload 3 dX1_letPass_47 rfl ?_
      refine r_iload 4 dX1_letPass_49 rfl ?_
      refine r_callV (K' := Y_X1_isTooOld) (R' := R_X1_isTooOld) (idx := 162) (n := 2) (b := a0) (as := [(4, a4), (0, a5)]) (rest := []) (C' := 0) (D' := 0) (cn := 1) rfl k0_X1_isTooOld kV_X1_isTooOld kl_X1_162 ⟨by decide, by decide⟩ dX1_letPass_51 rfl rfl (Nat.le_of_ble_eq_true rfl) (by decide) (by decide) rfl h (fun r hr => m_X1_isTooOld hl0 ⟨r, hr, hr⟩) (fun x1 τ2 _ h => ?_)
      refine r_if_eq 67 dX1_letPass_54 (by decide) h (fun h => ?_) (fun h => ?_)
      · refine r_room (C' := 0) (D' := 0) (by omega) (by omega) ?_
        exact t_X1_letPass_67 hl0  r14 (f_X1_letPass_41 r14 n) hr14 (fun b0 b2 b3 b4 b5 τ h => ih b0 b2 b3 b4 b5 τ h) h
      · refine r_aload 3 dX1_letPass_57 rfl ?_
        refine r_iload 4 dX1_letPass_59 rfl ?_
        refine r_callV (K' := Y_X5_removeRow) (R' := R_X5_removeRow) (idx := 121) (n := 1) (b := a4) (as := [(0, a5)]) (rest := []) (C' := 0) (D' := 0) (cn := 5) rfl k0_X5_removeRow kV_X5_removeRow kl_X1_121 ⟨by decide, by decide⟩ dX1_letPass_61 rfl rfl (Nat.le_of_ble_eq_true rfl) (by decide) (by decide) rfl h (fun r hr => m_X5_removeRow hl0 ⟨r, hr, hr⟩) (fun _ τ4 _ h => ?_)
        refine r_iinc (L' := [(2, (0, (w32 (a2 + 1)))), (0, (4, a0)), (3, (0, a3)), (4, (4, a4)), (5, (0, a5))]) 1 dX1_letPass_64 rfl (by decide) rfl ?_
        refine r_weak (L' := [(0, (4, a0)), (2, (0, (w32 (a2 + 1)))), (3, (0, a3)), (4, (4, a4)), (5, (0, a5))]) [1, 0, 2, 3, 4] rfl ?_
        refine r_room (C' := 0) (D' := 0) (by omega) (by omega) ?_
        exact t_X1_letPass_67 hl0  r14 (f_X1_letPass_41 r14 n) hr14 (fun b0 b2 b3 b4 b5 τ h => ih b0 b2 b3 b4 b5 τ h) h

set_option maxRecDepth 100000 in
set_option maxHeartbeats 4000000 in
theorem t_X1_letPass_14 {g : zF} (hl0 : g.2.2.2.1.stackTraces = false) {Q : zR × zS → Prop}   : ∀ (n : Nat) (a0 a2 a3 : Int) (σ : zS), zo (f_X1_letPass_14  n a0 a2 a3 σ) Q → zw g Y_X1_letPass R_X1_letPass 14 [(0, (4, a0)), (2, (0, a2)), (3, (0, a3))] [] σ 0 0 Q := by
  intro n
  induction n with
  | zero => intro a0 a2 a3 σ h; obtain ⟨r, h, -⟩ := h; cases h
  | succ n ih =>
    intro a0 a2 a3 σ h
    unfold f_X1_letPass_14 at h
    refine r_iload_n 2 dX1_letPass_14 rfl ?_
    refine r_aload_n 0 dX1_letPass_15 rfl ?_
    refine r_getr fd_X1_18 rfl dX1_letPass_16 h (fun x1 h => ?_)
    refine r_getf fd_X1_57 rfl dX1_letPass_19 h (fun x2 h => ?_)
    refine r_icmp_ge 79 dX1_letPass_22 (by decide) h (fun h => ?_) (fun h => ?_)
    · refine r_iload_n 1 dX1_letPass_79 rfl ?_
      exact r_iret rfl dX1_letPass_80 h
    · refine r_aload_n 0 dX1_letPass_25 rfl ?_
      refine r_iload_n 2 dX1_letPass_26 rfl ?_
      refine r_callV (K' := Y_X1_listOf) (R' := R_X1_listOf) (idx := 67) (n := 1) (b := a0) (as := [(0, a3)]) (rest := []) (C' := 0) (D' := 0) (cn := 1) rfl k0_X1_listOf kV_X1_listOf kl_X1_67 ⟨by decide, by decide⟩ dX1_letPass_27 rfl rfl (Nat.le_of_ble_eq_true rfl) (by decide) (by decide) rfl h (fun r hr => m_X1_listOf hl0 ⟨r, hr, hr⟩) (fun x3 τ4 _ h => ?_)
      refine r_astore (L' := [(4, (4, x3)), (0, (4, a0)), (2, (0, a2)), (3, (0, a3))]) dX1_letPass_30 (by decide) rfl ?_
      refine r_aload 0 dX1_letPass_32 rfl ?_
      refine r_getf fd_X1_71 rfl dX1_letPass_34 h (fun x5 h => ?_)
      refine r_iconst (v := 1) dX1_letPass_37 rfl rfl ?_
      refine r_isub dX1_letPass_38 ?_
      refine r_istore (L' := [(5, (0, (w32 (x5 - 1)))), (4, (4, x3)), (0, (4, a0)), (2, (0, a2)), (3, (0, a3))]) dX1_letPass_39 (by decide) rfl ?_
      refine r_weak (L' := [(0, (4, a0)), (2, (0, a2)), (3, (0, a3)), (4, (4, x3)), (5, (0, (w32 (x5 - 1))))]) [2, 3, 4, 1, 0] rfl ?_
      refine r_room (C' := 0) (D' := 0) (by omega) (by omega) ?_
      exact t_X1_letPass_41 hl0  (f_X1_letPass_14  n) (fun b0 b2 b3 τ h => ih b0 b2 b3 τ h) zFU _ _ _ _ _ _ h

set_option maxRecDepth 100000 in
set_option maxHeartbeats 4000000 in
theorem t_X1_letPass {g : zF} (hl0 : g.2.2.2.1.stackTraces = false) {Q : zR × zS → Prop}   {a0 a1 : Int} {σ : zS} (h : zo (f_X1_letPass  a0 a1 σ) Q) : zw g Y_X1_letPass R_X1_letPass 0 [(0, (4, a0)), (1, (0, a1))] [] σ 0 0 Q := by
  unfold f_X1_letPass at h
  refine r_aload_n 0 dX1_letPass_0 rfl ?_
  refine r_dup dX1_letPass_1 rfl ?_
  refine r_getf fd_X1_72 rfl dX1_letPass_2 h (fun x1 h => ?_)
  refine r_iload_n 1 dX1_letPass_5 rfl ?_
  refine r_iadd dX1_letPass_6 ?_
  refine r_putf fd_X1_72 fp_X1_letPass_72 dX1_letPass_7 h (fun τ2 h => ?_)
  refine r_iconst (v := 0) dX1_letPass_10 rfl rfl ?_
  refine r_istore_n (L' := [(2, (0, 0)), (0, (4, a0)), (1, (0, a1))]) dX1_letPass_11 (by decide) rfl ?_
  refine r_iconst (v := 0) dX1_letPass_12 rfl rfl ?_
  refine r_istore_n (L' := [(3, (0, 0)), (2, (0, 0)), (0, (4, a0)), (1, (0, a1))]) dX1_letPass_13 (by decide) rfl ?_
  refine r_weak (L' := [(0, (4, a0)), (2, (0, 0)), (3, (0, 0))]) [2, 1, 0] rfl ?_
  refine r_room (C' := 0) (D' := 0) (by omega) (by omega) ?_
  exact t_X1_letPass_14 hl0    zFU _ _ _ _ h
theorem m_X1_letPass {g : zF} (hl0 : g.2.2.2.1.stackTraces = false) {Q : zR × zS → Prop} {a0 a1 : Int} {σ : zS} (h : zo (f_X1_letPass a0 a1 σ) Q) : zm g Y_X1_letPass R_X1_letPass [(4, a0), (0, a1)] σ Q := zm_of (by decide) rfl (Nat.le_of_ble_eq_true rfl) (t_X1_letPass hl0 h)


/- X2_init -/

set_option maxRecDepth 100000 in
set_option maxHeartbeats 4000000 in
theorem t_X2_init {g : zF} (hl0 : g.2.2.2.1.stackTraces = false) {Q : zR × zS → Prop}   {a0 : Int} {σ : zS} (h : zo (f_X2_init  a0 σ) Q) : zw g Y_X2_init R_X2_init 0 [(0, (4, a0))] [] σ 1 6 Q := by
  unfold f_X2_init at h
  refine r_aload_n 0 dX2_init_0 rfl ?_
  refine r_objinit oi_X2_3 ⟨by decide, Nat.le_of_ble_eq_true rfl⟩ dX2_init_1 h (fun h => ?_)
  refine r_aload_n 0 dX2_init_4 rfl ?_
  refine r_bipush (v := 6) dX2_init_5 rfl rfl ?_
  refine r_anew7 (C' := 0) (D' := 0) (N := 6) wd_295 wd_296 dX2_init_7 (by decide) (by decide) (by decide) h (fun x1 τ2 h => ?_)
  refine r_putr fd_X2_11 fp_X2_init_11 dX2_init_10 h (fun τ3 h => ?_)
  exact r_vret rfl dX2_init_13 h
theorem m_X2_init {g : zF} (hl0 : g.2.2.2.1.stackTraces = false) {Q : zR × zS → Prop} {a0 : Int} {σ : zS} (h : zo (f_X2_init a0 σ) Q) : zm g Y_X2_init R_X2_init [(4, a0)] σ Q := zm_of (by decide) rfl (Nat.le_of_ble_eq_true rfl) (t_X2_init hl0 h)


/- X2_dropOldest -/

set_option maxRecDepth 100000 in
set_option maxHeartbeats 4000000 in
theorem t_X2_dropOldest_47 {g : zF} (hl0 : g.2.2.2.1.stackTraces = false) {Q : zR × zS → Prop}   {a0 : Int} {σ : zS} (h : zo (f_X2_dropOldest_47  a0 σ) Q) : zw g Y_X2_dropOldest R_X2_dropOldest 47 [(0, (4, a0))] [] σ 0 0 Q := by
  unfold f_X2_dropOldest_47 at h
  refine r_aload_n 0 dX2_dropOldest_47 rfl ?_
  refine r_dup dX2_dropOldest_48 rfl ?_
  refine r_getf fd_X2_17 rfl dX2_dropOldest_49 h (fun x1 h => ?_)
  refine r_iconst (v := 1) dX2_dropOldest_52 rfl rfl ?_
  refine r_isub dX2_dropOldest_53 ?_
  refine r_putf fd_X2_17 fp_X2_dropOldest_17 dX2_dropOldest_54 h (fun τ2 h => ?_)
  exact r_vret rfl dX2_dropOldest_57 h

set_option maxRecDepth 100000 in
set_option maxHeartbeats 4000000 in
theorem t_X2_dropOldest_2 {g : zF} (hl0 : g.2.2.2.1.stackTraces = false) {Q : zR × zS → Prop}   : ∀ (n : Nat) (a0 a1 : Int) (σ : zS), zo (f_X2_dropOldest_2  n a0 a1 σ) Q → zw g Y_X2_dropOldest R_X2_dropOldest 2 [(0, (4, a0)), (1, (0, a1))] [] σ 0 0 Q := by
  intro n
  induction n with
  | zero => intro a0 a1 σ h; obtain ⟨r, h, -⟩ := h; cases h
  | succ n ih =>
    intro a0 a1 σ h
    unfold f_X2_dropOldest_2 at h
    refine r_iload_n 1 dX2_dropOldest_2 rfl ?_
    refine r_aload_n 0 dX2_dropOldest_3 rfl ?_
    refine r_getr fd_X2_11 rfl dX2_dropOldest_4 h (fun x1 h => ?_)
    refine r_alen dX2_dropOldest_7 h (fun x2 h => ?_)
    refine r_icmp_ge 47 dX2_dropOldest_8 (by decide) h (fun h => ?_) (fun h => ?_)
    · refine r_weak (L' := [(0, (4, a0))]) [0] rfl ?_
      refine r_room (C' := 0) (D' := 0) (by omega) (by omega) ?_
      exact t_X2_dropOldest_47 hl0    h
    · refine r_aload_n 0 dX2_dropOldest_11 rfl ?_
      refine r_getr fd_X2_11 rfl dX2_dropOldest_12 h (fun x3 h => ?_)
      refine r_iload_n 1 dX2_dropOldest_15 rfl ?_
      refine r_iconst (v := 1) dX2_dropOldest_16 rfl rfl ?_
      refine r_isub dX2_dropOldest_17 ?_
      refine r_aald7 dX2_dropOldest_18 h (fun x4 h => ?_)
      refine r_astore_n (L' := [(2, (4, x4)), (0, (4, a0)), (1, (0, a1))]) dX2_dropOldest_19 (by decide) rfl ?_
      refine r_aload_n 1 dX2_dropOldest_20 rfl ?_
      refine r_getr fd_X2_11 rfl dX2_dropOldest_21 h (fun x5 h => ?_)
      refine r_iload_n 2 dX2_dropOldest_24 rfl ?_
      refine r_iconst (v := 1) dX2_dropOldest_25 rfl rfl ?_
      refine r_isub dX2_dropOldest_26 ?_
      refine r_aload_n 1 dX2_dropOldest_27 rfl ?_
      refine r_getr fd_X2_11 rfl dX2_dropOldest_28 h (fun x6 h => ?_)
      refine r_iload_n 2 dX2_dropOldest_31 rfl ?_
      refine r_aald7 dX2_dropOldest_32 h (fun x7 h => ?_)
      refine r_aast7 dX2_dropOldest_33 h (fun τ8 h => ?_)
      refine r_aload_n 1 dX2_dropOldest_34 rfl ?_
      refine r_getr fd_X2_11 rfl dX2_dropOldest_35 h (fun x9 h => ?_)
      refine r_iload_n 2 dX2_dropOldest_38 rfl ?_
      refine r_aload_n 0 dX2_dropOldest_39 rfl ?_
      refine r_aast7 dX2_dropOldest_40 h (fun τ10 h => ?_)
      refine r_iinc (L' := [(1, (0, (w32 (a1 + 1)))), (2, (4, x4)), (0, (4, a0))]) 2 dX2_dropOldest_41 rfl (by decide) rfl ?_
      refine r_goto 2 dX2_dropOldest_44 (by decide) ?_
      refine r_weak (L' := [(0, (4, a0)), (1, (0, (w32 (a1 + 1))))]) [2, 0] rfl ?_
      refine r_room (C' := 0) (D' := 0) (by omega) (by omega) ?_
      exact ih _ _ _ h

set_option maxRecDepth 100000 in
set_option maxHeartbeats 4000000 in
theorem t_X2_dropOldest {g : zF} (hl0 : g.2.2.2.1.stackTraces = false) {Q : zR × zS → Prop}   {a0 : Int} {σ : zS} (h : zo (f_X2_dropOldest  a0 σ) Q) : zw g Y_X2_dropOldest R_X2_dropOldest 0 [(0, (4, a0))] [] σ 0 0 Q := by
  unfold f_X2_dropOldest at h
  refine r_iconst (v := 1) dX2_dropOldest_0 rfl rfl ?_
  refine r_istore_n (L' := [(1, (0, 1)), (0, (4, a0))]) dX2_dropOldest_1 (by decide) rfl ?_
  refine r_weak (L' := [(0, (4, a0)), (1, (0, 1))]) [1, 0] rfl ?_
  refine r_room (C' := 0) (D' := 0) (by omega) (by omega) ?_
  exact t_X2_dropOldest_2 hl0    zFU _ _ _ h
theorem m_X2_dropOldest {g : zF} (hl0 : g.2.2.2.1.stackTraces = false) {Q : zR × zS → Prop} {a0 : Int} {σ : zS} (h : zo (f_X2_dropOldest a0 σ) Q) : zm g Y_X2_dropOldest R_X2_dropOldest [(4, a0)] σ Q := zm_of (by decide) rfl (Nat.le_of_ble_eq_true rfl) (t_X2_dropOldest hl0 h)


/- X2_push -/

set_option maxRecDepth 100000 in
set_option maxHeartbeats 4000000 in
theorem t_X2_push_67 {g : zF} (hl0 : g.2.2.2.1.stackTraces = false) {Q : zR × zS → Prop}   {a0 a1 a2 : Int} {σ : zS} (h : zo (f_X2_push_67  a0 a1 a2 σ) Q) : zw g Y_X2_push R_X2_push 67 [(0, (4, a0)), (1, (4, a1)), (2, (4, a2))] [] σ 0 0 Q := by
  unfold f_X2_push_67 at h
  refine r_aload_n 2 dX2_push_67 rfl ?_
  refine r_aload_n 1 dX2_push_68 rfl ?_
  refine r_callV (K' := Y_X1_become) (R' := R_X1_become) (idx := 25) (n := 1) (b := a2) (as := [(4, a1)]) (rest := []) (C' := 0) (D' := 0) (cn := 1) rfl k0_X1_become kV_X1_become kl_X2_25 ⟨by decide, by decide⟩ dX2_push_69 rfl rfl (Nat.le_of_ble_eq_true rfl) (by decide) (by decide) rfl h (fun r hr => m_X1_become hl0 ⟨r, hr, hr⟩) (fun _ τ2 _ h => ?_)
  refine r_aload_n 0 dX2_push_72 rfl ?_
  refine r_dup dX2_push_73 rfl ?_
  refine r_getf fd_X2_17 rfl dX2_push_74 h (fun x3 h => ?_)
  refine r_iconst (v := 1) dX2_push_77 rfl rfl ?_
  refine r_iadd dX2_push_78 ?_
  refine r_putf fd_X2_17 fp_X2_push_17 dX2_push_79 h (fun τ4 h => ?_)
  exact r_vret rfl dX2_push_82 h

set_option maxRecDepth 100000 in
set_option maxHeartbeats 4000000 in
theorem t_X2_push_16 {g : zF} (hl0 : g.2.2.2.1.stackTraces = false) {Q : zR × zS → Prop}   {a0 a1 : Int} {σ : zS} (h : zo (f_X2_push_16  a0 a1 σ) Q) : zw g Y_X2_push R_X2_push 16 [(0, (4, a0)), (1, (4, a1))] [] σ 27 7320 Q := by
  unfold f_X2_push_16 at h
  refine r_aload_n 0 dX2_push_16 rfl ?_
  refine r_getf fd_X2_17 rfl dX2_push_17 h (fun x1 h => ?_)
  refine r_if_lt 82 dX2_push_20 (by decide) h (fun h => ?_) (fun h => ?_)
  · refine r_room (C' := 0) (D' := 0) (by omega) (by omega) ?_
    exact r_vret rfl dX2_push_82 h
  · refine r_aload_n 0 dX2_push_23 rfl ?_
    refine r_getf fd_X2_17 rfl dX2_push_24 h (fun x2 h => ?_)
    refine r_aload_n 0 dX2_push_27 rfl ?_
    refine r_getr fd_X2_11 rfl dX2_push_28 h (fun x3 h => ?_)
    refine r_alen dX2_push_31 h (fun x4 h => ?_)
    refine r_icmp_ge 82 dX2_push_32 (by decide) h (fun h => ?_) (fun h => ?_)
    · refine r_room (C' := 0) (D' := 0) (by omega) (by omega) ?_
      exact r_vret rfl dX2_push_82 h
    · refine r_aload_n 0 dX2_push_35 rfl ?_
      refine r_getr fd_X2_11 rfl dX2_push_36 h (fun x5 h => ?_)
      refine r_aload_n 0 dX2_push_39 rfl ?_
      refine r_getf fd_X2_17 rfl dX2_push_40 h (fun x6 h => ?_)
      refine r_aald7 dX2_push_43 h (fun x7 h => ?_)
      refine r_astore_n (L' := [(2, (4, x7)), (0, (4, a0)), (1, (4, a1))]) dX2_push_44 (by decide) rfl ?_
      refine r_aload_n 0 dX2_push_45 rfl ?_
      refine r_ifnonnull 67 dX2_push_46 (by decide) h (fun h => ?_) (fun h => ?_)
      · refine r_room (C' := 0) (D' := 0) (by omega) (by omega) ?_
        refine r_weak (L' := [(0, (4, a0)), (1, (4, a1)), (2, (4, x7))]) [1, 2, 0] rfl ?_
        refine r_room (C' := 0) (D' := 0) (by omega) (by omega) ?_
        exact t_X2_push_67 hl0    h
      · refine r_new (C' := 26) (D' := 7311) nw_X2_9 dX2_push_49 (by decide) (by decide) h (fun x8 τ9 h => ?_)
        refine r_dup dX2_push_52 rfl ?_
        obtain ⟨h0, h⟩ := zite_o h
        refine r_callI (K' := Y_X1_init) (R' := R_X1_init) (idx := 24) (n := 0) (b := x8) (as := []) (rest := [(4, x8)]) (C' := 0) (D' := 0) rfl k0_X1_init kI_X1_init kl_X2_24 ⟨by decide, by decide⟩ dX2_push_53 rfl rfl (Nat.le_of_ble_eq_true rfl) (by decide) (by decide) h h0 (fun r hr => m_X1_init hl0 ⟨r, hr, hr⟩) (fun _ τ11 _ h => ?_)
        refine r_astore_n (L' := [(2, (4, x8)), (0, (4, a0)), (1, (4, a1))]) dX2_push_56 (by decide) rfl ?_
        refine r_aload_n 1 dX2_push_57 rfl ?_
        refine r_getr fd_X2_11 rfl dX2_push_58 h (fun x12 h => ?_)
        refine r_aload_n 1 dX2_push_61 rfl ?_
        refine r_getf fd_X2_17 rfl dX2_push_62 h (fun x13 h => ?_)
        refine r_aload_n 0 dX2_push_65 rfl ?_
        refine r_aast7 dX2_push_66 h (fun τ14 h => ?_)
        refine r_weak (L' := [(0, (4, a0)), (1, (4, a1)), (2, (4, x8))]) [1, 2, 0] rfl ?_
        refine r_room (C' := 0) (D' := 0) (by omega) (by omega) ?_
        exact t_X2_push_67 hl0    h

set_option maxRecDepth 100000 in
set_option maxHeartbeats 4000000 in
theorem t_X2_push {g : zF} (hl0 : g.2.2.2.1.stackTraces = false) {Q : zR × zS → Prop}   {a0 a1 : Int} {σ : zS} (h : zo (f_X2_push  a0 a1 σ) Q) : zw g Y_X2_push R_X2_push 0 [(0, (4, a0)), (1, (4, a1))] [] σ 27 7320 Q := by
  unfold f_X2_push at h
  refine r_aload_n 0 dX2_push_0 rfl ?_
  refine r_getf fd_X2_17 rfl dX2_push_1 h (fun x1 h => ?_)
  refine r_aload_n 0 dX2_push_4 rfl ?_
  refine r_getr fd_X2_11 rfl dX2_push_5 h (fun x2 h => ?_)
  refine r_alen dX2_push_8 h (fun x3 h => ?_)
  refine r_icmp_lt 16 dX2_push_9 (by decide) h (fun h => ?_) (fun h => ?_)
  · refine r_room (C' := 27) (D' := 7320) (by omega) (by omega) ?_
    exact t_X2_push_16 hl0    h
  · refine r_aload_n 0 dX2_push_12 rfl ?_
    refine r_callV (K' := Y_X2_dropOldest) (R' := R_X2_dropOldest) (idx := 21) (n := 0) (b := a0) (as := []) (rest := []) (C' := 27) (D' := 7320) (cn := 2) rfl k0_X2_dropOldest kV_X2_dropOldest kl_X2_21 ⟨by decide, by decide⟩ dX2_push_13 rfl rfl (Nat.le_of_ble_eq_true rfl) (by decide) (by decide) rfl h (fun r hr => m_X2_dropOldest hl0 ⟨r, hr, hr⟩) (fun _ τ5 _ h => ?_)
    refine r_room (C' := 27) (D' := 7320) (by omega) (by omega) ?_
    exact t_X2_push_16 hl0    h
theorem m_X2_push {g : zF} (hl0 : g.2.2.2.1.stackTraces = false) {Q : zR × zS → Prop} {a0 a1 : Int} {σ : zS} (h : zo (f_X2_push a0 a1 σ) Q) : zm g Y_X2_push R_X2_push [(4, a0), (4, a1)] σ Q := zm_of (by decide) rfl (Nat.le_of_ble_eq_true rfl) (t_X2_push hl0 h)


/- X3_find -/

set_option maxRecDepth 100000 in
set_option maxHeartbeats 4000000 in
theorem t_X3_find_2 {g : zF} (hl0 : g.2.2.2.1.stackTraces = false) {Q : zR × zS → Prop}   : ∀ (n : Nat) (a0 a1 a2 : Int) (σ : zS), zo (f_X3_find_2  n a0 a1 a2 σ) Q → zw g Y_X3_find R_X3_find 2 [(0, (4, a0)), (1, (0, a1)), (2, (0, a2))] [] σ 0 0 Q := by
  intro n
  induction n with
  | zero => intro a0 a1 a2 σ h; obtain ⟨r, h, -⟩ := h; cases h
  | succ n ih =>
    intro a0 a1 a2 σ h
    unfold f_X3_find_2 at h
    refine r_iload_n 2 dX3_find_2 rfl ?_
    refine r_aload_n 0 dX3_find_3 rfl ?_
    refine r_getf fd_X3_15 rfl dX3_find_4 h (fun x1 h => ?_)
    refine r_icmp_ge 37 dX3_find_7 (by decide) h (fun h => ?_) (fun h => ?_)
    · refine r_iconst (v := (-1)) dX3_find_37 rfl rfl ?_
      exact r_iret rfl dX3_find_38 h
    · refine r_iload_n 2 dX3_find_10 rfl ?_
      refine r_aload_n 0 dX3_find_11 rfl ?_
      refine r_getr fd_X3_9 rfl dX3_find_12 h (fun x2 h => ?_)
      refine r_alen dX3_find_15 h (fun x3 h => ?_)
      refine r_icmp_ge 37 dX3_find_16 (by decide) h (fun h => ?_) (fun h => ?_)
      · refine r_iconst (v := (-1)) dX3_find_37 rfl rfl ?_
        exact r_iret rfl dX3_find_38 h
      · refine r_aload_n 0 dX3_find_19 rfl ?_
        refine r_getr fd_X3_9 rfl dX3_find_20 h (fun x4 h => ?_)
        refine r_iload_n 2 dX3_find_23 rfl ?_
        refine r_iald dX3_find_24 h (fun x5 h => ?_)
        refine r_iload_n 1 dX3_find_25 rfl ?_
        refine r_icmp_ne 31 dX3_find_26 (by decide) h (fun h => ?_) (fun h => ?_)
        · refine r_iinc (L' := [(2, (0, (w32 (a2 + 1)))), (0, (4, a0)), (1, (0, a1))]) 2 dX3_find_31 rfl (by decide) rfl ?_
          refine r_goto 2 dX3_find_34 (by decide) ?_
          refine r_weak (L' := [(0, (4, a0)), (1, (0, a1)), (2, (0, (w32 (a2 + 1))))]) [1, 2, 0] rfl ?_
          refine r_room (C' := 0) (D' := 0) (by omega) (by omega) ?_
          exact ih _ _ _ _ h
        · refine r_iload_n 2 dX3_find_29 rfl ?_
          exact r_iret rfl dX3_find_30 h

set_option maxRecDepth 100000 in
set_option maxHeartbeats 4000000 in
theorem t_X3_find {g : zF} (hl0 : g.2.2.2.1.stackTraces = false) {Q : zR × zS → Prop}   {a0 a1 : Int} {σ : zS} (h : zo (f_X3_find  a0 a1 σ) Q) : zw g Y_X3_find R_X3_find 0 [(0, (4, a0)), (1, (0, a1))] [] σ 0 0 Q := by
  unfold f_X3_find at h
  refine r_iconst (v := 0) dX3_find_0 rfl rfl ?_
  refine r_istore_n (L' := [(2, (0, 0)), (0, (4, a0)), (1, (0, a1))]) dX3_find_1 (by decide) rfl ?_
  refine r_weak (L' := [(0, (4, a0)), (1, (0, a1)), (2, (0, 0))]) [1, 2, 0] rfl ?_
  refine r_room (C' := 0) (D' := 0) (by omega) (by omega) ?_
  exact t_X3_find_2 hl0    zFU _ _ _ _ h
theorem m_X3_find {g : zF} (hl0 : g.2.2.2.1.stackTraces = false) {Q : zR × zS → Prop} {a0 a1 : Int} {σ : zS} (h : zo (f_X3_find a0 a1 σ) Q) : zm g Y_X3_find R_X3_find [(4, a0), (0, a1)] σ Q := zm_of (by decide) rfl (Nat.le_of_ble_eq_true rfl) (t_X3_find hl0 h)


/- X3_add -/

set_option maxRecDepth 100000 in
set_option maxHeartbeats 4000000 in
theorem t_X3_add {g : zF} (hl0 : g.2.2.2.1.stackTraces = false) {Q : zR × zS → Prop}   {a0 a1 : Int} {σ : zS} (h : zo (f_X3_add  a0 a1 σ) Q) : zw g Y_X3_add R_X3_add 0 [(0, (4, a0)), (1, (0, a1))] [] σ 0 0 Q := by
  unfold f_X3_add at h
  refine r_aload_n 0 dX3_add_0 rfl ?_
  refine r_getf fd_X3_15 rfl dX3_add_1 h (fun x1 h => ?_)
  refine r_if_lt 39 dX3_add_4 (by decide) h (fun h => ?_) (fun h => ?_)
  · exact r_vret rfl dX3_add_39 h
  · refine r_aload_n 0 dX3_add_7 rfl ?_
    refine r_getf fd_X3_15 rfl dX3_add_8 h (fun x2 h => ?_)
    refine r_aload_n 0 dX3_add_11 rfl ?_
    refine r_getr fd_X3_9 rfl dX3_add_12 h (fun x3 h => ?_)
    refine r_alen dX3_add_15 h (fun x4 h => ?_)
    refine r_icmp_ge 39 dX3_add_16 (by decide) h (fun h => ?_) (fun h => ?_)
    · exact r_vret rfl dX3_add_39 h
    · refine r_aload_n 0 dX3_add_19 rfl ?_
      refine r_getr fd_X3_9 rfl dX3_add_20 h (fun x5 h => ?_)
      refine r_aload_n 0 dX3_add_23 rfl ?_
      refine r_getf fd_X3_15 rfl dX3_add_24 h (fun x6 h => ?_)
      refine r_iload_n 1 dX3_add_27 rfl ?_
      refine r_iast dX3_add_28 h (fun τ7 h => ?_)
      refine r_aload_n 0 dX3_add_29 rfl ?_
      refine r_dup dX3_add_30 rfl ?_
      refine r_getf fd_X3_15 rfl dX3_add_31 h (fun x8 h => ?_)
      refine r_iconst (v := 1) dX3_add_34 rfl rfl ?_
      refine r_iadd dX3_add_35 ?_
      refine r_putf fd_X3_15 fp_X3_add_15 dX3_add_36 h (fun τ9 h => ?_)
      exact r_vret rfl dX3_add_39 h
theorem m_X3_add {g : zF} (hl0 : g.2.2.2.1.stackTraces = false) {Q : zR × zS → Prop} {a0 a1 : Int} {σ : zS} (h : zo (f_X3_add a0 a1 σ) Q) : zm g Y_X3_add R_X3_add [(4, a0), (0, a1)] σ Q := zm_of (by decide) rfl (Nat.le_of_ble_eq_true rfl) (t_X3_add hl0 h)


/- X4_init -/

set_option maxRecDepth 100000 in
set_option maxHeartbeats 4000000 in
theorem t_X4_init {g : zF} (hl0 : g.2.2.2.1.stackTraces = false) {Q : zR × zS → Prop}   {a0 a1 a2 : Int} {σ : zS} (h : zo (f_X4_init  a0 a1 a2 σ) Q) : zw g Y_X4_init R_X4_init 0 [(0, (4, a0)), (1, (4, a1)), (2, (4, a2))] [] σ 0 0 Q := by
  unfold f_X4_init at h
  refine r_aload_n 0 dX4_init_0 rfl ?_
  refine r_objinit oi_X4_3 ⟨by decide, Nat.le_of_ble_eq_true rfl⟩ dX4_init_1 h (fun h => ?_)
  refine r_aload_n 0 dX4_init_4 rfl ?_
  refine r_iconst (v := (-1)) dX4_init_5 rfl rfl ?_
  refine r_putf fd_X4_9 fp_X4_init_9 dX4_init_6 h (fun τ1 h => ?_)
  refine r_aload_n 0 dX4_init_9 rfl ?_
  refine r_aload_n 1 dX4_init_10 rfl ?_
  refine r_putr fd_X4_15 fp_X4_init_15 dX4_init_11 h (fun τ2 h => ?_)
  refine r_aload_n 0 dX4_init_14 rfl ?_
  refine r_aload_n 2 dX4_init_15 rfl ?_
  refine r_putr fd_X4_19 fp_X4_init_19 dX4_init_16 h (fun τ3 h => ?_)
  exact r_vret rfl dX4_init_19 h
theorem m_X4_init {g : zF} (hl0 : g.2.2.2.1.stackTraces = false) {Q : zR × zS → Prop} {a0 a1 a2 : Int} {σ : zS} (h : zo (f_X4_init a0 a1 a2 σ) Q) : zm g Y_X4_init R_X4_init [(4, a0), (4, a1), (4, a2)] σ Q := zm_of (by decide) rfl (Nat.le_of_ble_eq_true rfl) (t_X4_init hl0 h)


/- X4_kindOf -/

set_option maxRecDepth 100000 in
set_option maxHeartbeats 4000000 in
theorem t_X4_kindOf_28 {g : zF} (hl0 : g.2.2.2.1.stackTraces = false) {Q : zR × zS → Prop}   {a0 : Int} {σ : zS} (h : zo (f_X4_kindOf_28  a0 σ) Q) : zw g Y_X4_kindOf R_X4_kindOf 28 [(0, (0, a0))] [] σ 0 0 Q := by
  unfold f_X4_kindOf_28 at h
  refine r_iload_n 0 dX4_kindOf_28 rfl ?_
  refine r_bipush (v := 32) dX4_kindOf_29 rfl rfl ?_
  refine r_icmp_eq 40 dX4_kindOf_31 (by decide) h (fun h => ?_) (fun h => ?_)
  · refine r_iconst (v := 4) dX4_kindOf_40 rfl rfl ?_
    refine r_goto 45 dX4_kindOf_41 (by decide) ?_
    exact r_iret rfl dX4_kindOf_45 h
  · refine r_iload_n 0 dX4_kindOf_34 rfl ?_
    refine r_bipush (v := 10) dX4_kindOf_35 rfl rfl ?_
    refine r_icmp_ne 44 dX4_kindOf_37 (by decide) h (fun h => ?_) (fun h => ?_)
    · refine r_iconst (v := 3) dX4_kindOf_44 rfl rfl ?_
      exact r_iret rfl dX4_kindOf_45 h
    · refine r_iconst (v := 4) dX4_kindOf_40 rfl rfl ?_
      refine r_goto 45 dX4_kindOf_41 (by decide) ?_
      exact r_iret rfl dX4_kindOf_45 h

set_option maxRecDepth 100000 in
set_option maxHeartbeats 4000000 in
theorem t_X4_kindOf_14 {g : zF} (hl0 : g.2.2.2.1.stackTraces = false) {Q : zR × zS → Prop}   {a0 : Int} {σ : zS} (h : zo (f_X4_kindOf_14  a0 σ) Q) : zw g Y_X4_kindOf R_X4_kindOf 14 [(0, (0, a0))] [] σ 0 0 Q := by
  unfold f_X4_kindOf_14 at h
  refine r_iload_n 0 dX4_kindOf_14 rfl ?_
  refine r_bipush (v := 48) dX4_kindOf_15 rfl rfl ?_
  refine r_icmp_lt 28 dX4_kindOf_17 (by decide) h (fun h => ?_) (fun h => ?_)
  · refine r_room (C' := 0) (D' := 0) (by omega) (by omega) ?_
    exact t_X4_kindOf_28 hl0    h
  · refine r_iload_n 0 dX4_kindOf_20 rfl ?_
    refine r_bipush (v := 57) dX4_kindOf_21 rfl rfl ?_
    refine r_icmp_gt 28 dX4_kindOf_23 (by decide) h (fun h => ?_) (fun h => ?_)
    · refine r_room (C' := 0) (D' := 0) (by omega) (by omega) ?_
      exact t_X4_kindOf_28 hl0    h
    · refine r_iconst (v := 2) dX4_kindOf_26 rfl rfl ?_
      exact r_iret rfl dX4_kindOf_27 h

set_option maxRecDepth 100000 in
set_option maxHeartbeats 4000000 in
theorem t_X4_kindOf {g : zF} (hl0 : g.2.2.2.1.stackTraces = false) {Q : zR × zS → Prop}   {a0 : Int} {σ : zS} (h : zo (f_X4_kindOf  a0 σ) Q) : zw g Y_X4_kindOf R_X4_kindOf 0 [(0, (0, a0))] [] σ 0 0 Q := by
  unfold f_X4_kindOf at h
  refine r_iload_n 0 dX4_kindOf_0 rfl ?_
  refine r_bipush (v := 97) dX4_kindOf_1 rfl rfl ?_
  refine r_icmp_lt 14 dX4_kindOf_3 (by decide) h (fun h => ?_) (fun h => ?_)
  · refine r_room (C' := 0) (D' := 0) (by omega) (by omega) ?_
    exact t_X4_kindOf_14 hl0    h
  · refine r_iload_n 0 dX4_kindOf_6 rfl ?_
    refine r_bipush (v := 122) dX4_kindOf_7 rfl rfl ?_
    refine r_icmp_gt 14 dX4_kindOf_9 (by decide) h (fun h => ?_) (fun h => ?_)
    · refine r_room (C' := 0) (D' := 0) (by omega) (by omega) ?_
      exact t_X4_kindOf_14 hl0    h
    · refine r_iconst (v := 1) dX4_kindOf_12 rfl rfl ?_
      exact r_iret rfl dX4_kindOf_13 h
theorem m_X4_kindOf {g : zF} (hl0 : g.2.2.2.1.stackTraces = false) {Q : zR × zS → Prop} {a0 : Int} {σ : zS} (h : zo (f_X4_kindOf a0 σ) Q) : zm g Y_X4_kindOf R_X4_kindOf [(0, a0)] σ Q := zm_of (by decide) rfl (Nat.le_of_ble_eq_true rfl) (t_X4_kindOf hl0 h)


/- X4_next -/

set_option maxRecDepth 100000 in
set_option maxHeartbeats 4000000 in
theorem t_X4_next_109 {g : zF} (hl0 : g.2.2.2.1.stackTraces = false) {Q : zR × zS → Prop}   : ∀ (n : Nat) (a0 : Int) (σ : zS), zo (f_X4_next_109  n a0 σ) Q → zw g Y_X4_next R_X4_next 109 [(0, (4, a0))] [] σ 0 0 Q := by
  intro n
  induction n with
  | zero => intro a0 σ h; obtain ⟨r, h, -⟩ := h; cases h
  | succ n ih =>
    intro a0 σ h
    unfold f_X4_next_109 at h
    refine r_aload_n 0 dX4_next_109 rfl ?_
    refine r_getf fd_X4_41 rfl dX4_next_110 h (fun x1 h => ?_)
    refine r_iconst (v := 3) dX4_next_113 rfl rfl ?_
    refine r_icmp_eq 165 dX4_next_114 (by decide) h (fun h => ?_) (fun h => ?_)
    · exact r_vret rfl dX4_next_165 h
    · refine r_aload_n 0 dX4_next_117 rfl ?_
      refine r_getf fd_X4_23 rfl dX4_next_118 h (fun x2 h => ?_)
      refine r_aload_n 0 dX4_next_121 rfl ?_
      refine r_getr fd_X4_15 rfl dX4_next_122 h (fun x3 h => ?_)
      refine r_getf fd_X4_176 rfl dX4_next_125 h (fun x4 h => ?_)
      refine r_icmp_ge 165 dX4_next_128 (by decide) h (fun h => ?_) (fun h => ?_)
      · exact r_vret rfl dX4_next_165 h
      · refine r_aload_n 0 dX4_next_131 rfl ?_
        refine r_getr fd_X4_15 rfl dX4_next_132 h (fun x5 h => ?_)
        refine r_aload_n 0 dX4_next_135 rfl ?_
        refine r_getf fd_X4_23 rfl dX4_next_136 h (fun x6 h => ?_)
        refine r_callV (K' := Y_X0_at) (R' := R_X0_at) (idx := 158) (n := 1) (b := x5) (as := [(0, x6)]) (rest := []) (C' := 0) (D' := 0) (cn := 0) rfl k0_X0_at kV_X0_at kl_X4_158 ⟨by decide, by decide⟩ dX4_next_139 rfl rfl (Nat.le_of_ble_eq_true rfl) (by decide) (by decide) rfl h (fun r hr => m_X0_at hl0 ⟨r, hr, hr⟩) (fun x7 τ8 _ h => ?_)
        refine r_callS (K' := Y_X4_kindOf) (R' := R_X4_kindOf) (idx := 178) (n := 1) (as := [(0, x7)]) (rest := []) (C' := 0) (D' := 0) rfl k0_X4_kindOf wd_758 kl_X4_178 ⟨by decide, by decide⟩ dX4_next_142 rfl rfl (Nat.le_of_ble_eq_true rfl) (by decide) (by decide) h (fun r hr => m_X4_kindOf hl0 ⟨r, hr, hr⟩) (fun x9 τ10 _ h => ?_)
        refine r_aload_n 0 dX4_next_145 rfl ?_
        refine r_getf fd_X4_41 rfl dX4_next_146 h (fun x11 h => ?_)
        refine r_icmp_ne 165 dX4_next_149 (by decide) h (fun h => ?_) (fun h => ?_)
        · exact r_vret rfl dX4_next_165 h
        · refine r_aload_n 0 dX4_next_152 rfl ?_
          refine r_dup dX4_next_153 rfl ?_
          refine r_getf fd_X4_23 rfl dX4_next_154 h (fun x12 h => ?_)
          refine r_iconst (v := 1) dX4_next_157 rfl rfl ?_
          refine r_iadd dX4_next_158 ?_
          refine r_putf fd_X4_23 fp_X4_next_23 dX4_next_159 h (fun τ13 h => ?_)
          refine r_goto 109 dX4_next_162 (by decide) ?_
          refine r_room (C' := 0) (D' := 0) (by omega) (by omega) ?_
          exact ih _ _ h

set_option maxRecDepth 100000 in
set_option maxHeartbeats 4000000 in
theorem t_X4_next_53 {g : zF} (hl0 : g.2.2.2.1.stackTraces = false) {Q : zR × zS → Prop}   {a0 : Int} {σ : zS} (h : zo (f_X4_next_53  a0 σ) Q) : zw g Y_X4_next R_X4_next 53 [(0, (4, a0))] [] σ 0 0 Q := by
  unfold f_X4_next_53 at h
  refine r_aload_n 0 dX4_next_53 rfl ?_
  refine r_aload_n 0 dX4_next_54 rfl ?_
  refine r_getf fd_X4_125 rfl dX4_next_55 h (fun x1 h => ?_)
  refine r_putf fd_X4_23 fp_X4_next_23 dX4_next_58 h (fun τ2 h => ?_)
  refine r_aload_n 0 dX4_next_61 rfl ?_
  refine r_getf fd_X4_125 rfl dX4_next_62 h (fun x3 h => ?_)
  refine r_aload_n 0 dX4_next_65 rfl ?_
  refine r_getr fd_X4_15 rfl dX4_next_66 h (fun x4 h => ?_)
  refine r_getf fd_X4_176 rfl dX4_next_69 h (fun x5 h => ?_)
  refine r_icmp_lt 81 dX4_next_72 (by decide) h (fun h => ?_) (fun h => ?_)
  · refine r_aload_n 0 dX4_next_81 rfl ?_
    refine r_aload_n 0 dX4_next_82 rfl ?_
    refine r_getr fd_X4_15 rfl dX4_next_83 h (fun x6 h => ?_)
    refine r_aload_n 0 dX4_next_86 rfl ?_
    refine r_getf fd_X4_125 rfl dX4_next_87 h (fun x7 h => ?_)
    refine r_callV (K' := Y_X0_at) (R' := R_X0_at) (idx := 158) (n := 1) (b := x6) (as := [(0, x7)]) (rest := [(4, a0)]) (C' := 0) (D' := 0) (cn := 0) rfl k0_X0_at kV_X0_at kl_X4_158 ⟨by decide, by decide⟩ dX4_next_90 rfl rfl (Nat.le_of_ble_eq_true rfl) (by decide) (by decide) rfl h (fun r hr => m_X0_at hl0 ⟨r, hr, hr⟩) (fun x8 τ9 _ h => ?_)
    refine r_callS (K' := Y_X4_kindOf) (R' := R_X4_kindOf) (idx := 178) (n := 1) (as := [(0, x8)]) (rest := [(4, a0)]) (C' := 0) (D' := 0) rfl k0_X4_kindOf wd_758 kl_X4_178 ⟨by decide, by decide⟩ dX4_next_93 rfl rfl (Nat.le_of_ble_eq_true rfl) (by decide) (by decide) h (fun r hr => m_X4_kindOf hl0 ⟨r, hr, hr⟩) (fun x10 τ11 _ h => ?_)
    refine r_putf fd_X4_41 fp_X4_next_41 dX4_next_96 h (fun τ12 h => ?_)
    refine r_aload_n 0 dX4_next_99 rfl ?_
    refine r_aload_n 0 dX4_next_100 rfl ?_
    refine r_getf fd_X4_125 rfl dX4_next_101 h (fun x13 h => ?_)
    refine r_iconst (v := 1) dX4_next_104 rfl rfl ?_
    refine r_iadd dX4_next_105 ?_
    refine r_putf fd_X4_23 fp_X4_next_23 dX4_next_106 h (fun τ14 h => ?_)
    refine r_room (C' := 0) (D' := 0) (by omega) (by omega) ?_
    exact t_X4_next_109 hl0    zFU _ _ h
  · refine r_aload_n 0 dX4_next_75 rfl ?_
    refine r_iconst (v := 0) dX4_next_76 rfl rfl ?_
    refine r_putf fd_X4_41 fp_X4_next_41 dX4_next_77 h (fun τ15 h => ?_)
    exact r_vret rfl dX4_next_80 h

set_option maxRecDepth 100000 in
set_option maxHeartbeats 4000000 in
theorem t_X4_next_8 {g : zF} (hl0 : g.2.2.2.1.stackTraces = false) {Q : zR × zS → Prop}   : ∀ (n : Nat) (a0 : Int) (σ : zS), zo (f_X4_next_8  n a0 σ) Q → zw g Y_X4_next R_X4_next 8 [(0, (4, a0))] [] σ 0 0 Q := by
  intro n
  induction n with
  | zero => intro a0 σ h; obtain ⟨r, h, -⟩ := h; cases h
  | succ n ih =>
    intro a0 σ h
    unfold f_X4_next_8 at h
    refine r_aload_n 0 dX4_next_8 rfl ?_
    refine r_getf fd_X4_125 rfl dX4_next_9 h (fun x1 h => ?_)
    refine r_aload_n 0 dX4_next_12 rfl ?_
    refine r_getr fd_X4_15 rfl dX4_next_13 h (fun x2 h => ?_)
    refine r_getf fd_X4_176 rfl dX4_next_16 h (fun x3 h => ?_)
    refine r_icmp_ge 53 dX4_next_19 (by decide) h (fun h => ?_) (fun h => ?_)
    · refine r_room (C' := 0) (D' := 0) (by omega) (by omega) ?_
      exact t_X4_next_53 hl0    h
    · refine r_aload_n 0 dX4_next_22 rfl ?_
      refine r_getr fd_X4_15 rfl dX4_next_23 h (fun x4 h => ?_)
      refine r_aload_n 0 dX4_next_26 rfl ?_
      refine r_getf fd_X4_125 rfl dX4_next_27 h (fun x5 h => ?_)
      refine r_callV (K' := Y_X0_at) (R' := R_X0_at) (idx := 158) (n := 1) (b := x4) (as := [(0, x5)]) (rest := []) (C' := 0) (D' := 0) (cn := 0) rfl k0_X0_at kV_X0_at kl_X4_158 ⟨by decide, by decide⟩ dX4_next_30 rfl rfl (Nat.le_of_ble_eq_true rfl) (by decide) (by decide) rfl h (fun r hr => m_X0_at hl0 ⟨r, hr, hr⟩) (fun x6 τ7 _ h => ?_)
      refine r_callS (K' := Y_X4_kindOf) (R' := R_X4_kindOf) (idx := 178) (n := 1) (as := [(0, x6)]) (rest := []) (C' := 0) (D' := 0) rfl k0_X4_kindOf wd_758 kl_X4_178 ⟨by decide, by decide⟩ dX4_next_33 rfl rfl (Nat.le_of_ble_eq_true rfl) (by decide) (by decide) h (fun r hr => m_X4_kindOf hl0 ⟨r, hr, hr⟩) (fun x8 τ9 _ h => ?_)
      refine r_iconst (v := 4) dX4_next_36 rfl rfl ?_
      refine r_icmp_ne 53 dX4_next_37 (by decide) h (fun h => ?_) (fun h => ?_)
      · refine r_room (C' := 0) (D' := 0) (by omega) (by omega) ?_
        exact t_X4_next_53 hl0    h
      · refine r_aload_n 0 dX4_next_40 rfl ?_
        refine r_dup dX4_next_41 rfl ?_
        refine r_getf fd_X4_125 rfl dX4_next_42 h (fun x10 h => ?_)
        refine r_iconst (v := 1) dX4_next_45 rfl rfl ?_
        refine r_iadd dX4_next_46 ?_
        refine r_putf fd_X4_125 fp_X4_next_125 dX4_next_47 h (fun τ11 h => ?_)
        refine r_goto 8 dX4_next_50 (by decide) ?_
        refine r_room (C' := 0) (D' := 0) (by omega) (by omega) ?_
        exact ih _ _ h

set_option maxRecDepth 100000 in
set_option maxHeartbeats 4000000 in
theorem t_X4_next {g : zF} (hl0 : g.2.2.2.1.stackTraces = false) {Q : zR × zS → Prop}   {a0 : Int} {σ : zS} (h : zo (f_X4_next  a0 σ) Q) : zw g Y_X4_next R_X4_next 0 [(0, (4, a0))] [] σ 0 0 Q := by
  unfold f_X4_next at h
  refine r_aload_n 0 dX4_next_0 rfl ?_
  refine r_aload_n 0 dX4_next_1 rfl ?_
  refine r_getf fd_X4_23 rfl dX4_next_2 h (fun x1 h => ?_)
  refine r_putf fd_X4_125 fp_X4_next_125 dX4_next_5 h (fun τ2 h => ?_)
  refine r_room (C' := 0) (D' := 0) (by omega) (by omega) ?_
  exact t_X4_next_8 hl0    zFU _ _ h
theorem m_X4_next {g : zF} (hl0 : g.2.2.2.1.stackTraces = false) {Q : zR × zS → Prop} {a0 : Int} {σ : zS} (h : zo (f_X4_next a0 σ) Q) : zm g Y_X4_next R_X4_next [(4, a0)] σ Q := zm_of (by decide) rfl (Nat.le_of_ble_eq_true rfl) (t_X4_next hl0 h)


/- X4_isWord -/

set_option maxRecDepth 100000 in
set_option maxHeartbeats 4000000 in
theorem t_X4_isWord_28 {g : zF} (hl0 : g.2.2.2.1.stackTraces = false) {Q : zR × zS → Prop}   : ∀ (n : Nat) (a0 a1 a2 : Int) (σ : zS), zo (f_X4_isWord_28  n a0 a1 a2 σ) Q → zw g Y_X4_isWord R_X4_isWord 28 [(0, (4, a0)), (1, (6, a1)), (2, (0, a2))] [] σ 0 0 Q := by
  intro n
  induction n with
  | zero => intro a0 a1 a2 σ h; obtain ⟨r, h, -⟩ := h; cases h
  | succ n ih =>
    intro a0 a1 a2 σ h
    unfold f_X4_isWord_28 at h
    refine r_iload_n 2 dX4_isWord_28 rfl ?_
    refine r_aload_n 1 dX4_isWord_29 rfl ?_
    refine r_slenI sl_X4_166 rfl ⟨by decide, by decide⟩ (Nat.le_of_ble_eq_true rfl) dX4_isWord_30 h (fun x1 h => ?_)
    refine r_icmp_ge 65 dX4_isWord_33 (by decide) h (fun h => ?_) (fun h => ?_)
    · refine r_iconst (v := 1) dX4_isWord_65 rfl rfl ?_
      exact r_zretc (by decide) rfl dX4_isWord_66 h
    · refine r_aload_n 0 dX4_isWord_36 rfl ?_
      refine r_getr fd_X4_15 rfl dX4_isWord_37 h (fun x2 h => ?_)
      refine r_aload_n 0 dX4_isWord_40 rfl ?_
      refine r_getf fd_X4_125 rfl dX4_isWord_41 h (fun x3 h => ?_)
      refine r_iload_n 2 dX4_isWord_44 rfl ?_
      refine r_iadd dX4_isWord_45 ?_
      refine r_callV (K' := Y_X0_at) (R' := R_X0_at) (idx := 158) (n := 1) (b := x2) (as := [(0, (w32 (x3 + a2)))]) (rest := []) (C' := 0) (D' := 0) (cn := 0) rfl k0_X0_at kV_X0_at kl_X4_158 ⟨by decide, by decide⟩ dX4_isWord_46 rfl rfl (Nat.le_of_ble_eq_true rfl) (by decide) (by decide) rfl h (fun r hr => m_X0_at hl0 ⟨r, hr, hr⟩) (fun x4 τ5 _ h => ?_)
      refine r_aload_n 1 dX4_isWord_49 rfl ?_
      refine r_iload_n 2 dX4_isWord_50 rfl ?_
      refine r_schI sh_X4_172 rfl ⟨by decide, by decide⟩ (Nat.le_of_ble_eq_true rfl) dX4_isWord_51 h (fun x6 h => ?_)
      refine r_icmp_eq 59 dX4_isWord_54 (by decide) h (fun h => ?_) (fun h => ?_)
      · refine r_iinc (L' := [(2, (0, (w32 (a2 + 1)))), (0, (4, a0)), (1, (6, a1))]) 2 dX4_isWord_59 rfl (by decide) rfl ?_
        refine r_goto 28 dX4_isWord_62 (by decide) ?_
        refine r_weak (L' := [(0, (4, a0)), (1, (6, a1)), (2, (0, (w32 (a2 + 1))))]) [1, 2, 0] rfl ?_
        refine r_room (C' := 0) (D' := 0) (by omega) (by omega) ?_
        exact ih _ _ _ _ h
      · refine r_iconst (v := 0) dX4_isWord_57 rfl rfl ?_
        exact r_zretc (by decide) rfl dX4_isWord_58 h

set_option maxRecDepth 100000 in
set_option maxHeartbeats 4000000 in
theorem t_X4_isWord {g : zF} (hl0 : g.2.2.2.1.stackTraces = false) {Q : zR × zS → Prop}   {a0 a1 : Int} {σ : zS} (h : zo (f_X4_isWord  a0 a1 σ) Q) : zw g Y_X4_isWord R_X4_isWord 0 [(0, (4, a0)), (1, (6, a1))] [] σ 0 0 Q := by
  unfold f_X4_isWord at h
  refine r_aload_n 0 dX4_isWord_0 rfl ?_
  refine r_getf fd_X4_41 rfl dX4_isWord_1 h (fun x1 h => ?_)
  refine r_iconst (v := 1) dX4_isWord_4 rfl rfl ?_
  refine r_icmp_ne 24 dX4_isWord_5 (by decide) h (fun h => ?_) (fun h => ?_)
  · refine r_iconst (v := 0) dX4_isWord_24 rfl rfl ?_
    exact r_zretc (by decide) rfl dX4_isWord_25 h
  · refine r_aload_n 0 dX4_isWord_8 rfl ?_
    refine r_getf fd_X4_23 rfl dX4_isWord_9 h (fun x2 h => ?_)
    refine r_aload_n 0 dX4_isWord_12 rfl ?_
    refine r_getf fd_X4_125 rfl dX4_isWord_13 h (fun x3 h => ?_)
    refine r_isub dX4_isWord_16 ?_
    refine r_aload_n 1 dX4_isWord_17 rfl ?_
    refine r_slenI sl_X4_166 rfl ⟨by decide, by decide⟩ (Nat.le_of_ble_eq_true rfl) dX4_isWord_18 h (fun x4 h => ?_)
    refine r_icmp_eq 26 dX4_isWord_21 (by decide) h (fun h => ?_) (fun h => ?_)
    · refine r_iconst (v := 0) dX4_isWord_26 rfl rfl ?_
      refine r_istore_n (L' := [(2, (0, 0)), (0, (4, a0)), (1, (6, a1))]) dX4_isWord_27 (by decide) rfl ?_
      refine r_weak (L' := [(0, (4, a0)), (1, (6, a1)), (2, (0, 0))]) [1, 2, 0] rfl ?_
      refine r_room (C' := 0) (D' := 0) (by omega) (by omega) ?_
      exact t_X4_isWord_28 hl0    zFU _ _ _ _ h
    · refine r_iconst (v := 0) dX4_isWord_24 rfl rfl ?_
      exact r_zretc (by decide) rfl dX4_isWord_25 h
theorem m_X4_isWord {g : zF} (hl0 : g.2.2.2.1.stackTraces = false) {Q : zR × zS → Prop} {a0 a1 : Int} {σ : zS} (h : zo (f_X4_isWord a0 a1 σ) Q) : zm g Y_X4_isWord R_X4_isWord [(4, a0), (6, a1)] σ Q := zm_of (by decide) rfl (Nat.le_of_ble_eq_true rfl) (t_X4_isWord hl0 h)


/- X4_fail -/

set_option maxRecDepth 100000 in
set_option maxHeartbeats 4000000 in
theorem t_X4_fail {g : zF} (hl0 : g.2.2.2.1.stackTraces = false) {Q : zR × zS → Prop}   {a0 a1 : Int} {σ : zS} (h : zo (f_X4_fail  a0 a1 σ) Q) : zw g Y_X4_fail R_X4_fail 0 [(0, (4, a0)), (1, (0, a1))] [] σ 0 0 Q := by
  unfold f_X4_fail at h
  refine r_aload_n 0 dX4_fail_0 rfl ?_
  refine r_iload_n 1 dX4_fail_1 rfl ?_
  refine r_putf fd_X4_26 fp_X4_fail_26 dX4_fail_2 h (fun τ1 h => ?_)
  refine r_aload_n 0 dX4_fail_5 rfl ?_
  refine r_aload_n 0 dX4_fail_6 rfl ?_
  refine r_getf fd_X4_125 rfl dX4_fail_7 h (fun x2 h => ?_)
  refine r_putf fd_X4_9 fp_X4_fail_9 dX4_fail_10 h (fun τ3 h => ?_)
  refine r_iconst (v := 0) dX4_fail_13 rfl rfl ?_
  exact r_zretc (by decide) rfl dX4_fail_14 h
theorem m_X4_fail {g : zF} (hl0 : g.2.2.2.1.stackTraces = false) {Q : zR × zS → Prop} {a0 a1 : Int} {σ : zS} (h : zo (f_X4_fail a0 a1 σ) Q) : zm g Y_X4_fail R_X4_fail [(4, a0), (0, a1)] σ Q := zm_of (by decide) rfl (Nat.le_of_ble_eq_true rfl) (t_X4_fail hl0 h)


/- X4_readWord -/

set_option maxRecDepth 100000 in
set_option maxHeartbeats 4000000 in
theorem t_X4_readWord {g : zF} (hl0 : g.2.2.2.1.stackTraces = false) {Q : zR × zS → Prop}   {a0 a1 : Int} {σ : zS} (h : zo (f_X4_readWord  a0 a1 σ) Q) : zw g Y_X4_readWord R_X4_readWord 0 [(0, (4, a0)), (1, (6, a1))] [] σ 0 0 Q := by
  unfold f_X4_readWord at h
  refine r_aload_n 0 dX4_readWord_0 rfl ?_
  refine r_aload_n 1 dX4_readWord_1 rfl ?_
  refine r_callV (K' := Y_X4_isWord) (R' := R_X4_isWord) (idx := 46) (n := 1) (b := a0) (as := [(6, a1)]) (rest := []) (C' := 0) (D' := 0) (cn := 4) rfl k0_X4_isWord kV_X4_isWord kl_X4_46 ⟨by decide, by decide⟩ dX4_readWord_2 rfl rfl (Nat.le_of_ble_eq_true rfl) (by decide) (by decide) rfl h (fun r hr => m_X4_isWord hl0 ⟨r, hr, hr⟩) (fun x1 τ2 _ h => ?_)
  refine r_if_ne 14 dX4_readWord_5 (by decide) h (fun h => ?_) (fun h => ?_)
  · refine r_aload_n 0 dX4_readWord_14 rfl ?_
    refine r_callV (K' := Y_X4_next) (R' := R_X4_next) (idx := 34) (n := 0) (b := a0) (as := []) (rest := []) (C' := 0) (D' := 0) (cn := 4) rfl k0_X4_next kV_X4_next kl_X4_34 ⟨by decide, by decide⟩ dX4_readWord_15 rfl rfl (Nat.le_of_ble_eq_true rfl) (by decide) (by decide) rfl h (fun r hr => m_X4_next hl0 ⟨r, hr, hr⟩) (fun _ τ4 _ h => ?_)
    refine r_iconst (v := 1) dX4_readWord_18 rfl rfl ?_
    exact r_zretc (by decide) rfl dX4_readWord_19 h
  · refine r_aload_n 0 dX4_readWord_8 rfl ?_
    refine r_iconst (v := 1) dX4_readWord_9 rfl rfl ?_
    refine r_callV (K' := Y_X4_fail) (R' := R_X4_fail) (idx := 73) (n := 1) (b := a0) (as := [(0, 1)]) (rest := []) (C' := 0) (D' := 0) (cn := 4) rfl k0_X4_fail kV_X4_fail kl_X4_73 ⟨by decide, by decide⟩ dX4_readWord_10 rfl rfl (Nat.le_of_ble_eq_true rfl) (by decide) (by decide) rfl h (fun r hr => m_X4_fail hl0 ⟨r, hr, hr⟩) (fun x5 τ6 _ h => ?_)
    exact r_zret rfl dX4_readWord_13 h
theorem m_X4_readWord {g : zF} (hl0 : g.2.2.2.1.stackTraces = false) {Q : zR × zS → Prop} {a0 a1 : Int} {σ : zS} (h : zo (f_X4_readWord a0 a1 σ) Q) : zm g Y_X4_readWord R_X4_readWord [(4, a0), (6, a1)] σ Q := zm_of (by decide) rfl (Nat.le_of_ble_eq_true rfl) (t_X4_readWord hl0 h)


/- X4_readNumber -/

set_option maxRecDepth 100000 in
set_option maxHeartbeats 4000000 in
theorem t_X4_readNumber_71 {g : zF} (hl0 : g.2.2.2.1.stackTraces = false) {Q : zR × zS → Prop}   {a0 : Int} {σ : zS} (h : zo (f_X4_readNumber_71  a0 σ) Q) : zw g Y_X4_readNumber R_X4_readNumber 71 [(0, (4, a0))] [] σ 0 0 Q := by
  unfold f_X4_readNumber_71 at h
  refine r_aload_n 0 dX4_readNumber_71 rfl ?_
  refine r_iconst (v := 2) dX4_readNumber_72 rfl rfl ?_
  refine r_callV (K' := Y_X4_fail) (R' := R_X4_fail) (idx := 73) (n := 1) (b := a0) (as := [(0, 2)]) (rest := []) (C' := 0) (D' := 0) (cn := 4) rfl k0_X4_fail kV_X4_fail kl_X4_73 ⟨by decide, by decide⟩ dX4_readNumber_73 rfl rfl (Nat.le_of_ble_eq_true rfl) (by decide) (by decide) rfl h (fun r hr => m_X4_fail hl0 ⟨r, hr, hr⟩) (fun x1 τ2 _ h => ?_)
  exact r_zret rfl dX4_readNumber_76 h

set_option maxRecDepth 100000 in
set_option maxHeartbeats 4000000 in
theorem t_X4_readNumber_61 {g : zF} (hl0 : g.2.2.2.1.stackTraces = false) {Q : zR × zS → Prop}   {a0 a1 a2 a3 : Int} {σ : zS} (h : zo (f_X4_readNumber_61  a0 a1 a2 a3 σ) Q) : zw g Y_X4_readNumber R_X4_readNumber 61 [(0, (4, a0)), (1, (0, a1)), (2, (0, a2)), (3, (0, a3))] [] σ 0 0 Q := by
  unfold f_X4_readNumber_61 at h
  refine r_iload_n 3 dX4_readNumber_61 rfl ?_
  refine r_iload_n 1 dX4_readNumber_62 rfl ?_
  refine r_icmp_lt 71 dX4_readNumber_63 (by decide) h (fun h => ?_) (fun h => ?_)
  · refine r_weak (L' := [(0, (4, a0))]) [0] rfl ?_
    refine r_room (C' := 0) (D' := 0) (by omega) (by omega) ?_
    exact t_X4_readNumber_71 hl0    h
  · refine r_iload_n 3 dX4_readNumber_66 rfl ?_
    refine r_iload_n 2 dX4_readNumber_67 rfl ?_
    refine r_icmp_le 77 dX4_readNumber_68 (by decide) h (fun h => ?_) (fun h => ?_)
    · refine r_aload_n 0 dX4_readNumber_77 rfl ?_
      refine r_iload_n 3 dX4_readNumber_78 rfl ?_
      refine r_putf fd_X4_110 fp_X4_readNumber_110 dX4_readNumber_79 h (fun τ1 h => ?_)
      refine r_aload_n 0 dX4_readNumber_82 rfl ?_
      refine r_callV (K' := Y_X4_next) (R' := R_X4_next) (idx := 34) (n := 0) (b := a0) (as := []) (rest := []) (C' := 0) (D' := 0) (cn := 4) rfl k0_X4_next kV_X4_next kl_X4_34 ⟨by decide, by decide⟩ dX4_readNumber_83 rfl rfl (Nat.le_of_ble_eq_true rfl) (by decide) (by decide) rfl h (fun r hr => m_X4_next hl0 ⟨r, hr, hr⟩) (fun _ τ3 _ h => ?_)
      refine r_iconst (v := 1) dX4_readNumber_86 rfl rfl ?_
      exact r_zretc (by decide) rfl dX4_readNumber_87 h
    · refine r_weak (L' := [(0, (4, a0))]) [0] rfl ?_
      refine r_room (C' := 0) (D' := 0) (by omega) (by omega) ?_
      exact t_X4_readNumber_71 hl0    h

set_option maxRecDepth 100000 in
set_option maxHeartbeats 4000000 in
theorem t_X4_readNumber_22 {g : zF} (hl0 : g.2.2.2.1.stackTraces = false) {Q : zR × zS → Prop}   : ∀ (n : Nat) (a0 a1 a2 a3 a4 : Int) (σ : zS), zo (f_X4_readNumber_22  n a0 a1 a2 a3 a4 σ) Q → zw g Y_X4_readNumber R_X4_readNumber 22 [(0, (4, a0)), (1, (0, a1)), (2, (0, a2)), (3, (0, a3)), (4, (0, a4))] [] σ 0 0 Q := by
  intro n
  induction n with
  | zero => intro a0 a1 a2 a3 a4 σ h; obtain ⟨r, h, -⟩ := h; cases h
  | succ n ih =>
    intro a0 a1 a2 a3 a4 σ h
    unfold f_X4_readNumber_22 at h
    refine r_iload 4 dX4_readNumber_22 rfl ?_
    refine r_aload_n 0 dX4_readNumber_24 rfl ?_
    refine r_getf fd_X4_23 rfl dX4_readNumber_25 h (fun x1 h => ?_)
    refine r_icmp_ge 61 dX4_readNumber_28 (by decide) h (fun h => ?_) (fun h => ?_)
    · refine r_weak (L' := [(0, (4, a0)), (1, (0, a1)), (2, (0, a2)), (3, (0, a3))]) [0, 1, 2, 3] rfl ?_
      refine r_room (C' := 0) (D' := 0) (by omega) (by omega) ?_
      exact t_X4_readNumber_61 hl0    h
    · refine r_iload_n 3 dX4_readNumber_31 rfl ?_
      refine r_bipush (v := 10) dX4_readNumber_32 rfl rfl ?_
      refine r_imul dX4_readNumber_34 ?_
      refine r_aload_n 0 dX4_readNumber_35 rfl ?_
      refine r_getr fd_X4_15 rfl dX4_readNumber_36 h (fun x2 h => ?_)
      refine r_iload 4 dX4_readNumber_39 rfl ?_
      refine r_callV (K' := Y_X0_at) (R' := R_X0_at) (idx := 158) (n := 1) (b := x2) (as := [(0, a4)]) (rest := [(0, (w32 (a3 * 10)))]) (C' := 0) (D' := 0) (cn := 0) rfl k0_X0_at kV_X0_at kl_X4_158 ⟨by decide, by decide⟩ dX4_readNumber_41 rfl rfl (Nat.le_of_ble_eq_true rfl) (by decide) (by decide) rfl h (fun r hr => m_X0_at hl0 ⟨r, hr, hr⟩) (fun x3 τ4 _ h => ?_)
      refine r_iadd dX4_readNumber_44 ?_
      refine r_bipush (v := 48) dX4_readNumber_45 rfl rfl ?_
      refine r_isub dX4_readNumber_47 ?_
      refine r_sipush (v := 1000) dX4_readNumber_48 rfl rfl ?_
      refine r_mmin mq_X4_161 ⟨by decide, Nat.le_of_ble_eq_true rfl⟩ rfl dX4_readNumber_51 ?_
      refine r_istore_n (L' := [(3, (0, (min (w32 ((w32 ((w32 (a3 * 10)) + x3)) - 48)) 1000))), (0, (4, a0)), (1, (0, a1)), (2, (0, a2)), (4, (0, a4))]) dX4_readNumber_54 (by decide) rfl ?_
      refine r_iinc (L' := [(4, (0, (w32 (a4 + 1)))), (3, (0, (min (w32 ((w32 ((w32 (a3 * 10)) + x3)) - 48)) 1000))), (0, (4, a0)), (1, (0, a1)), (2, (0, a2))]) 4 dX4_readNumber_55 rfl (by decide) rfl ?_
      refine r_goto 22 dX4_readNumber_58 (by decide) ?_
      refine r_weak (L' := [(0, (4, a0)), (1, (0, a1)), (2, (0, a2)), (3, (0, (min (w32 ((w32 ((w32 (a3 * 10)) + x3)) - 48)) 1000))), (4, (0, (w32 (a4 + 1))))]) [2, 3, 4, 1, 0] rfl ?_
      refine r_room (C' := 0) (D' := 0) (by omega) (by omega) ?_
      exact ih _ _ _ _ _ _ h

set_option maxRecDepth 100000 in
set_option maxHeartbeats 4000000 in
theorem t_X4_readNumber {g : zF} (hl0 : g.2.2.2.1.stackTraces = false) {Q : zR × zS → Prop}   {a0 a1 a2 : Int} {σ : zS} (h : zo (f_X4_readNumber  a0 a1 a2 σ) Q) : zw g Y_X4_readNumber R_X4_readNumber 0 [(0, (4, a0)), (1, (0, a1)), (2, (0, a2))] [] σ 0 0 Q := by
  unfold f_X4_readNumber at h
  refine r_aload_n 0 dX4_readNumber_0 rfl ?_
  refine r_getf fd_X4_41 rfl dX4_readNumber_1 h (fun x1 h => ?_)
  refine r_iconst (v := 2) dX4_readNumber_4 rfl rfl ?_
  refine r_icmp_eq 14 dX4_readNumber_5 (by decide) h (fun h => ?_) (fun h => ?_)
  · refine r_iconst (v := 0) dX4_readNumber_14 rfl rfl ?_
    refine r_istore_n (L' := [(3, (0, 0)), (0, (4, a0)), (1, (0, a1)), (2, (0, a2))]) dX4_readNumber_15 (by decide) rfl ?_
    refine r_aload_n 1 dX4_readNumber_16 rfl ?_
    refine r_getf fd_X4_125 rfl dX4_readNumber_17 h (fun x2 h => ?_)
    refine r_istore (L' := [(4, (0, x2)), (3, (0, 0)), (0, (4, a0)), (1, (0, a1)), (2, (0, a2))]) dX4_readNumber_20 (by decide) rfl ?_
    refine r_weak (L' := [(0, (4, a0)), (1, (0, a1)), (2, (0, a2)), (3, (0, 0)), (4, (0, x2))]) [2, 3, 4, 1, 0] rfl ?_
    refine r_room (C' := 0) (D' := 0) (by omega) (by omega) ?_
    exact t_X4_readNumber_22 hl0    zFU _ _ _ _ _ _ h
  · refine r_aload_n 0 dX4_readNumber_8 rfl ?_
    refine r_iconst (v := 1) dX4_readNumber_9 rfl rfl ?_
    refine r_callV (K' := Y_X4_fail) (R' := R_X4_fail) (idx := 73) (n := 1) (b := a0) (as := [(0, 1)]) (rest := []) (C' := 0) (D' := 0) (cn := 4) rfl k0_X4_fail kV_X4_fail kl_X4_73 ⟨by decide, by decide⟩ dX4_readNumber_10 rfl rfl (Nat.le_of_ble_eq_true rfl) (by decide) (by decide) rfl h (fun r hr => m_X4_fail hl0 ⟨r, hr, hr⟩) (fun x3 τ4 _ h => ?_)
    exact r_zret rfl dX4_readNumber_13 h
theorem m_X4_readNumber {g : zF} (hl0 : g.2.2.2.1.stackTraces = false) {Q : zR × zS → Prop} {a0 a1 a2 : Int} {σ : zS} (h : zo (f_X4_readNumber a0 a1 a2 σ) Q) : zm g Y_X4_readNumber R_X4_readNumber [(4, a0), (0, a1), (0, a2)] σ Q := zm_of (by decide) rfl (Nat.le_of_ble_eq_true rfl) (t_X4_readNumber hl0 h)


/- X4_readRule -/

set_option maxRecDepth 100000 in
set_option maxHeartbeats 4000000 in
theorem t_X4_readRule {g : zF} (hl0 : g.2.2.2.1.stackTraces = false) {Q : zR × zS → Prop}   {a0 a1 a2 : Int} {σ : zS} (h : zo (f_X4_readRule  a0 a1 a2 σ) Q) : zw g Y_X4_readRule R_X4_readRule 0 [(0, (4, a0)), (1, (6, a1)), (2, (0, a2))] [] σ 0 0 Q := by
  unfold f_X4_readRule at h
  refine r_iload_n 2 dX4_readRule_0 rfl ?_
  refine r_if_lt 34 dX4_readRule_1 (by decide) h (fun h => ?_) (fun h => ?_)
  · refine r_iconst (v := 0) dX4_readRule_34 rfl rfl ?_
    exact r_zretc (by decide) rfl dX4_readRule_35 h
  · refine r_iload_n 2 dX4_readRule_4 rfl ?_
    refine r_iconst (v := 5) dX4_readRule_5 rfl rfl ?_
    refine r_icmp_ge 34 dX4_readRule_6 (by decide) h (fun h => ?_) (fun h => ?_)
    · refine r_iconst (v := 0) dX4_readRule_34 rfl rfl ?_
      exact r_zretc (by decide) rfl dX4_readRule_35 h
    · refine r_aload_n 0 dX4_readRule_9 rfl ?_
      refine r_aload_n 1 dX4_readRule_10 rfl ?_
      refine r_callV (K' := Y_X4_readWord) (R' := R_X4_readWord) (idx := 79) (n := 1) (b := a0) (as := [(6, a1)]) (rest := []) (C' := 0) (D' := 0) (cn := 4) rfl k0_X4_readWord kV_X4_readWord kl_X4_79 ⟨by decide, by decide⟩ dX4_readRule_11 rfl rfl (Nat.le_of_ble_eq_true rfl) (by decide) (by decide) rfl h (fun r hr => m_X4_readWord hl0 ⟨r, hr, hr⟩) (fun x1 τ2 _ h => ?_)
      refine r_if_eq 34 dX4_readRule_14 (by decide) h (fun h => ?_) (fun h => ?_)
      · refine r_iconst (v := 0) dX4_readRule_34 rfl rfl ?_
        exact r_zretc (by decide) rfl dX4_readRule_35 h
      · refine r_aload_n 0 dX4_readRule_17 rfl ?_
        refine r_gets (k := 0) (by decide) (Or.inr ⟨"PathTrust", wd_784⟩) dX4_readRule_18 ?_
        refine r_iload_n 2 dX4_readRule_21 rfl ?_
        refine r_sald (k := 0) (by decide) dX4_readRule_22 h (fun x3 h => ?_)
        refine r_gets (k := 1) (by decide) (Or.inr ⟨"PathTrust", wd_786⟩) dX4_readRule_23 ?_
        refine r_iload_n 2 dX4_readRule_26 rfl ?_
        refine r_sald (k := 1) (by decide) dX4_readRule_27 h (fun x4 h => ?_)
        refine r_callV (K' := Y_X4_readNumber) (R' := R_X4_readNumber) (idx := 106) (n := 2) (b := a0) (as := [(0, x3), (0, x4)]) (rest := []) (C' := 0) (D' := 0) (cn := 4) rfl k0_X4_readNumber kV_X4_readNumber kl_X4_106 ⟨by decide, by decide⟩ dX4_readRule_28 rfl rfl (Nat.le_of_ble_eq_true rfl) (by decide) (by decide) rfl h (fun r hr => m_X4_readNumber hl0 ⟨r, hr, hr⟩) (fun x5 τ6 _ h => ?_)
        refine r_if_ne 36 dX4_readRule_31 (by decide) h (fun h => ?_) (fun h => ?_)
        · refine r_aload_n 0 dX4_readRule_36 rfl ?_
          refine r_getr fd_X4_19 rfl dX4_readRule_37 h (fun x7 h => ?_)
          refine r_iload_n 2 dX4_readRule_40 rfl ?_
          refine r_aload_n 0 dX4_readRule_41 rfl ?_
          refine r_getf fd_X4_110 rfl dX4_readRule_42 h (fun x8 h => ?_)
          refine r_callV (K' := Y_X1_putRule) (R' := R_X1_putRule) (idx := 113) (n := 2) (b := x7) (as := [(0, a2), (0, x8)]) (rest := []) (C' := 0) (D' := 0) (cn := 1) rfl k0_X1_putRule kV_X1_putRule kl_X4_113 ⟨by decide, by decide⟩ dX4_readRule_45 rfl rfl (Nat.le_of_ble_eq_true rfl) (by decide) (by decide) rfl h (fun r hr => m_X1_putRule hl0 ⟨r, hr, hr⟩) (fun _ τ10 _ h => ?_)
          refine r_iconst (v := 1) dX4_readRule_48 rfl rfl ?_
          exact r_zretc (by decide) rfl dX4_readRule_49 h
        · refine r_iconst (v := 0) dX4_readRule_34 rfl rfl ?_
          exact r_zretc (by decide) rfl dX4_readRule_35 h
theorem m_X4_readRule {g : zF} (hl0 : g.2.2.2.1.stackTraces = false) {Q : zR × zS → Prop} {a0 a1 a2 : Int} {σ : zS} (h : zo (f_X4_readRule a0 a1 a2 σ) Q) : zm g Y_X4_readRule R_X4_readRule [(4, a0), (6, a1), (0, a2)] σ Q := zm_of (by decide) rfl (Nat.le_of_ble_eq_true rfl) (t_X4_readRule hl0 h)

