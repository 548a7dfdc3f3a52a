/- X7_saved -/

set_option maxRecDepth 100000 in
set_option maxHeartbeats 4000000 in
theorem t_X7_saved_60 {g : zF} (hl0 : g.2.2.2.1.stackTraces = false) {Q : zR × zS → Prop} (r9 : Int → Int → Int → Int → zS → zFn) (hr9 : ∀ b0 b1 b2 b3 τ, zo (r9 b0 b1 b2 b3 τ) Q → zw g Y_X7_saved R_X7_saved 9 [(0, (4, b0)), (1, (0, b1)), (2, (0, b2)), (3, (0, b3))] [] τ 0 0 Q) {a0 a1 a2 a3 : Int} {σ : zS} (h : zo (f_X7_saved_60 r9 a0 a1 a2 a3 σ) Q) : zw g Y_X7_saved R_X7_saved 60 [(0, (4, a0)), (1, (0, a1)), (2, (0, a2)), (3, (0, a3))] [] σ 0 0 Q := by
  unfold f_X7_saved_60 at h
  refine r_iinc (L' := [(3, (0, (w32 (a3 + 1)))), (0, (4, a0)), (1, (0, a1)), (2, (0, a2))]) 3 dX7_saved_60 rfl (by decide) rfl ?_
  refine r_goto 9 dX7_saved_63 (by decide) ?_
  refine r_weak (L' := [(0, (4, a0)), (1, (0, a1)), (2, (0, a2)), (3, (0, (w32 (a3 + 1))))]) [1, 2, 3, 0] rfl ?_
  refine r_room (C' := 0) (D' := 0) (by omega) (by omega) ?_
  exact hr9 _ _ _ _ _ h

set_option maxRecDepth 100000 in
set_option maxHeartbeats 4000000 in
theorem t_X7_saved_9 {g : zF} (hl0 : g.2.2.2.1.stackTraces = false) {Q : zR × zS → Prop}   : ∀ (n : Nat) (a0 a1 a2 a3 : Int) (σ : zS), zo (f_X7_saved_9  n a0 a1 a2 a3 σ) Q → zw g Y_X7_saved R_X7_saved 9 [(0, (4, a0)), (1, (0, a1)), (2, (0, a2)), (3, (0, a3))] [] σ 0 0 Q := by
  intro n
  induction n with
  | zero => intro a0 a1 a2 a3 σ h; obtain ⟨r, h, -⟩ := h; cases h
  | succ n ih =>
    intro a0 a1 a2 a3 σ h
    unfold f_X7_saved_9 at h
    refine r_iload_n 3 dX7_saved_9 rfl ?_
    refine r_aload_n 0 dX7_saved_10 rfl ?_
    refine r_getr fd_X7_31 rfl dX7_saved_11 h (fun x1 h => ?_)
    refine r_getr fd_X7_106 rfl dX7_saved_14 h (fun x2 h => ?_)
    refine r_getf fd_X7_91 rfl dX7_saved_17 h (fun x3 h => ?_)
    refine r_icmp_ge 66 dX7_saved_20 (by decide) h (fun h => ?_) (fun h => ?_)
    · refine r_iload_n 2 dX7_saved_66 rfl ?_
      exact r_iret rfl dX7_saved_67 h
    · refine r_aload_n 0 dX7_saved_23 rfl ?_
      refine r_getr fd_X7_31 rfl dX7_saved_24 h (fun x4 h => ?_)
      refine r_iload_n 1 dX7_saved_27 rfl ?_
      refine r_callV (K' := Y_X1_listOf) (R' := R_X1_listOf) (idx := 144) (n := 1) (b := x4) (as := [(0, a1)]) (rest := []) (C' := 0) (D' := 0) (cn := 1) rfl k0_X1_listOf kV_X1_listOf kl_X7_144 ⟨by decide, by decide⟩ dX7_saved_28 rfl rfl (Nat.le_of_ble_eq_true rfl) (by decide) (by decide) rfl h (fun r hr => m_X1_listOf hl0 ⟨r, hr, hr⟩) (fun x5 τ6 _ h => ?_)
      refine r_iload_n 1 dX7_saved_31 rfl ?_
      refine r_iload_n 3 dX7_saved_32 rfl ?_
      refine r_callV (K' := Y_X5_rowOf) (R' := R_X5_rowOf) (idx := 170) (n := 2) (b := x5) (as := [(0, a1), (0, a3)]) (rest := []) (C' := 0) (D' := 0) (cn := 5) rfl k0_X5_rowOf kV_X5_rowOf kl_X7_170 ⟨by decide, by decide⟩ dX7_saved_33 rfl rfl (Nat.le_of_ble_eq_true rfl) (by decide) (by decide) rfl h (fun r hr => m_X5_rowOf hl0 ⟨r, hr, hr⟩) (fun x7 τ8 _ h => ?_)
      refine r_iconst (v := (-1)) dX7_saved_36 rfl rfl ?_
      refine r_icmp_ne 60 dX7_saved_37 (by decide) h (fun h => ?_) (fun h => ?_)
      · refine r_room (C' := 0) (D' := 0) (by omega) (by omega) ?_
        exact t_X7_saved_60 hl0  (f_X7_saved_9  n) (fun b0 b1 b2 b3 τ h => ih b0 b1 b2 b3 τ h) h
      · refine r_aload_n 0 dX7_saved_40 rfl ?_
        refine r_aload_n 0 dX7_saved_41 rfl ?_
        refine r_getr fd_X7_31 rfl dX7_saved_42 h (fun x9 h => ?_)
        refine r_iload_n 1 dX7_saved_45 rfl ?_
        refine r_iload_n 3 dX7_saved_46 rfl ?_
        refine r_iconst (v := (-1)) dX7_saved_47 rfl rfl ?_
        refine r_callV (K' := Y_X7_widthOf) (R' := R_X7_widthOf) (idx := 201) (n := 4) (b := a0) (as := [(4, x9), (0, a1), (0, a3), (0, (-1))]) (rest := []) (C' := 0) (D' := 0) (cn := 7) rfl k0_X7_widthOf kV_X7_widthOf kl_X7_201 ⟨by decide, by decide⟩ dX7_saved_48 rfl rfl (Nat.le_of_ble_eq_true rfl) (by decide) (by decide) rfl h (fun r hr => m_X7_widthOf hl0 ⟨r, hr, hr⟩) (fun x10 τ11 _ h => ?_)
        refine r_sipush (v := 999) dX7_saved_51 rfl rfl ?_
        refine r_icmp_eq 60 dX7_saved_54 (by decide) h (fun h => ?_) (fun h => ?_)
        · refine r_room (C' := 0) (D' := 0) (by omega) (by omega) ?_
          exact t_X7_saved_60 hl0  (f_X7_saved_9  n) (fun b0 b1 b2 b3 τ h => ih b0 b1 b2 b3 τ h) h
        · refine r_iinc (L' := [(2, (0, (w32 (a2 + 1)))), (0, (4, a0)), (1, (0, a1)), (3, (0, a3))]) 2 dX7_saved_57 rfl (by decide) rfl ?_
          refine r_weak (L' := [(0, (4, a0)), (1, (0, a1)), (2, (0, (w32 (a2 + 1)))), (3, (0, a3))]) [1, 2, 0, 3] rfl ?_
          refine r_room (C' := 0) (D' := 0) (by omega) (by omega) ?_
          exact t_X7_saved_60 hl0  (f_X7_saved_9  n) (fun b0 b1 b2 b3 τ h => ih b0 b1 b2 b3 τ h) h

set_option maxRecDepth 100000 in
set_option maxHeartbeats 4000000 in
theorem t_X7_saved {g : zF} (hl0 : g.2.2.2.1.stackTraces = false) {Q : zR × zS → Prop}   {a0 a1 : Int} {σ : zS} (h : zo (f_X7_saved  a0 a1 σ) Q) : zw g Y_X7_saved R_X7_saved 0 [(0, (4, a0)), (1, (0, a1))] [] σ 0 0 Q := by
  unfold f_X7_saved at h
  refine r_aload_n 0 dX7_saved_0 rfl ?_
  refine r_iload_n 1 dX7_saved_1 rfl ?_
  refine r_callV (K' := Y_X7_checkAgent) (R' := R_X7_checkAgent) (idx := 127) (n := 1) (b := a0) (as := [(0, a1)]) (rest := []) (C' := 0) (D' := 0) (cn := 7) rfl k0_X7_checkAgent kV_X7_checkAgent kl_X7_127 ⟨by decide, by decide⟩ dX7_saved_2 rfl rfl (Nat.le_of_ble_eq_true rfl) (by decide) (by decide) rfl h (fun r hr => m_X7_checkAgent hl0 ⟨r, hr, hr⟩) (fun _ τ2 _ h => ?_)
  refine r_iconst (v := 0) dX7_saved_5 rfl rfl ?_
  refine r_istore_n (L' := [(2, (0, 0)), (0, (4, a0)), (1, (0, a1))]) dX7_saved_6 (by decide) rfl ?_
  refine r_iconst (v := 0) dX7_saved_7 rfl rfl ?_
  refine r_istore_n (L' := [(3, (0, 0)), (2, (0, 0)), (0, (4, a0)), (1, (0, a1))]) dX7_saved_8 (by decide) rfl ?_
  refine r_weak (L' := [(0, (4, a0)), (1, (0, a1)), (2, (0, 0)), (3, (0, 0))]) [2, 3, 1, 0] rfl ?_
  refine r_room (C' := 0) (D' := 0) (by omega) (by omega) ?_
  exact t_X7_saved_9 hl0    zFU _ _ _ _ _ h
theorem m_X7_saved {g : zF} (hl0 : g.2.2.2.1.stackTraces = false) {Q : zR × zS → Prop} {a0 a1 : Int} {σ : zS} (h : zo (f_X7_saved a0 a1 σ) Q) : zm g Y_X7_saved R_X7_saved [(4, a0), (0, a1)] σ Q := zm_of (by decide) rfl (Nat.le_of_ble_eq_true rfl) (t_X7_saved hl0 h)


/- X7_agreeing -/

set_option maxRecDepth 100000 in
set_option maxHeartbeats 4000000 in
theorem t_X7_agreeing_98 {g : zF} (hl0 : g.2.2.2.1.stackTraces = false) {Q : zR × zS → Prop} (r15 : Int → Int → Int → Int → Int → zS → zFn) (hr15 : ∀ b0 b1 b2 b3 b4 τ, zo (r15 b0 b1 b2 b3 b4 τ) Q → zw g Y_X7_agreeing R_X7_agreeing 15 [(0, (4, b0)), (1, (0, b1)), (2, (0, b2)), (3, (0, b3)), (4, (0, b4))] [] τ 0 0 Q) {a0 a1 a2 a3 a4 : Int} {σ : zS} (h : zo (f_X7_agreeing_98 r15 a0 a1 a2 a3 a4 σ) Q) : zw g Y_X7_agreeing R_X7_agreeing 98 [(0, (4, a0)), (1, (0, a1)), (2, (0, a2)), (3, (0, a3)), (4, (0, a4))] [] σ 0 0 Q := by
  unfold f_X7_agreeing_98 at h
  refine r_iinc (L' := [(4, (0, (w32 (a4 + 1)))), (0, (4, a0)), (1, (0, a1)), (2, (0, a2)), (3, (0, a3))]) 4 dX7_agreeing_98 rfl (by decide) rfl ?_
  refine r_goto 15 dX7_agreeing_101 (by decide) ?_
  refine r_weak (L' := [(0, (4, a0)), (1, (0, a1)), (2, (0, a2)), (3, (0, a3)), (4, (0, (w32 (a4 + 1))))]) [1, 2, 3, 4, 0] rfl ?_
  refine r_room (C' := 0) (D' := 0) (by omega) (by omega) ?_
  exact hr15 _ _ _ _ _ _ h

set_option maxRecDepth 100000 in
set_option maxHeartbeats 4000000 in
theorem t_X7_agreeing_15 {g : zF} (hl0 : g.2.2.2.1.stackTraces = false) {Q : zR × zS → Prop}   : ∀ (n : Nat) (a0 a1 a2 a3 a4 : Int) (σ : zS), zo (f_X7_agreeing_15  n a0 a1 a2 a3 a4 σ) Q → zw g Y_X7_agreeing R_X7_agreeing 15 [(0, (4, a0)), (1, (0, a1)), (2, (0, a2)), (3, (0, a3)), (4, (0, a4))] [] σ 0 0 Q := by
  intro n
  induction n with
  | zero => intro a0 a1 a2 a3 a4 σ h; obtain ⟨r, h, -⟩ := h; cases h
  | succ n ih =>
    intro a0 a1 a2 a3 a4 σ h
    unfold f_X7_agreeing_15 at h
    refine r_iload 4 dX7_agreeing_15 rfl ?_
    refine r_aload_n 0 dX7_agreeing_17 rfl ?_
    refine r_getr fd_X7_31 rfl dX7_agreeing_18 h (fun x1 h => ?_)
    refine r_getr fd_X7_106 rfl dX7_agreeing_21 h (fun x2 h => ?_)
    refine r_getf fd_X7_91 rfl dX7_agreeing_24 h (fun x3 h => ?_)
    refine r_icmp_ge 104 dX7_agreeing_27 (by decide) h (fun h => ?_) (fun h => ?_)
    · refine r_iload_n 3 dX7_agreeing_104 rfl ?_
      exact r_iret rfl dX7_agreeing_105 h
    · refine r_aload_n 0 dX7_agreeing_30 rfl ?_
      refine r_aload_n 0 dX7_agreeing_31 rfl ?_
      refine r_getr fd_X7_31 rfl dX7_agreeing_32 h (fun x4 h => ?_)
      refine r_iload_n 1 dX7_agreeing_35 rfl ?_
      refine r_iload 4 dX7_agreeing_36 rfl ?_
      refine r_iconst (v := 0) dX7_agreeing_38 rfl rfl ?_
      refine r_callV (K' := Y_X7_believed) (R' := R_X7_believed) (idx := 173) (n := 4) (b := a0) (as := [(4, x4), (0, a1), (0, a4), (0, 0)]) (rest := []) (C' := 0) (D' := 0) (cn := 7) rfl k0_X7_believed kV_X7_believed kl_X7_173 ⟨by decide, by decide⟩ dX7_agreeing_39 rfl rfl (Nat.le_of_ble_eq_true rfl) (by decide) (by decide) rfl h (fun r hr => m_X7_believed hl0 ⟨r, hr, hr⟩) (fun x5 τ6 _ h => ?_)
      refine r_aload_n 0 dX7_agreeing_42 rfl ?_
      refine r_aload_n 0 dX7_agreeing_43 rfl ?_
      refine r_getr fd_X7_31 rfl dX7_agreeing_44 h (fun x7 h => ?_)
      refine r_iload_n 2 dX7_agreeing_47 rfl ?_
      refine r_iload 4 dX7_agreeing_48 rfl ?_
      refine r_iconst (v := 0) dX7_agreeing_50 rfl rfl ?_
      refine r_callV (K' := Y_X7_believed) (R' := R_X7_believed) (idx := 173) (n := 4) (b := a0) (as := [(4, x7), (0, a2), (0, a4), (0, 0)]) (rest := [(0, x5)]) (C' := 0) (D' := 0) (cn := 7) rfl k0_X7_believed kV_X7_believed kl_X7_173 ⟨by decide, by decide⟩ dX7_agreeing_51 rfl rfl (Nat.le_of_ble_eq_true rfl) (by decide) (by decide) rfl h (fun r hr => m_X7_believed hl0 ⟨r, hr, hr⟩) (fun x8 τ9 _ h => ?_)
      refine r_mmax mq_X7_204 ⟨by decide, Nat.le_of_ble_eq_true rfl⟩ rfl dX7_agreeing_54 ?_
      refine r_istore (L' := [(5, (0, (max x5 x8))), (0, (4, a0)), (1, (0, a1)), (2, (0, a2)), (3, (0, a3)), (4, (0, a4))]) dX7_agreeing_57 (by decide) rfl ?_
      refine r_aload_n 1 dX7_agreeing_59 rfl ?_
      refine r_aload_n 1 dX7_agreeing_60 rfl ?_
      refine r_getr fd_X7_31 rfl dX7_agreeing_61 h (fun x10 h => ?_)
      refine r_iload_n 2 dX7_agreeing_64 rfl ?_
      refine r_iload 5 dX7_agreeing_65 rfl ?_
      refine r_iconst (v := 1) dX7_agreeing_67 rfl rfl ?_
      refine r_callV (K' := Y_X7_believed) (R' := R_X7_believed) (idx := 173) (n := 4) (b := a0) (as := [(4, x10), (0, a1), (0, a4), (0, 1)]) (rest := []) (C' := 0) (D' := 0) (cn := 7) rfl k0_X7_believed kV_X7_believed kl_X7_173 ⟨by decide, by decide⟩ dX7_agreeing_68 rfl rfl (Nat.le_of_ble_eq_true rfl) (by decide) (by decide) rfl h (fun r hr => m_X7_believed hl0 ⟨r, hr, hr⟩) (fun x11 τ12 _ h => ?_)
      refine r_aload_n 1 dX7_agreeing_71 rfl ?_
      refine r_aload_n 1 dX7_agreeing_72 rfl ?_
      refine r_getr fd_X7_31 rfl dX7_agreeing_73 h (fun x13 h => ?_)
      refine r_iload_n 3 dX7_agreeing_76 rfl ?_
      refine r_iload 5 dX7_agreeing_77 rfl ?_
      refine r_iconst (v := 1) dX7_agreeing_79 rfl rfl ?_
      refine r_callV (K' := Y_X7_believed) (R' := R_X7_believed) (idx := 173) (n := 4) (b := a0) (as := [(4, x13), (0, a2), (0, a4), (0, 1)]) (rest := [(0, x11)]) (C' := 0) (D' := 0) (cn := 7) rfl k0_X7_believed kV_X7_believed kl_X7_173 ⟨by decide, by decide⟩ dX7_agreeing_80 rfl rfl (Nat.le_of_ble_eq_true rfl) (by decide) (by decide) rfl h (fun r hr => m_X7_believed hl0 ⟨r, hr, hr⟩) (fun x14 τ15 _ h => ?_)
      refine r_mmin mq_X7_209 ⟨by decide, Nat.le_of_ble_eq_true rfl⟩ rfl dX7_agreeing_83 ?_
      refine r_istore (L' := [(6, (0, (min x11 x14))), (5, (0, (max x5 x8))), (0, (4, a0)), (1, (0, a1)), (2, (0, a2)), (3, (0, a3)), (4, (0, a4))]) dX7_agreeing_86 (by decide) rfl ?_
      refine r_iload 1 dX7_agreeing_88 rfl ?_
      refine r_iload 0 dX7_agreeing_90 rfl ?_
      refine r_icmp_gt 98 dX7_agreeing_92 (by decide) h (fun h => ?_) (fun h => ?_)
      · refine r_weak (L' := [(0, (4, a0)), (1, (0, a1)), (2, (0, a2)), (3, (0, a3)), (4, (0, a4))]) [2, 3, 4, 5, 6] rfl ?_
        refine r_room (C' := 0) (D' := 0) (by omega) (by omega) ?_
        exact t_X7_agreeing_98 hl0  (f_X7_agreeing_15  n) (fun b0 b1 b2 b3 b4 τ h => ih b0 b1 b2 b3 b4 τ h) h
      · refine r_iinc (L' := [(3, (0, (w32 (a3 + 1)))), (6, (0, (min x11 x14))), (5, (0, (max x5 x8))), (0, (4, a0)), (1, (0, a1)), (2, (0, a2)), (4, (0, a4))]) 5 dX7_agreeing_95 rfl (by decide) rfl ?_
        refine r_weak (L' := [(0, (4, a0)), (1, (0, a1)), (2, (0, a2)), (3, (0, (w32 (a3 + 1)))), (4, (0, a4))]) [3, 4, 5, 0, 6] rfl ?_
        refine r_room (C' := 0) (D' := 0) (by omega) (by omega) ?_
        exact t_X7_agreeing_98 hl0  (f_X7_agreeing_15  n) (fun b0 b1 b2 b3 b4 τ h => ih b0 b1 b2 b3 b4 τ h) h

set_option maxRecDepth 100000 in
set_option maxHeartbeats 4000000 in
theorem t_X7_agreeing {g : zF} (hl0 : g.2.2.2.1.stackTraces = false) {Q : zR × zS → Prop}   {a0 a1 a2 : Int} {σ : zS} (h : zo (f_X7_agreeing  a0 a1 a2 σ) Q) : zw g Y_X7_agreeing R_X7_agreeing 0 [(0, (4, a0)), (1, (0, a1)), (2, (0, a2))] [] σ 0 0 Q := by
  unfold f_X7_agreeing at h
  refine r_aload_n 0 dX7_agreeing_0 rfl ?_
  refine r_iload_n 1 dX7_agreeing_1 rfl ?_
  refine r_callV (K' := Y_X7_checkAgent) (R' := R_X7_checkAgent) (idx := 127) (n := 1) (b := a0) (as := [(0, a1)]) (rest := []) (C' := 0) (D' := 0) (cn := 7) rfl k0_X7_checkAgent kV_X7_checkAgent kl_X7_127 ⟨by decide, by decide⟩ dX7_agreeing_2 rfl rfl (Nat.le_of_ble_eq_true rfl) (by decide) (by decide) rfl h (fun r hr => m_X7_checkAgent hl0 ⟨r, hr, hr⟩) (fun _ τ2 _ h => ?_)
  refine r_aload_n 0 dX7_agreeing_5 rfl ?_
  refine r_iload_n 2 dX7_agreeing_6 rfl ?_
  refine r_callV (K' := Y_X7_checkAgent) (R' := R_X7_checkAgent) (idx := 127) (n := 1) (b := a0) (as := [(0, a2)]) (rest := []) (C' := 0) (D' := 0) (cn := 7) rfl k0_X7_checkAgent kV_X7_checkAgent kl_X7_127 ⟨by decide, by decide⟩ dX7_agreeing_7 rfl rfl (Nat.le_of_ble_eq_true rfl) (by decide) (by decide) rfl h (fun r hr => m_X7_checkAgent hl0 ⟨r, hr, hr⟩) (fun _ τ4 _ h => ?_)
  refine r_iconst (v := 0) dX7_agreeing_10 rfl rfl ?_
  refine r_istore_n (L' := [(3, (0, 0)), (0, (4, a0)), (1, (0, a1)), (2, (0, a2))]) dX7_agreeing_11 (by decide) rfl ?_
  refine r_iconst (v := 0) dX7_agreeing_12 rfl rfl ?_
  refine r_istore (L' := [(4, (0, 0)), (3, (0, 0)), (0, (4, a0)), (1, (0, a1)), (2, (0, a2))]) dX7_agreeing_13 (by decide) rfl ?_
  refine r_weak (L' := [(0, (4, a0)), (1, (0, a1)), (2, (0, a2)), (3, (0, 0)), (4, (0, 0))]) [2, 3, 4, 1, 0] rfl ?_
  refine r_room (C' := 0) (D' := 0) (by omega) (by omega) ?_
  exact t_X7_agreeing_15 hl0    zFU _ _ _ _ _ _ h
theorem m_X7_agreeing {g : zF} (hl0 : g.2.2.2.1.stackTraces = false) {Q : zR × zS → Prop} {a0 a1 a2 : Int} {σ : zS} (h : zo (f_X7_agreeing a0 a1 a2 σ) Q) : zm g Y_X7_agreeing R_X7_agreeing [(4, a0), (0, a1), (0, a2)] σ Q := zm_of (by decide) rfl (Nat.le_of_ble_eq_true rfl) (t_X7_agreeing hl0 h)


/- X7_common -/

set_option maxRecDepth 100000 in
set_option maxHeartbeats 4000000 in
theorem t_X7_common_119 {g : zF} (hl0 : g.2.2.2.1.stackTraces = false) {Q : zR × zS → Prop}   {a2 a3 a4 a5 : Int} {σ : zS} (h : zo (f_X7_common_119  a2 a3 a4 a5 σ) Q) : zw g Y_X7_common R_X7_common 119 [(2, (0, a2)), (3, (0, a3)), (4, (0, a4)), (5, (0, a5))] [] σ 0 0 Q := by
  unfold f_X7_common_119 at h
  refine r_iload_n 1 dX7_common_119 rfl ?_
  refine r_if_eq 130 dX7_common_120 (by decide) h (fun h => ?_) (fun h => ?_)
  · refine r_iconst (v := (-1)) dX7_common_130 rfl rfl ?_
    exact r_iret rfl dX7_common_131 h
  · refine r_iload 2 dX7_common_123 rfl ?_
    refine r_iload 3 dX7_common_125 rfl ?_
    refine r_icmp_le 132 dX7_common_127 (by decide) h (fun h => ?_) (fun h => ?_)
    · refine r_iload_n 0 dX7_common_132 rfl ?_
      refine r_if_ne 141 dX7_common_133 (by decide) h (fun h => ?_) (fun h => ?_)
      · refine r_iload 3 dX7_common_141 rfl ?_
        exact r_iret rfl dX7_common_143 h
      · refine r_iload 2 dX7_common_136 rfl ?_
        refine r_goto 143 dX7_common_138 (by decide) ?_
        exact r_iret rfl dX7_common_143 h
    · refine r_iconst (v := (-1)) dX7_common_130 rfl rfl ?_
      exact r_iret rfl dX7_common_131 h

set_option maxRecDepth 100000 in
set_option maxHeartbeats 4000000 in
theorem t_X7_common_113 {g : zF} (hl0 : g.2.2.2.1.stackTraces = false) {Q : zR × zS → Prop} (r24 : Int → Int → Int → Int → Int → Int → Int → zS → zFn) (hr24 : ∀ b0 b1 b2 b3 b4 b5 b6 τ, zo (r24 b0 b1 b2 b3 b4 b5 b6 τ) Q → zw g Y_X7_common R_X7_common 24 [(0, (4, b0)), (1, (0, b1)), (2, (0, b2)), (3, (0, b3)), (4, (0, b4)), (5, (0, b5)), (6, (0, b6))] [] τ 0 0 Q) {a0 a1 a2 a3 a4 a5 a6 : Int} {σ : zS} (h : zo (f_X7_common_113 r24 a0 a1 a2 a3 a4 a5 a6 σ) Q) : zw g Y_X7_common R_X7_common 113 [(0, (4, a0)), (1, (0, a1)), (2, (0, a2)), (3, (0, a3)), (4, (0, a4)), (5, (0, a5)), (6, (0, a6))] [] σ 0 0 Q := by
  unfold f_X7_common_113 at h
  refine r_iinc (L' := [(6, (0, (w32 (a6 + 1)))), (0, (4, a0)), (1, (0, a1)), (2, (0, a2)), (3, (0, a3)), (4, (0, a4)), (5, (0, a5))]) 6 dX7_common_113 rfl (by decide) rfl ?_
  refine r_goto 24 dX7_common_116 (by decide) ?_
  refine r_weak (L' := [(0, (4, a0)), (1, (0, a1)), (2, (0, a2)), (3, (0, a3)), (4, (0, a4)), (5, (0, a5)), (6, (0, (w32 (a6 + 1))))]) [1, 2, 3, 4, 5, 6, 0] rfl ?_
  refine r_room (C' := 0) (D' := 0) (by omega) (by omega) ?_
  exact hr24 _ _ _ _ _ _ _ _ h

set_option maxRecDepth 100000 in
set_option maxHeartbeats 4000000 in
theorem t_X7_common_24 {g : zF} (hl0 : g.2.2.2.1.stackTraces = false) {Q : zR × zS → Prop}   : ∀ (n : Nat) (a0 a1 a2 a3 a4 a5 a6 : Int) (σ : zS), zo (f_X7_common_24  n a0 a1 a2 a3 a4 a5 a6 σ) Q → zw g Y_X7_common R_X7_common 24 [(0, (4, a0)), (1, (0, a1)), (2, (0, a2)), (3, (0, a3)), (4, (0, a4)), (5, (0, a5)), (6, (0, a6))] [] σ 0 0 Q := by
  intro n
  induction n with
  | zero => intro a0 a1 a2 a3 a4 a5 a6 σ h; obtain ⟨r, h, -⟩ := h; cases h
  | succ n ih =>
    intro a0 a1 a2 a3 a4 a5 a6 σ h
    unfold f_X7_common_24 at h
    refine r_iload 6 dX7_common_24 rfl ?_
    refine r_aload_n 0 dX7_common_26 rfl ?_
    refine r_getr fd_X7_31 rfl dX7_common_27 h (fun x1 h => ?_)
    refine r_getr fd_X7_87 rfl dX7_common_30 h (fun x2 h => ?_)
    refine r_getf fd_X7_91 rfl dX7_common_33 h (fun x3 h => ?_)
    refine r_icmp_ge 119 dX7_common_36 (by decide) h (fun h => ?_) (fun h => ?_)
    · refine r_weak (L' := [(2, (0, a2)), (3, (0, a3)), (4, (0, a4)), (5, (0, a5))]) [2, 3, 4, 5] rfl ?_
      refine r_room (C' := 0) (D' := 0) (by omega) (by omega) ?_
      exact t_X7_common_119 hl0    h
    · refine r_aload_n 0 dX7_common_39 rfl ?_
      refine r_getr fd_X7_31 rfl dX7_common_40 h (fun x4 h => ?_)
      refine r_iload 6 dX7_common_43 rfl ?_
      refine r_callV (K' := Y_X1_listOf) (R' := R_X1_listOf) (idx := 144) (n := 1) (b := x4) (as := [(0, a6)]) (rest := []) (C' := 0) (D' := 0) (cn := 1) rfl k0_X1_listOf kV_X1_listOf kl_X7_144 ⟨by decide, by decide⟩ dX7_common_45 rfl rfl (Nat.le_of_ble_eq_true rfl) (by decide) (by decide) rfl h (fun r hr => m_X1_listOf hl0 ⟨r, hr, hr⟩) (fun x5 τ6 _ h => ?_)
      refine r_astore (L' := [(7, (4, x5)), (0, (4, a0)), (1, (0, a1)), (2, (0, a2)), (3, (0, a3)), (4, (0, a4)), (5, (0, a5)), (6, (0, a6))]) dX7_common_48 (by decide) rfl ?_
      refine r_aload 0 dX7_common_50 rfl ?_
      refine r_iload 7 dX7_common_52 rfl ?_
      refine r_iload_n 2 dX7_common_54 rfl ?_
      refine r_callV (K' := Y_X5_rowOf) (R' := R_X5_rowOf) (idx := 170) (n := 2) (b := x5) (as := [(0, a6), (0, a1)]) (rest := []) (C' := 0) (D' := 0) (cn := 5) rfl k0_X5_rowOf kV_X5_rowOf kl_X7_170 ⟨by decide, by decide⟩ dX7_common_55 rfl rfl (Nat.le_of_ble_eq_true rfl) (by decide) (by decide) rfl h (fun r hr => m_X5_rowOf hl0 ⟨r, hr, hr⟩) (fun x7 τ8 _ h => ?_)
      refine r_istore (L' := [(8, (0, x7)), (7, (4, x5)), (0, (4, a0)), (1, (0, a1)), (2, (0, a2)), (3, (0, a3)), (4, (0, a4)), (5, (0, a5)), (6, (0, a6))]) dX7_common_58 (by decide) rfl ?_
      refine r_iload 0 dX7_common_60 rfl ?_
      refine r_iconst (v := (-1)) dX7_common_62 rfl rfl ?_
      refine r_icmp_eq 113 dX7_common_63 (by decide) h (fun h => ?_) (fun h => ?_)
      · refine r_weak (L' := [(0, (4, a0)), (1, (0, a1)), (2, (0, a2)), (3, (0, a3)), (4, (0, a4)), (5, (0, a5)), (6, (0, a6))]) [2, 3, 4, 5, 6, 7, 8] rfl ?_
        refine r_room (C' := 0) (D' := 0) (by omega) (by omega) ?_
        exact t_X7_common_113 hl0  (f_X7_common_24  n) (fun b0 b1 b2 b3 b4 b5 b6 τ h => ih b0 b1 b2 b3 b4 b5 b6 τ h) h
      · refine r_aload_n 2 dX7_common_66 rfl ?_
        refine r_getr fd_X7_31 rfl dX7_common_67 h (fun x9 h => ?_)
        refine r_aload 1 dX7_common_70 rfl ?_
        refine r_iload 0 dX7_common_72 rfl ?_
        refine r_callV (K' := Y_X1_driftOf) (R' := R_X1_driftOf) (idx := 212) (n := 2) (b := x9) (as := [(4, x5), (0, x7)]) (rest := []) (C' := 0) (D' := 0) (cn := 1) rfl k0_X1_driftOf kV_X1_driftOf kl_X7_212 ⟨by decide, by decide⟩ dX7_common_74 rfl rfl (Nat.le_of_ble_eq_true rfl) (by decide) (by decide) rfl h (fun r hr => m_X1_driftOf hl0 ⟨r, hr, hr⟩) (fun x10 τ11 _ h => ?_)
        refine r_istore (L' := [(9, (0, x10)), (8, (0, x7)), (7, (4, x5)), (0, (4, a0)), (1, (0, a1)), (2, (0, a2)), (3, (0, a3)), (4, (0, a4)), (5, (0, a5)), (6, (0, a6))]) dX7_common_77 (by decide) rfl ?_
        refine r_iconst (v := 1) dX7_common_79 rfl rfl ?_
        refine r_istore_n (L' := [(3, (0, 1)), (9, (0, x10)), (8, (0, x7)), (7, (4, x5)), (0, (4, a0)), (1, (0, a1)), (2, (0, a2)), (4, (0, a4)), (5, (0, a5)), (6, (0, a6))]) dX7_common_80 (by decide) rfl ?_
        refine r_iload 7 dX7_common_81 rfl ?_
        refine r_aload 3 dX7_common_83 rfl ?_
        refine r_iload 2 dX7_common_85 rfl ?_
        refine r_iload 1 dX7_common_87 rfl ?_
        refine r_callV (K' := Y_X5_lowMoved) (R' := R_X5_lowMoved) (idx := 161) (n := 2) (b := x5) (as := [(0, x7), (0, x10)]) (rest := [(0, a4)]) (C' := 0) (D' := 0) (cn := 5) rfl k0_X5_lowMoved kV_X5_lowMoved kl_X7_161 ⟨by decide, by decide⟩ dX7_common_89 rfl rfl (Nat.le_of_ble_eq_true rfl) (by decide) (by decide) rfl h (fun r hr => m_X5_lowMoved hl0 ⟨r, hr, hr⟩) (fun x12 τ13 _ h => ?_)
        refine r_mmax mq_X7_204 ⟨by decide, Nat.le_of_ble_eq_true rfl⟩ rfl dX7_common_92 ?_
        refine r_istore (L' := [(4, (0, (max a4 x12))), (3, (0, 1)), (9, (0, x10)), (8, (0, x7)), (7, (4, x5)), (0, (4, a0)), (1, (0, a1)), (2, (0, a2)), (5, (0, a5)), (6, (0, a6))]) dX7_common_95 (by decide) rfl ?_
        refine r_iload 8 dX7_common_97 rfl ?_
        refine r_aload 4 dX7_common_99 rfl ?_
        refine r_iload 3 dX7_common_101 rfl ?_
        refine r_iload 2 dX7_common_103 rfl ?_
        refine r_callV (K' := Y_X5_highMoved) (R' := R_X5_highMoved) (idx := 164) (n := 2) (b := x5) (as := [(0, x7), (0, x10)]) (rest := [(0, a5)]) (C' := 0) (D' := 0) (cn := 5) rfl k0_X5_highMoved kV_X5_highMoved kl_X7_164 ⟨by decide, by decide⟩ dX7_common_105 rfl rfl (Nat.le_of_ble_eq_true rfl) (by decide) (by decide) rfl h (fun r hr => m_X5_highMoved hl0 ⟨r, hr, hr⟩) (fun x14 τ15 _ h => ?_)
        refine r_mmin mq_X7_209 ⟨by decide, Nat.le_of_ble_eq_true rfl⟩ rfl dX7_common_108 ?_
        refine r_istore (L' := [(5, (0, (min a5 x14))), (4, (0, (max a4 x12))), (3, (0, 1)), (9, (0, x10)), (8, (0, x7)), (7, (4, x5)), (0, (4, a0)), (1, (0, a1)), (2, (0, a2)), (6, (0, a6))]) dX7_common_111 (by decide) rfl ?_
        refine r_weak (L' := [(0, (4, a0)), (1, (0, a1)), (2, (0, a2)), (3, (0, 1)), (4, (0, (max a4 x12))), (5, (0, (min a5 x14))), (6, (0, a6))]) [6, 7, 8, 2, 1, 0, 9] rfl ?_
        refine r_room (C' := 0) (D' := 0) (by omega) (by omega) ?_
        exact t_X7_common_113 hl0  (f_X7_common_24  n) (fun b0 b1 b2 b3 b4 b5 b6 τ h => ih b0 b1 b2 b3 b4 b5 b6 τ h) h

set_option maxRecDepth 100000 in
set_option maxHeartbeats 4000000 in
theorem t_X7_common {g : zF} (hl0 : g.2.2.2.1.stackTraces = false) {Q : zR × zS → Prop}   {a0 a1 a2 : Int} {σ : zS} (h : zo (f_X7_common  a0 a1 a2 σ) Q) : zw g Y_X7_common R_X7_common 0 [(0, (4, a0)), (1, (0, a1)), (2, (0, a2))] [] σ 0 0 Q := by
  unfold f_X7_common at h
  refine r_aload_n 0 dX7_common_0 rfl ?_
  refine r_iload_n 1 dX7_common_1 rfl ?_
  refine r_callV (K' := Y_X7_checkWay) (R' := R_X7_checkWay) (idx := 167) (n := 1) (b := a0) (as := [(0, a1)]) (rest := []) (C' := 0) (D' := 0) (cn := 7) rfl k0_X7_checkWay kV_X7_checkWay kl_X7_167 ⟨by decide, by decide⟩ dX7_common_2 rfl rfl (Nat.le_of_ble_eq_true rfl) (by decide) (by decide) rfl h (fun r hr => m_X7_checkWay hl0 ⟨r, hr, hr⟩) (fun _ τ2 _ h => ?_)
  refine r_iload_n 2 dX7_common_5 rfl ?_
  refine r_iconst (v := 0) dX7_common_6 rfl rfl ?_
  refine r_iconst (v := 1) dX7_common_7 rfl rfl ?_
  refine r_callS (K' := Y_X7_checkRange) (R' := R_X7_checkRange) (idx := 72) (n := 3) (as := [(0, a2), (0, 0), (0, 1)]) (rest := []) (C' := 0) (D' := 0) rfl k0_X7_checkRange wd_722 kl_X7_72 ⟨by decide, by decide⟩ dX7_common_8 rfl rfl (Nat.le_of_ble_eq_true rfl) (by decide) (by decide) h (fun r hr => m_X7_checkRange hl0 ⟨r, hr, hr⟩) (fun _ τ4 _ h => ?_)
  refine r_iconst (v := 0) dX7_common_11 rfl rfl ?_
  refine r_istore_n (L' := [(3, (0, 0)), (0, (4, a0)), (1, (0, a1)), (2, (0, a2))]) dX7_common_12 (by decide) rfl ?_
  refine r_iconst (v := 0) dX7_common_13 rfl rfl ?_
  refine r_istore (L' := [(4, (0, 0)), (3, (0, 0)), (0, (4, a0)), (1, (0, a1)), (2, (0, a2))]) dX7_common_14 (by decide) rfl ?_
  refine r_sipush (v := 999) dX7_common_16 rfl rfl ?_
  refine r_istore (L' := [(5, (0, 999)), (4, (0, 0)), (3, (0, 0)), (0, (4, a0)), (1, (0, a1)), (2, (0, a2))]) dX7_common_19 (by decide) rfl ?_
  refine r_iconst (v := 0) dX7_common_21 rfl rfl ?_
  refine r_istore (L' := [(6, (0, 0)), (5, (0, 999)), (4, (0, 0)), (3, (0, 0)), (0, (4, a0)), (1, (0, a1)), (2, (0, a2))]) dX7_common_22 (by decide) rfl ?_
  refine r_weak (L' := [(0, (4, a0)), (1, (0, a1)), (2, (0, a2)), (3, (0, 0)), (4, (0, 0)), (5, (0, 999)), (6, (0, 0))]) [4, 5, 6, 3, 2, 1, 0] rfl ?_
  refine r_room (C' := 0) (D' := 0) (by omega) (by omega) ?_
  exact t_X7_common_24 hl0    zFU _ _ _ _ _ _ _ _ h
theorem m_X7_common {g : zF} (hl0 : g.2.2.2.1.stackTraces = false) {Q : zR × zS → Prop} {a0 a1 a2 : Int} {σ : zS} (h : zo (f_X7_common a0 a1 a2 σ) Q) : zm g Y_X7_common R_X7_common [(4, a0), (0, a1), (0, a2)] σ Q := zm_of (by decide) rfl (Nat.le_of_ble_eq_true rfl) (t_X7_common hl0 h)


/- X7_checkBounds -/

set_option maxRecDepth 100000 in
set_option maxHeartbeats 4000000 in
theorem t_X7_checkBounds {g : zF} (hl0 : g.2.2.2.1.stackTraces = false) {Q : zR × zS → Prop}   {a0 a1 : Int} {σ : zS} (h : zo (f_X7_checkBounds  a0 a1 σ) Q) : zw g Y_X7_checkBounds R_X7_checkBounds 0 [(0, (0, a0)), (1, (0, a1))] [] σ 0 0 Q := by
  unfold f_X7_checkBounds at h
  refine r_iload_n 0 dX7_checkBounds_0 rfl ?_
  refine r_iconst (v := 0) dX7_checkBounds_1 rfl rfl ?_
  refine r_sipush (v := 999) dX7_checkBounds_2 rfl rfl ?_
  refine r_callS (K' := Y_X7_checkRange) (R' := R_X7_checkRange) (idx := 72) (n := 3) (as := [(0, a0), (0, 0), (0, 999)]) (rest := []) (C' := 0) (D' := 0) rfl k0_X7_checkRange wd_722 kl_X7_72 ⟨by decide, by decide⟩ dX7_checkBounds_5 rfl rfl (Nat.le_of_ble_eq_true rfl) (by decide) (by decide) h (fun r hr => m_X7_checkRange hl0 ⟨r, hr, hr⟩) (fun _ τ2 _ h => ?_)
  refine r_iload_n 1 dX7_checkBounds_8 rfl ?_
  refine r_iload_n 0 dX7_checkBounds_9 rfl ?_
  refine r_sipush (v := 999) dX7_checkBounds_10 rfl rfl ?_
  refine r_callS (K' := Y_X7_checkRange) (R' := R_X7_checkRange) (idx := 72) (n := 3) (as := [(0, a1), (0, a0), (0, 999)]) (rest := []) (C' := 0) (D' := 0) rfl k0_X7_checkRange wd_722 kl_X7_72 ⟨by decide, by decide⟩ dX7_checkBounds_13 rfl rfl (Nat.le_of_ble_eq_true rfl) (by decide) (by decide) h (fun r hr => m_X7_checkRange hl0 ⟨r, hr, hr⟩) (fun _ τ4 _ h => ?_)
  exact r_vret rfl dX7_checkBounds_16 h
theorem m_X7_checkBounds {g : zF} (hl0 : g.2.2.2.1.stackTraces = false) {Q : zR × zS → Prop} {a0 a1 : Int} {σ : zS} (h : zo (f_X7_checkBounds a0 a1 σ) Q) : zm g Y_X7_checkBounds R_X7_checkBounds [(0, a0), (0, a1)] σ Q := zm_of (by decide) rfl (Nat.le_of_ble_eq_true rfl) (t_X7_checkBounds hl0 h)


/- X7_probe -/

set_option maxRecDepth 100000 in
set_option maxHeartbeats 4000000 in
theorem t_X7_probe {g : zF} (hl0 : g.2.2.2.1.stackTraces = false) {Q : zR × zS → Prop}   {a0 a1 a2 a3 a4 : Int} {σ : zS} (h : zo (f_X7_probe  a0 a1 a2 a3 a4 σ) Q) : zw g Y_X7_probe R_X7_probe 0 [(0, (4, a0)), (1, (0, a1)), (2, (0, a2)), (3, (0, a3)), (4, (0, a4))] [] σ 27 7320 Q := by
  unfold f_X7_probe at h
  refine r_aload_n 0 dX7_probe_0 rfl ?_
  refine r_iload_n 1 dX7_probe_1 rfl ?_
  refine r_callV (K' := Y_X7_checkAgent) (R' := R_X7_checkAgent) (idx := 127) (n := 1) (b := a0) (as := [(0, a1)]) (rest := []) (C' := 27) (D' := 7320) (cn := 7) rfl k0_X7_checkAgent kV_X7_checkAgent kl_X7_127 ⟨by decide, by decide⟩ dX7_probe_2 rfl rfl (Nat.le_of_ble_eq_true rfl) (by decide) (by decide) rfl h (fun r hr => m_X7_checkAgent hl0 ⟨r, hr, hr⟩) (fun _ τ2 _ h => ?_)
  refine r_aload_n 0 dX7_probe_5 rfl ?_
  refine r_iload_n 2 dX7_probe_6 rfl ?_
  refine r_callV (K' := Y_X7_checkWay) (R' := R_X7_checkWay) (idx := 167) (n := 1) (b := a0) (as := [(0, a2)]) (rest := []) (C' := 27) (D' := 7320) (cn := 7) rfl k0_X7_checkWay kV_X7_checkWay kl_X7_167 ⟨by decide, by decide⟩ dX7_probe_7 rfl rfl (Nat.le_of_ble_eq_true rfl) (by decide) (by decide) rfl h (fun r hr => m_X7_checkWay hl0 ⟨r, hr, hr⟩) (fun _ τ4 _ h => ?_)
  refine r_iload_n 3 dX7_probe_10 rfl ?_
  refine r_iload 4 dX7_probe_11 rfl ?_
  refine r_callS (K' := Y_X7_checkBounds) (R' := R_X7_checkBounds) (idx := 227) (n := 2) (as := [(0, a3), (0, a4)]) (rest := []) (C' := 27) (D' := 7320) rfl k0_X7_checkBounds wd_994 kl_X7_227 ⟨by decide, by decide⟩ dX7_probe_13 rfl rfl (Nat.le_of_ble_eq_true rfl) (by decide) (by decide) h (fun r hr => m_X7_checkBounds hl0 ⟨r, hr, hr⟩) (fun _ τ6 _ h => ?_)
  refine r_aload_n 0 dX7_probe_16 rfl ?_
  refine r_getr fd_X7_50 rfl dX7_probe_17 h (fun x7 h => ?_)
  refine r_aload_n 0 dX7_probe_20 rfl ?_
  refine r_getr fd_X7_31 rfl dX7_probe_21 h (fun x8 h => ?_)
  refine r_callV (K' := Y_X2_push) (R' := R_X2_push) (idx := 80) (n := 1) (b := x7) (as := [(4, x8)]) (rest := []) (C' := 0) (D' := 0) (cn := 2) rfl k0_X2_push kV_X2_push kl_X7_80 ⟨by decide, by decide⟩ dX7_probe_24 rfl rfl (Nat.le_of_ble_eq_true rfl) (by decide) (by decide) rfl h (fun r hr => m_X2_push hl0 ⟨r, hr, hr⟩) (fun _ τ10 _ h => ?_)
  refine r_aload_n 0 dX7_probe_27 rfl ?_
  refine r_getr fd_X7_31 rfl dX7_probe_28 h (fun x11 h => ?_)
  refine r_iload_n 1 dX7_probe_31 rfl ?_
  refine r_iload_n 2 dX7_probe_32 rfl ?_
  refine r_iload_n 3 dX7_probe_33 rfl ?_
  refine r_iload 4 dX7_probe_34 rfl ?_
  refine r_callV (K' := Y_X1_makeProbe) (R' := R_X1_makeProbe) (idx := 230) (n := 4) (b := x11) (as := [(0, a1), (0, a2), (0, a3), (0, a4)]) (rest := []) (C' := 0) (D' := 0) (cn := 1) rfl k0_X1_makeProbe kV_X1_makeProbe kl_X7_230 ⟨by decide, by decide⟩ dX7_probe_36 rfl rfl (Nat.le_of_ble_eq_true rfl) (by decide) (by decide) rfl h (fun r hr => m_X1_makeProbe hl0 ⟨r, hr, hr⟩) (fun x12 τ13 _ h => ?_)
  exact r_iret rfl dX7_probe_39 h
theorem m_X7_probe {g : zF} (hl0 : g.2.2.2.1.stackTraces = false) {Q : zR × zS → Prop} {a0 a1 a2 a3 a4 : Int} {σ : zS} (h : zo (f_X7_probe a0 a1 a2 a3 a4 σ) Q) : zm g Y_X7_probe R_X7_probe [(4, a0), (0, a1), (0, a2), (0, a3), (0, a4)] σ Q := zm_of (by decide) rfl (Nat.le_of_ble_eq_true rfl) (t_X7_probe hl0 h)


/- X7_share -/

set_option maxRecDepth 100000 in
set_option maxHeartbeats 4000000 in
theorem t_X7_share {g : zF} (hl0 : g.2.2.2.1.stackTraces = false) {Q : zR × zS → Prop}   {a0 a1 : Int} {σ : zS} (h : zo (f_X7_share  a0 a1 σ) Q) : zw g Y_X7_share R_X7_share 0 [(0, (4, a0)), (1, (0, a1))] [] σ 27 7320 Q := by
  unfold f_X7_share at h
  refine r_aload_n 0 dX7_share_0 rfl ?_
  refine r_iload_n 1 dX7_share_1 rfl ?_
  refine r_callV (K' := Y_X7_checkAgent) (R' := R_X7_checkAgent) (idx := 127) (n := 1) (b := a0) (as := [(0, a1)]) (rest := []) (C' := 27) (D' := 7320) (cn := 7) rfl k0_X7_checkAgent kV_X7_checkAgent kl_X7_127 ⟨by decide, by decide⟩ dX7_share_2 rfl rfl (Nat.le_of_ble_eq_true rfl) (by decide) (by decide) rfl h (fun r hr => m_X7_checkAgent hl0 ⟨r, hr, hr⟩) (fun _ τ2 _ h => ?_)
  refine r_aload_n 0 dX7_share_5 rfl ?_
  refine r_getr fd_X7_50 rfl dX7_share_6 h (fun x3 h => ?_)
  refine r_aload_n 0 dX7_share_9 rfl ?_
  refine r_getr fd_X7_31 rfl dX7_share_10 h (fun x4 h => ?_)
  refine r_callV (K' := Y_X2_push) (R' := R_X2_push) (idx := 80) (n := 1) (b := x3) (as := [(4, x4)]) (rest := []) (C' := 0) (D' := 0) (cn := 2) rfl k0_X2_push kV_X2_push kl_X7_80 ⟨by decide, by decide⟩ dX7_share_13 rfl rfl (Nat.le_of_ble_eq_true rfl) (by decide) (by decide) rfl h (fun r hr => m_X2_push hl0 ⟨r, hr, hr⟩) (fun _ τ6 _ h => ?_)
  refine r_aload_n 0 dX7_share_16 rfl ?_
  refine r_getr fd_X7_31 rfl dX7_share_17 h (fun x7 h => ?_)
  refine r_iload_n 1 dX7_share_20 rfl ?_
  refine r_iconst (v := 1) dX7_share_21 rfl rfl ?_
  refine r_callV (K' := Y_X1_sendReports) (R' := R_X1_sendReports) (idx := 246) (n := 2) (b := x7) (as := [(0, a1), (0, 1)]) (rest := []) (C' := 0) (D' := 0) (cn := 1) rfl k0_X1_sendReports kV_X1_sendReports kl_X7_246 ⟨by decide, by decide⟩ dX7_share_22 rfl rfl (Nat.le_of_ble_eq_true rfl) (by decide) (by decide) rfl h (fun r hr => m_X1_sendReports hl0 ⟨r, hr, hr⟩) (fun x8 τ9 _ h => ?_)
  exact r_iret rfl dX7_share_25 h
theorem m_X7_share {g : zF} (hl0 : g.2.2.2.1.stackTraces = false) {Q : zR × zS → Prop} {a0 a1 : Int} {σ : zS} (h : zo (f_X7_share a0 a1 σ) Q) : zm g Y_X7_share R_X7_share [(4, a0), (0, a1)] σ Q := zm_of (by decide) rfl (Nat.le_of_ble_eq_true rfl) (t_X7_share hl0 h)


/- X7_relay -/

set_option maxRecDepth 100000 in
set_option maxHeartbeats 4000000 in
theorem t_X7_relay {g : zF} (hl0 : g.2.2.2.1.stackTraces = false) {Q : zR × zS → Prop}   {a0 a1 : Int} {σ : zS} (h : zo (f_X7_relay  a0 a1 σ) Q) : zw g Y_X7_relay R_X7_relay 0 [(0, (4, a0)), (1, (0, a1))] [] σ 27 7320 Q := by
  unfold f_X7_relay at h
  refine r_aload_n 0 dX7_relay_0 rfl ?_
  refine r_iload_n 1 dX7_relay_1 rfl ?_
  refine r_callV (K' := Y_X7_checkAgent) (R' := R_X7_checkAgent) (idx := 127) (n := 1) (b := a0) (as := [(0, a1)]) (rest := []) (C' := 27) (D' := 7320) (cn := 7) rfl k0_X7_checkAgent kV_X7_checkAgent kl_X7_127 ⟨by decide, by decide⟩ dX7_relay_2 rfl rfl (Nat.le_of_ble_eq_true rfl) (by decide) (by decide) rfl h (fun r hr => m_X7_checkAgent hl0 ⟨r, hr, hr⟩) (fun _ τ2 _ h => ?_)
  refine r_aload_n 0 dX7_relay_5 rfl ?_
  refine r_getr fd_X7_50 rfl dX7_relay_6 h (fun x3 h => ?_)
  refine r_aload_n 0 dX7_relay_9 rfl ?_
  refine r_getr fd_X7_31 rfl dX7_relay_10 h (fun x4 h => ?_)
  refine r_callV (K' := Y_X2_push) (R' := R_X2_push) (idx := 80) (n := 1) (b := x3) (as := [(4, x4)]) (rest := []) (C' := 0) (D' := 0) (cn := 2) rfl k0_X2_push kV_X2_push kl_X7_80 ⟨by decide, by decide⟩ dX7_relay_13 rfl rfl (Nat.le_of_ble_eq_true rfl) (by decide) (by decide) rfl h (fun r hr => m_X2_push hl0 ⟨r, hr, hr⟩) (fun _ τ6 _ h => ?_)
  refine r_aload_n 0 dX7_relay_16 rfl ?_
  refine r_getr fd_X7_31 rfl dX7_relay_17 h (fun x7 h => ?_)
  refine r_iload_n 1 dX7_relay_20 rfl ?_
  refine r_aload_n 0 dX7_relay_21 rfl ?_
  refine r_getr fd_X7_31 rfl dX7_relay_22 h (fun x8 h => ?_)
  refine r_iconst (v := 4) dX7_relay_25 rfl rfl ?_
  refine r_callV (K' := Y_X1_rule) (R' := R_X1_rule) (idx := 123) (n := 1) (b := x8) (as := [(0, 4)]) (rest := [(0, a1), (4, x7)]) (C' := 0) (D' := 0) (cn := 1) rfl k0_X1_rule kV_X1_rule kl_X7_123 ⟨by decide, by decide⟩ dX7_relay_26 rfl rfl (Nat.le_of_ble_eq_true rfl) (by decide) (by decide) rfl h (fun r hr => m_X1_rule hl0 ⟨r, hr, hr⟩) (fun x9 τ10 _ h => ?_)
  refine r_callV (K' := Y_X1_sendReports) (R' := R_X1_sendReports) (idx := 246) (n := 2) (b := x7) (as := [(0, a1), (0, x9)]) (rest := []) (C' := 0) (D' := 0) (cn := 1) rfl k0_X1_sendReports kV_X1_sendReports kl_X7_246 ⟨by decide, by decide⟩ dX7_relay_29 rfl rfl (Nat.le_of_ble_eq_true rfl) (by decide) (by decide) rfl h (fun r hr => m_X1_sendReports hl0 ⟨r, hr, hr⟩) (fun x11 τ12 _ h => ?_)
  exact r_iret rfl dX7_relay_32 h
theorem m_X7_relay {g : zF} (hl0 : g.2.2.2.1.stackTraces = false) {Q : zR × zS → Prop} {a0 a1 : Int} {σ : zS} (h : zo (f_X7_relay a0 a1 σ) Q) : zm g Y_X7_relay R_X7_relay [(4, a0), (0, a1)] σ Q := zm_of (by decide) rfl (Nat.le_of_ble_eq_true rfl) (t_X7_relay hl0 h)


/- X7_deliver -/

set_option maxRecDepth 100000 in
set_option maxHeartbeats 4000000 in
theorem t_X7_deliver {g : zF} (hl0 : g.2.2.2.1.stackTraces = false) {Q : zR × zS → Prop}   {a0 a1 : Int} {σ : zS} (h : zo (f_X7_deliver  a0 a1 σ) Q) : zw g Y_X7_deliver R_X7_deliver 0 [(0, (4, a0)), (1, (0, a1))] [] σ 27 7320 Q := by
  unfold f_X7_deliver at h
  refine r_iload_n 1 dX7_deliver_0 rfl ?_
  refine r_iconst (v := 1) dX7_deliver_1 rfl rfl ?_
  refine r_bipush (v := 100) dX7_deliver_2 rfl rfl ?_
  refine r_callS (K' := Y_X7_checkRange) (R' := R_X7_checkRange) (idx := 72) (n := 3) (as := [(0, a1), (0, 1), (0, 100)]) (rest := []) (C' := 27) (D' := 7320) rfl k0_X7_checkRange wd_722 kl_X7_72 ⟨by decide, by decide⟩ dX7_deliver_4 rfl rfl (Nat.le_of_ble_eq_true rfl) (by decide) (by decide) h (fun r hr => m_X7_checkRange hl0 ⟨r, hr, hr⟩) (fun _ τ2 _ h => ?_)
  refine r_aload_n 0 dX7_deliver_7 rfl ?_
  refine r_getr fd_X7_50 rfl dX7_deliver_8 h (fun x3 h => ?_)
  refine r_aload_n 0 dX7_deliver_11 rfl ?_
  refine r_getr fd_X7_31 rfl dX7_deliver_12 h (fun x4 h => ?_)
  refine r_callV (K' := Y_X2_push) (R' := R_X2_push) (idx := 80) (n := 1) (b := x3) (as := [(4, x4)]) (rest := []) (C' := 0) (D' := 0) (cn := 2) rfl k0_X2_push kV_X2_push kl_X7_80 ⟨by decide, by decide⟩ dX7_deliver_15 rfl rfl (Nat.le_of_ble_eq_true rfl) (by decide) (by decide) rfl h (fun r hr => m_X2_push hl0 ⟨r, hr, hr⟩) (fun _ τ6 _ h => ?_)
  refine r_aload_n 0 dX7_deliver_18 rfl ?_
  refine r_getr fd_X7_31 rfl dX7_deliver_19 h (fun x7 h => ?_)
  refine r_iload_n 1 dX7_deliver_22 rfl ?_
  refine r_callV (K' := Y_X1_deliverFirst) (R' := R_X1_deliverFirst) (idx := 243) (n := 1) (b := x7) (as := [(0, a1)]) (rest := []) (C' := 0) (D' := 0) (cn := 1) rfl k0_X1_deliverFirst kV_X1_deliverFirst kl_X7_243 ⟨by decide, by decide⟩ dX7_deliver_23 rfl rfl (Nat.le_of_ble_eq_true rfl) (by decide) (by decide) rfl h (fun r hr => m_X1_deliverFirst hl0 ⟨r, hr, hr⟩) (fun x8 τ9 _ h => ?_)
  exact r_iret rfl dX7_deliver_26 h
theorem m_X7_deliver {g : zF} (hl0 : g.2.2.2.1.stackTraces = false) {Q : zR × zS → Prop} {a0 a1 : Int} {σ : zS} (h : zo (f_X7_deliver a0 a1 σ) Q) : zm g Y_X7_deliver R_X7_deliver [(4, a0), (0, a1)] σ Q := zm_of (by decide) rfl (Nat.le_of_ble_eq_true rfl) (t_X7_deliver hl0 h)


/- X7_exchange -/

set_option maxRecDepth 100000 in
set_option maxHeartbeats 4000000 in
theorem t_X7_exchange {g : zF} (hl0 : g.2.2.2.1.stackTraces = false) {Q : zR × zS → Prop}   {a0 a1 : Int} {σ : zS} (h : zo (f_X7_exchange  a0 a1 σ) Q) : zw g Y_X7_exchange R_X7_exchange 0 [(0, (4, a0)), (1, (0, a1))] [] σ 27 7320 Q := by
  unfold f_X7_exchange at h
  refine r_iload_n 1 dX7_exchange_0 rfl ?_
  refine r_iconst (v := 1) dX7_exchange_1 rfl rfl ?_
  refine r_bipush (v := 6) dX7_exchange_2 rfl rfl ?_
  refine r_callS (K' := Y_X7_checkRange) (R' := R_X7_checkRange) (idx := 72) (n := 3) (as := [(0, a1), (0, 1), (0, 6)]) (rest := []) (C' := 27) (D' := 7320) rfl k0_X7_checkRange wd_722 kl_X7_72 ⟨by decide, by decide⟩ dX7_exchange_4 rfl rfl (Nat.le_of_ble_eq_true rfl) (by decide) (by decide) h (fun r hr => m_X7_checkRange hl0 ⟨r, hr, hr⟩) (fun _ τ2 _ h => ?_)
  refine r_aload_n 0 dX7_exchange_7 rfl ?_
  refine r_getr fd_X7_50 rfl dX7_exchange_8 h (fun x3 h => ?_)
  refine r_aload_n 0 dX7_exchange_11 rfl ?_
  refine r_getr fd_X7_31 rfl dX7_exchange_12 h (fun x4 h => ?_)
  refine r_callV (K' := Y_X2_push) (R' := R_X2_push) (idx := 80) (n := 1) (b := x3) (as := [(4, x4)]) (rest := []) (C' := 0) (D' := 0) (cn := 2) rfl k0_X2_push kV_X2_push kl_X7_80 ⟨by decide, by decide⟩ dX7_exchange_15 rfl rfl (Nat.le_of_ble_eq_true rfl) (by decide) (by decide) rfl h (fun r hr => m_X2_push hl0 ⟨r, hr, hr⟩) (fun _ τ6 _ h => ?_)
  refine r_aload_n 0 dX7_exchange_18 rfl ?_
  refine r_getr fd_X7_31 rfl dX7_exchange_19 h (fun x7 h => ?_)
  refine r_iload_n 1 dX7_exchange_22 rfl ?_
  refine r_callV (K' := Y_X1_makeRounds) (R' := R_X1_makeRounds) (idx := 234) (n := 1) (b := x7) (as := [(0, a1)]) (rest := []) (C' := 0) (D' := 0) (cn := 1) rfl k0_X1_makeRounds kV_X1_makeRounds kl_X7_234 ⟨by decide, by decide⟩ dX7_exchange_23 rfl rfl (Nat.le_of_ble_eq_true rfl) (by decide) (by decide) rfl h (fun r hr => m_X1_makeRounds hl0 ⟨r, hr, hr⟩) (fun x8 τ9 _ h => ?_)
  exact r_iret rfl dX7_exchange_26 h
theorem m_X7_exchange {g : zF} (hl0 : g.2.2.2.1.stackTraces = false) {Q : zR × zS → Prop} {a0 a1 : Int} {σ : zS} (h : zo (f_X7_exchange a0 a1 σ) Q) : zm g Y_X7_exchange R_X7_exchange [(4, a0), (0, a1)] σ Q := zm_of (by decide) rfl (Nat.le_of_ble_eq_true rfl) (t_X7_exchange hl0 h)


/- X7_pass -/

set_option maxRecDepth 100000 in
set_option maxHeartbeats 4000000 in
theorem t_X7_pass {g : zF} (hl0 : g.2.2.2.1.stackTraces = false) {Q : zR × zS → Prop}   {a0 a1 : Int} {σ : zS} (h : zo (f_X7_pass  a0 a1 σ) Q) : zw g Y_X7_pass R_X7_pass 0 [(0, (4, a0)), (1, (0, a1))] [] σ 27 7320 Q := by
  unfold f_X7_pass at h
  refine r_iload_n 1 dX7_pass_0 rfl ?_
  refine r_iconst (v := 1) dX7_pass_1 rfl rfl ?_
  refine r_bipush (v := 99) dX7_pass_2 rfl rfl ?_
  refine r_callS (K' := Y_X7_checkRange) (R' := R_X7_checkRange) (idx := 72) (n := 3) (as := [(0, a1), (0, 1), (0, 99)]) (rest := []) (C' := 27) (D' := 7320) rfl k0_X7_checkRange wd_722 kl_X7_72 ⟨by decide, by decide⟩ dX7_pass_4 rfl rfl (Nat.le_of_ble_eq_true rfl) (by decide) (by decide) h (fun r hr => m_X7_checkRange hl0 ⟨r, hr, hr⟩) (fun _ τ2 _ h => ?_)
  refine r_aload_n 0 dX7_pass_7 rfl ?_
  refine r_getr fd_X7_50 rfl dX7_pass_8 h (fun x3 h => ?_)
  refine r_aload_n 0 dX7_pass_11 rfl ?_
  refine r_getr fd_X7_31 rfl dX7_pass_12 h (fun x4 h => ?_)
  refine r_callV (K' := Y_X2_push) (R' := R_X2_push) (idx := 80) (n := 1) (b := x3) (as := [(4, x4)]) (rest := []) (C' := 0) (D' := 0) (cn := 2) rfl k0_X2_push kV_X2_push kl_X7_80 ⟨by decide, by decide⟩ dX7_pass_15 rfl rfl (Nat.le_of_ble_eq_true rfl) (by decide) (by decide) rfl h (fun r hr => m_X2_push hl0 ⟨r, hr, hr⟩) (fun _ τ6 _ h => ?_)
  refine r_aload_n 0 dX7_pass_18 rfl ?_
  refine r_getr fd_X7_31 rfl dX7_pass_19 h (fun x7 h => ?_)
  refine r_iload_n 1 dX7_pass_22 rfl ?_
  refine r_callV (K' := Y_X1_letPass) (R' := R_X1_letPass) (idx := 237) (n := 1) (b := x7) (as := [(0, a1)]) (rest := []) (C' := 0) (D' := 0) (cn := 1) rfl k0_X1_letPass kV_X1_letPass kl_X7_237 ⟨by decide, by decide⟩ dX7_pass_23 rfl rfl (Nat.le_of_ble_eq_true rfl) (by decide) (by decide) rfl h (fun r hr => m_X1_letPass hl0 ⟨r, hr, hr⟩) (fun x8 τ9 _ h => ?_)
  exact r_iret rfl dX7_pass_26 h
theorem m_X7_pass {g : zF} (hl0 : g.2.2.2.1.stackTraces = false) {Q : zR × zS → Prop} {a0 a1 : Int} {σ : zS} (h : zo (f_X7_pass a0 a1 σ) Q) : zm g Y_X7_pass R_X7_pass [(4, a0), (0, a1)] σ Q := zm_of (by decide) rfl (Nat.le_of_ble_eq_true rfl) (t_X7_pass hl0 h)


/- X7_link -/

set_option maxRecDepth 100000 in
set_option maxHeartbeats 4000000 in
theorem t_X7_link_63 {g : zF} (hl0 : g.2.2.2.1.stackTraces = false) {Q : zR × zS → Prop}   {a0 a1 a2 a4 s0 : Int} {σ : zS} (h : zo (f_X7_link_63  a0 a1 a2 a4 s0 σ) Q) : zw g Y_X7_link R_X7_link 63 [(0, (4, a0)), (1, (0, a1)), (2, (0, a2)), (4, (0, a4))] [(0, s0)] σ 0 0 Q := by
  unfold f_X7_link_63 at h
  refine r_istore (L' := [(5, (0, s0)), (0, (4, a0)), (1, (0, a1)), (2, (0, a2)), (4, (0, a4))]) dX7_link_63 (by decide) rfl ?_
  refine r_aload_n 1 dX7_link_65 rfl ?_
  refine r_getr fd_X7_31 rfl dX7_link_66 h (fun x1 h => ?_)
  refine r_iload_n 2 dX7_link_69 rfl ?_
  refine r_iload_n 3 dX7_link_70 rfl ?_
  refine r_iload 0 dX7_link_71 rfl ?_
  refine r_callV (K' := Y_X1_putTrust) (R' := R_X1_putTrust) (idx := 259) (n := 3) (b := x1) (as := [(0, a1), (0, a2), (0, s0)]) (rest := []) (C' := 0) (D' := 0) (cn := 1) rfl k0_X1_putTrust kV_X1_putTrust kl_X7_259 ⟨by decide, by decide⟩ dX7_link_73 rfl rfl (Nat.le_of_ble_eq_true rfl) (by decide) (by decide) rfl h (fun r hr => m_X1_putTrust hl0 ⟨r, hr, hr⟩) (fun _ τ3 _ h => ?_)
  refine r_aload_n 1 dX7_link_76 rfl ?_
  refine r_getr fd_X7_31 rfl dX7_link_77 h (fun x4 h => ?_)
  refine r_iload_n 3 dX7_link_80 rfl ?_
  refine r_iload_n 2 dX7_link_81 rfl ?_
  refine r_iload 0 dX7_link_82 rfl ?_
  refine r_callV (K' := Y_X1_putTrust) (R' := R_X1_putTrust) (idx := 259) (n := 3) (b := x4) (as := [(0, a2), (0, a1), (0, s0)]) (rest := []) (C' := 0) (D' := 0) (cn := 1) rfl k0_X1_putTrust kV_X1_putTrust kl_X7_259 ⟨by decide, by decide⟩ dX7_link_84 rfl rfl (Nat.le_of_ble_eq_true rfl) (by decide) (by decide) rfl h (fun r hr => m_X1_putTrust hl0 ⟨r, hr, hr⟩) (fun _ τ6 _ h => ?_)
  refine r_iload 4 dX7_link_87 rfl ?_
  exact r_zret rfl dX7_link_89 h

set_option maxRecDepth 100000 in
set_option maxHeartbeats 4000000 in
theorem t_X7_link {g : zF} (hl0 : g.2.2.2.1.stackTraces = false) {Q : zR × zS → Prop}   {a0 a1 a2 a3 : Int} {σ : zS} (h : zo (f_X7_link  a0 a1 a2 a3 σ) Q) : zw g Y_X7_link R_X7_link 0 [(0, (4, a0)), (1, (0, a1)), (2, (0, a2)), (3, (0, a3))] [] σ 27 7320 Q := by
  unfold f_X7_link at h
  refine r_aload_n 0 dX7_link_0 rfl ?_
  refine r_iload_n 1 dX7_link_1 rfl ?_
  refine r_callV (K' := Y_X7_checkAgent) (R' := R_X7_checkAgent) (idx := 127) (n := 1) (b := a0) (as := [(0, a1)]) (rest := []) (C' := 27) (D' := 7320) (cn := 7) rfl k0_X7_checkAgent kV_X7_checkAgent kl_X7_127 ⟨by decide, by decide⟩ dX7_link_2 rfl rfl (Nat.le_of_ble_eq_true rfl) (by decide) (by decide) rfl h (fun r hr => m_X7_checkAgent hl0 ⟨r, hr, hr⟩) (fun _ τ2 _ h => ?_)
  refine r_aload_n 0 dX7_link_5 rfl ?_
  refine r_iload_n 2 dX7_link_6 rfl ?_
  refine r_callV (K' := Y_X7_checkAgent) (R' := R_X7_checkAgent) (idx := 127) (n := 1) (b := a0) (as := [(0, a2)]) (rest := []) (C' := 27) (D' := 7320) (cn := 7) rfl k0_X7_checkAgent kV_X7_checkAgent kl_X7_127 ⟨by decide, by decide⟩ dX7_link_7 rfl rfl (Nat.le_of_ble_eq_true rfl) (by decide) (by decide) rfl h (fun r hr => m_X7_checkAgent hl0 ⟨r, hr, hr⟩) (fun _ τ4 _ h => ?_)
  refine r_iload_n 1 dX7_link_10 rfl ?_
  refine r_iload_n 2 dX7_link_11 rfl ?_
  refine r_icmp_ne 26 dX7_link_12 (by decide) h (fun h => ?_) (fun h => ?_)
  · refine r_aload_n 0 dX7_link_26 rfl ?_
    refine r_getr fd_X7_50 rfl dX7_link_27 h (fun x5 h => ?_)
    refine r_aload_n 0 dX7_link_30 rfl ?_
    refine r_getr fd_X7_31 rfl dX7_link_31 h (fun x6 h => ?_)
    refine r_callV (K' := Y_X2_push) (R' := R_X2_push) (idx := 80) (n := 1) (b := x5) (as := [(4, x6)]) (rest := []) (C' := 0) (D' := 0) (cn := 2) rfl k0_X2_push kV_X2_push kl_X7_80 ⟨by decide, by decide⟩ dX7_link_34 rfl rfl (Nat.le_of_ble_eq_true rfl) (by decide) (by decide) rfl h (fun r hr => m_X2_push hl0 ⟨r, hr, hr⟩) (fun _ τ8 _ h => ?_)
    refine r_aload_n 0 dX7_link_37 rfl ?_
    refine r_getr fd_X7_31 rfl dX7_link_38 h (fun x9 h => ?_)
    refine r_iload_n 1 dX7_link_41 rfl ?_
    refine r_iload_n 2 dX7_link_42 rfl ?_
    refine r_callV (K' := Y_X1_isLinked) (R' := R_X1_isLinked) (idx := 134) (n := 2) (b := x9) (as := [(0, a1), (0, a2)]) (rest := []) (C' := 0) (D' := 0) (cn := 1) rfl k0_X1_isLinked kV_X1_isLinked kl_X7_134 ⟨by decide, by decide⟩ dX7_link_43 rfl rfl (Nat.le_of_ble_eq_true rfl) (by decide) (by decide) rfl h (fun r hr => m_X1_isLinked hl0 ⟨r, hr, hr⟩) (fun x10 τ11 _ h => ?_)
    refine r_istore (L' := [(4, (0, x10)), (0, (4, a0)), (1, (0, a1)), (2, (0, a2)), (3, (0, a3))]) dX7_link_46 (by decide) rfl ?_
    refine r_iload 0 dX7_link_48 rfl ?_
    refine r_iload_n 4 dX7_link_50 rfl ?_
    refine r_icmp_eq 87 dX7_link_51 (by decide) h (fun h => ?_) (fun h => ?_)
    · refine r_iload 0 dX7_link_87 rfl ?_
      exact r_zret rfl dX7_link_89 h
    · refine r_iload_n 4 dX7_link_54 rfl ?_
      refine r_if_eq 62 dX7_link_55 (by decide) h (fun h => ?_) (fun h => ?_)
      · refine r_iconst (v := (-1)) dX7_link_62 rfl rfl ?_
        refine r_weak (L' := [(0, (4, a0)), (1, (0, a1)), (2, (0, a2)), (4, (0, x10))]) [1, 2, 3, 0] rfl ?_
        refine r_room (C' := 0) (D' := 0) (by omega) (by omega) ?_
        exact t_X7_link_63 hl0    h
      · refine r_iconst (v := 5) dX7_link_58 rfl rfl ?_
        refine r_goto 63 dX7_link_59 (by decide) ?_
        refine r_weak (L' := [(0, (4, a0)), (1, (0, a1)), (2, (0, a2)), (4, (0, x10))]) [1, 2, 3, 0] rfl ?_
        refine r_room (C' := 0) (D' := 0) (by omega) (by omega) ?_
        exact t_X7_link_63 hl0    h
  · refine r_room (C' := 0) (D' := 0) (by omega) (by omega) ?_
    obtain ⟨r, h, -⟩ := h
    cases h
theorem m_X7_link {g : zF} (hl0 : g.2.2.2.1.stackTraces = false) {Q : zR × zS → Prop} {a0 a1 a2 a3 : Int} {σ : zS} (h : zo (f_X7_link a0 a1 a2 a3 σ) Q) : zm g Y_X7_link R_X7_link [(4, a0), (0, a1), (0, a2), (0, a3)] σ Q := zm_of (by decide) rfl (Nat.le_of_ble_eq_true rfl) (t_X7_link hl0 h)


/- X7_isRuleValue -/

set_option maxRecDepth 100000 in
set_option maxHeartbeats 4000000 in
theorem t_X7_isRuleValue {g : zF} (hl0 : g.2.2.2.1.stackTraces = false) {Q : zR × zS → Prop}   {a0 a1 : Int} {σ : zS} (h : zo (f_X7_isRuleValue  a0 a1 σ) Q) : zw g Y_X7_isRuleValue R_X7_isRuleValue 0 [(0, (0, a0)), (1, (0, a1))] [] σ 0 0 Q := by
  unfold f_X7_isRuleValue at h
  refine r_iload_n 0 dX7_isRuleValue_0 rfl ?_
  refine r_if_lt 31 dX7_isRuleValue_1 (by decide) h (fun h => ?_) (fun h => ?_)
  · refine r_iconst (v := 0) dX7_isRuleValue_31 rfl rfl ?_
    exact r_zretc (by decide) rfl dX7_isRuleValue_32 h
  · refine r_iload_n 0 dX7_isRuleValue_4 rfl ?_
    refine r_iconst (v := 5) dX7_isRuleValue_5 rfl rfl ?_
    refine r_icmp_ge 31 dX7_isRuleValue_6 (by decide) h (fun h => ?_) (fun h => ?_)
    · refine r_iconst (v := 0) dX7_isRuleValue_31 rfl rfl ?_
      exact r_zretc (by decide) rfl dX7_isRuleValue_32 h
    · refine r_iload_n 1 dX7_isRuleValue_9 rfl ?_
      refine r_gets (k := 0) (by decide) (Or.inl wd_1066) dX7_isRuleValue_10 ?_
      refine r_iload_n 0 dX7_isRuleValue_13 rfl ?_
      refine r_sald (k := 0) (by decide) dX7_isRuleValue_14 h (fun x1 h => ?_)
      refine r_icmp_lt 31 dX7_isRuleValue_15 (by decide) h (fun h => ?_) (fun h => ?_)
      · refine r_iconst (v := 0) dX7_isRuleValue_31 rfl rfl ?_
        exact r_zretc (by decide) rfl dX7_isRuleValue_32 h
      · refine r_iload_n 1 dX7_isRuleValue_18 rfl ?_
        refine r_gets (k := 1) (by decide) (Or.inl wd_1067) dX7_isRuleValue_19 ?_
        refine r_iload_n 0 dX7_isRuleValue_22 rfl ?_
        refine r_sald (k := 1) (by decide) dX7_isRuleValue_23 h (fun x2 h => ?_)
        refine r_icmp_gt 31 dX7_isRuleValue_24 (by decide) h (fun h => ?_) (fun h => ?_)
        · refine r_iconst (v := 0) dX7_isRuleValue_31 rfl rfl ?_
          exact r_zretc (by decide) rfl dX7_isRuleValue_32 h
        · refine r_iconst (v := 1) dX7_isRuleValue_27 rfl rfl ?_
          refine r_goto 32 dX7_isRuleValue_28 (by decide) ?_
          exact r_zretc (by decide) rfl dX7_isRuleValue_32 h
theorem m_X7_isRuleValue {g : zF} (hl0 : g.2.2.2.1.stackTraces = false) {Q : zR × zS → Prop} {a0 a1 : Int} {σ : zS} (h : zo (f_X7_isRuleValue a0 a1 σ) Q) : zm g Y_X7_isRuleValue R_X7_isRuleValue [(0, a0), (0, a1)] σ Q := zm_of (by decide) rfl (Nat.le_of_ble_eq_true rfl) (t_X7_isRuleValue hl0 h)


/- X7_setRule -/

set_option maxRecDepth 100000 in
set_option maxHeartbeats 4000000 in
theorem t_X7_setRule {g : zF} (hl0 : g.2.2.2.1.stackTraces = false) {Q : zR × zS → Prop}   {a0 a1 a2 : Int} {σ : zS} (h : zo (f_X7_setRule  a0 a1 a2 σ) Q) : zw g Y_X7_setRule R_X7_setRule 0 [(0, (4, a0)), (1, (0, a1)), (2, (0, a2))] [] σ 27 7320 Q := by
  unfold f_X7_setRule at h
  refine r_iload_n 1 dX7_setRule_0 rfl ?_
  refine r_iload_n 2 dX7_setRule_1 rfl ?_
  refine r_callS (K' := Y_X7_isRuleValue) (R' := R_X7_isRuleValue) (idx := 264) (n := 2) (as := [(0, a1), (0, a2)]) (rest := []) (C' := 27) (D' := 7320) rfl k0_X7_isRuleValue wd_1064 kl_X7_264 ⟨by decide, by decide⟩ dX7_setRule_2 rfl rfl (Nat.le_of_ble_eq_true rfl) (by decide) (by decide) h (fun r hr => m_X7_isRuleValue hl0 ⟨r, hr, hr⟩) (fun x1 τ2 _ h => ?_)
  refine r_if_ne 19 dX7_setRule_5 (by decide) h (fun h => ?_) (fun h => ?_)
  · refine r_aload_n 0 dX7_setRule_19 rfl ?_
    refine r_getr fd_X7_50 rfl dX7_setRule_20 h (fun x3 h => ?_)
    refine r_aload_n 0 dX7_setRule_23 rfl ?_
    refine r_getr fd_X7_31 rfl dX7_setRule_24 h (fun x4 h => ?_)
    refine r_callV (K' := Y_X2_push) (R' := R_X2_push) (idx := 80) (n := 1) (b := x3) (as := [(4, x4)]) (rest := []) (C' := 0) (D' := 0) (cn := 2) rfl k0_X2_push kV_X2_push kl_X7_80 ⟨by decide, by decide⟩ dX7_setRule_27 rfl rfl (Nat.le_of_ble_eq_true rfl) (by decide) (by decide) rfl h (fun r hr => m_X2_push hl0 ⟨r, hr, hr⟩) (fun _ τ6 _ h => ?_)
    refine r_aload_n 0 dX7_setRule_30 rfl ?_
    refine r_getr fd_X7_31 rfl dX7_setRule_31 h (fun x7 h => ?_)
    refine r_iload_n 1 dX7_setRule_34 rfl ?_
    refine r_callV (K' := Y_X1_rule) (R' := R_X1_rule) (idx := 123) (n := 1) (b := x7) (as := [(0, a1)]) (rest := []) (C' := 0) (D' := 0) (cn := 1) rfl k0_X1_rule kV_X1_rule kl_X7_123 ⟨by decide, by decide⟩ dX7_setRule_35 rfl rfl (Nat.le_of_ble_eq_true rfl) (by decide) (by decide) rfl h (fun r hr => m_X1_rule hl0 ⟨r, hr, hr⟩) (fun x8 τ9 _ h => ?_)
    refine r_istore_n (L' := [(3, (0, x8)), (0, (4, a0)), (1, (0, a1)), (2, (0, a2))]) dX7_setRule_38 (by decide) rfl ?_
    refine r_aload_n 1 dX7_setRule_39 rfl ?_
    refine r_getr fd_X7_31 rfl dX7_setRule_40 h (fun x10 h => ?_)
    refine r_iload_n 2 dX7_setRule_43 rfl ?_
    refine r_iload_n 3 dX7_setRule_44 rfl ?_
    refine r_callV (K' := Y_X1_putRule) (R' := R_X1_putRule) (idx := 269) (n := 2) (b := x10) (as := [(0, a1), (0, a2)]) (rest := []) (C' := 0) (D' := 0) (cn := 1) rfl k0_X1_putRule kV_X1_putRule kl_X7_269 ⟨by decide, by decide⟩ dX7_setRule_45 rfl rfl (Nat.le_of_ble_eq_true rfl) (by decide) (by decide) rfl h (fun r hr => m_X1_putRule hl0 ⟨r, hr, hr⟩) (fun _ τ12 _ h => ?_)
    refine r_iload_n 0 dX7_setRule_48 rfl ?_
    exact r_iret rfl dX7_setRule_49 h
  · refine r_room (C' := 0) (D' := 0) (by omega) (by omega) ?_
    obtain ⟨r, h, -⟩ := h
    cases h
theorem m_X7_setRule {g : zF} (hl0 : g.2.2.2.1.stackTraces = false) {Q : zR × zS → Prop} {a0 a1 a2 : Int} {σ : zS} (h : zo (f_X7_setRule a0 a1 a2 σ) Q) : zm g Y_X7_setRule R_X7_setRule [(4, a0), (0, a1), (0, a2)] σ Q := zm_of (by decide) rfl (Nat.le_of_ble_eq_true rfl) (t_X7_setRule hl0 h)


/- X7_forget -/

set_option maxRecDepth 100000 in
set_option maxHeartbeats 4000000 in
theorem t_X7_forget {g : zF} (hl0 : g.2.2.2.1.stackTraces = false) {Q : zR × zS → Prop}   {a0 a1 a2 : Int} {σ : zS} (h : zo (f_X7_forget  a0 a1 a2 σ) Q) : zw g Y_X7_forget R_X7_forget 0 [(0, (4, a0)), (1, (0, a1)), (2, (0, a2))] [] σ 27 7320 Q := by
  unfold f_X7_forget at h
  refine r_aload_n 0 dX7_forget_0 rfl ?_
  refine r_iload_n 1 dX7_forget_1 rfl ?_
  refine r_callV (K' := Y_X7_checkAgent) (R' := R_X7_checkAgent) (idx := 127) (n := 1) (b := a0) (as := [(0, a1)]) (rest := []) (C' := 27) (D' := 7320) (cn := 7) rfl k0_X7_checkAgent kV_X7_checkAgent kl_X7_127 ⟨by decide, by decide⟩ dX7_forget_2 rfl rfl (Nat.le_of_ble_eq_true rfl) (by decide) (by decide) rfl h (fun r hr => m_X7_checkAgent hl0 ⟨r, hr, hr⟩) (fun _ τ2 _ h => ?_)
  refine r_aload_n 0 dX7_forget_5 rfl ?_
  refine r_iload_n 2 dX7_forget_6 rfl ?_
  refine r_callV (K' := Y_X7_checkWay) (R' := R_X7_checkWay) (idx := 167) (n := 1) (b := a0) (as := [(0, a2)]) (rest := []) (C' := 27) (D' := 7320) (cn := 7) rfl k0_X7_checkWay kV_X7_checkWay kl_X7_167 ⟨by decide, by decide⟩ dX7_forget_7 rfl rfl (Nat.le_of_ble_eq_true rfl) (by decide) (by decide) rfl h (fun r hr => m_X7_checkWay hl0 ⟨r, hr, hr⟩) (fun _ τ4 _ h => ?_)
  refine r_aload_n 0 dX7_forget_10 rfl ?_
  refine r_getr fd_X7_50 rfl dX7_forget_11 h (fun x5 h => ?_)
  refine r_aload_n 0 dX7_forget_14 rfl ?_
  refine r_getr fd_X7_31 rfl dX7_forget_15 h (fun x6 h => ?_)
  refine r_callV (K' := Y_X2_push) (R' := R_X2_push) (idx := 80) (n := 1) (b := x5) (as := [(4, x6)]) (rest := []) (C' := 0) (D' := 0) (cn := 2) rfl k0_X2_push kV_X2_push kl_X7_80 ⟨by decide, by decide⟩ dX7_forget_18 rfl rfl (Nat.le_of_ble_eq_true rfl) (by decide) (by decide) rfl h (fun r hr => m_X2_push hl0 ⟨r, hr, hr⟩) (fun _ τ8 _ h => ?_)
  refine r_aload_n 0 dX7_forget_21 rfl ?_
  refine r_getr fd_X7_31 rfl dX7_forget_22 h (fun x9 h => ?_)
  refine r_iload_n 1 dX7_forget_25 rfl ?_
  refine r_callV (K' := Y_X1_listOf) (R' := R_X1_listOf) (idx := 144) (n := 1) (b := x9) (as := [(0, a1)]) (rest := []) (C' := 0) (D' := 0) (cn := 1) rfl k0_X1_listOf kV_X1_listOf kl_X7_144 ⟨by decide, by decide⟩ dX7_forget_26 rfl rfl (Nat.le_of_ble_eq_true rfl) (by decide) (by decide) rfl h (fun r hr => m_X1_listOf hl0 ⟨r, hr, hr⟩) (fun x10 τ11 _ h => ?_)
  refine r_iload_n 2 dX7_forget_29 rfl ?_
  refine r_iconst (v := (-1)) dX7_forget_30 rfl rfl ?_
  refine r_callV (K' := Y_X5_removeAll) (R' := R_X5_removeAll) (idx := 272) (n := 2) (b := x10) (as := [(0, a2), (0, (-1))]) (rest := []) (C' := 0) (D' := 0) (cn := 5) rfl k0_X5_removeAll kV_X5_removeAll kl_X7_272 ⟨by decide, by decide⟩ dX7_forget_31 rfl rfl (Nat.le_of_ble_eq_true rfl) (by decide) (by decide) rfl h (fun r hr => m_X5_removeAll hl0 ⟨r, hr, hr⟩) (fun x12 τ13 _ h => ?_)
  exact r_iret rfl dX7_forget_34 h
theorem m_X7_forget {g : zF} (hl0 : g.2.2.2.1.stackTraces = false) {Q : zR × zS → Prop} {a0 a1 a2 : Int} {σ : zS} (h : zo (f_X7_forget a0 a1 a2 σ) Q) : zm g Y_X7_forget R_X7_forget [(4, a0), (0, a1), (0, a2)] σ Q := zm_of (by decide) rfl (Nat.le_of_ble_eq_true rfl) (t_X7_forget hl0 h)


/- X7_cleanse -/

set_option maxRecDepth 100000 in
set_option maxHeartbeats 4000000 in
theorem t_X7_cleanse_20 {g : zF} (hl0 : g.2.2.2.1.stackTraces = false) {Q : zR × zS → Prop}   : ∀ (n : Nat) (a0 a1 a2 a3 : Int) (σ : zS), zo (f_X7_cleanse_20  n a0 a1 a2 a3 σ) Q → zw g Y_X7_cleanse R_X7_cleanse 20 [(0, (4, a0)), (1, (0, a1)), (2, (0, a2)), (3, (0, a3))] [] σ 0 0 Q := by
  intro n
  induction n with
  | zero => intro a0 a1 a2 a3 σ h; obtain ⟨r, h, -⟩ := h; cases h
  | succ n ih =>
    intro a0 a1 a2 a3 σ h
    unfold f_X7_cleanse_20 at h
    refine r_iload_n 3 dX7_cleanse_20 rfl ?_
    refine r_aload_n 0 dX7_cleanse_21 rfl ?_
    refine r_getr fd_X7_31 rfl dX7_cleanse_22 h (fun x1 h => ?_)
    refine r_getr fd_X7_106 rfl dX7_cleanse_25 h (fun x2 h => ?_)
    refine r_getf fd_X7_91 rfl dX7_cleanse_28 h (fun x3 h => ?_)
    refine r_icmp_ge 62 dX7_cleanse_31 (by decide) h (fun h => ?_) (fun h => ?_)
    · refine r_iload_n 2 dX7_cleanse_62 rfl ?_
      exact r_iret rfl dX7_cleanse_63 h
    · refine r_iload_n 2 dX7_cleanse_34 rfl ?_
      refine r_aload_n 0 dX7_cleanse_35 rfl ?_
      refine r_getr fd_X7_31 rfl dX7_cleanse_36 h (fun x4 h => ?_)
      refine r_iload_n 1 dX7_cleanse_39 rfl ?_
      refine r_callV (K' := Y_X1_listOf) (R' := R_X1_listOf) (idx := 144) (n := 1) (b := x4) (as := [(0, a1)]) (rest := [(0, a2)]) (C' := 0) (D' := 0) (cn := 1) rfl k0_X1_listOf kV_X1_listOf kl_X7_144 ⟨by decide, by decide⟩ dX7_cleanse_40 rfl rfl (Nat.le_of_ble_eq_true rfl) (by decide) (by decide) rfl h (fun r hr => m_X1_listOf hl0 ⟨r, hr, hr⟩) (fun x5 τ6 _ h => ?_)
      refine r_iload_n 3 dX7_cleanse_43 rfl ?_
      refine r_aload_n 0 dX7_cleanse_44 rfl ?_
      refine r_iload_n 1 dX7_cleanse_45 rfl ?_
      refine r_iload_n 3 dX7_cleanse_46 rfl ?_
      refine r_iconst (v := 1) dX7_cleanse_47 rfl rfl ?_
      refine r_callV (K' := Y_X7_originsOf) (R' := R_X7_originsOf) (idx := 177) (n := 3) (b := a0) (as := [(0, a1), (0, a3), (0, 1)]) (rest := [(0, a3), (4, x5), (0, a2)]) (C' := 0) (D' := 0) (cn := 7) rfl k0_X7_originsOf kV_X7_originsOf kl_X7_177 ⟨by decide, by decide⟩ dX7_cleanse_48 rfl rfl (Nat.le_of_ble_eq_true rfl) (by decide) (by decide) rfl h (fun r hr => m_X7_originsOf hl0 ⟨r, hr, hr⟩) (fun x7 τ8 _ h => ?_)
      refine r_callV (K' := Y_X5_removeAll) (R' := R_X5_removeAll) (idx := 272) (n := 2) (b := x5) (as := [(0, a3), (0, x7)]) (rest := [(0, a2)]) (C' := 0) (D' := 0) (cn := 5) rfl k0_X5_removeAll kV_X5_removeAll kl_X7_272 ⟨by decide, by decide⟩ dX7_cleanse_51 rfl rfl (Nat.le_of_ble_eq_true rfl) (by decide) (by decide) rfl h (fun r hr => m_X5_removeAll hl0 ⟨r, hr, hr⟩) (fun x9 τ10 _ h => ?_)
      refine r_iadd dX7_cleanse_54 ?_
      refine r_istore_n (L' := [(2, (0, (w32 (a2 + x9)))), (0, (4, a0)), (1, (0, a1)), (3, (0, a3))]) dX7_cleanse_55 (by decide) rfl ?_
      refine r_iinc (L' := [(3, (0, (w32 (a3 + 1)))), (2, (0, (w32 (a2 + x9)))), (0, (4, a0)), (1, (0, a1))]) 3 dX7_cleanse_56 rfl (by decide) rfl ?_
      refine r_goto 20 dX7_cleanse_59 (by decide) ?_
      refine r_weak (L' := [(0, (4, a0)), (1, (0, a1)), (2, (0, (w32 (a2 + x9)))), (3, (0, (w32 (a3 + 1))))]) [2, 3, 1, 0] rfl ?_
      refine r_room (C' := 0) (D' := 0) (by omega) (by omega) ?_
      exact ih _ _ _ _ _ h

set_option maxRecDepth 100000 in
set_option maxHeartbeats 4000000 in
theorem t_X7_cleanse {g : zF} (hl0 : g.2.2.2.1.stackTraces = false) {Q : zR × zS → Prop}   {a0 a1 : Int} {σ : zS} (h : zo (f_X7_cleanse  a0 a1 σ) Q) : zw g Y_X7_cleanse R_X7_cleanse 0 [(0, (4, a0)), (1, (0, a1))] [] σ 27 7320 Q := by
  unfold f_X7_cleanse at h
  refine r_aload_n 0 dX7_cleanse_0 rfl ?_
  refine r_iload_n 1 dX7_cleanse_1 rfl ?_
  refine r_callV (K' := Y_X7_checkAgent) (R' := R_X7_checkAgent) (idx := 127) (n := 1) (b := a0) (as := [(0, a1)]) (rest := []) (C' := 27) (D' := 7320) (cn := 7) rfl k0_X7_checkAgent kV_X7_checkAgent kl_X7_127 ⟨by decide, by decide⟩ dX7_cleanse_2 rfl rfl (Nat.le_of_ble_eq_true rfl) (by decide) (by decide) rfl h (fun r hr => m_X7_checkAgent hl0 ⟨r, hr, hr⟩) (fun _ τ2 _ h => ?_)
  refine r_aload_n 0 dX7_cleanse_5 rfl ?_
  refine r_getr fd_X7_50 rfl dX7_cleanse_6 h (fun x3 h => ?_)
  refine r_aload_n 0 dX7_cleanse_9 rfl ?_
  refine r_getr fd_X7_31 rfl dX7_cleanse_10 h (fun x4 h => ?_)
  refine r_callV (K' := Y_X2_push) (R' := R_X2_push) (idx := 80) (n := 1) (b := x3) (as := [(4, x4)]) (rest := []) (C' := 0) (D' := 0) (cn := 2) rfl k0_X2_push kV_X2_push kl_X7_80 ⟨by decide, by decide⟩ dX7_cleanse_13 rfl rfl (Nat.le_of_ble_eq_true rfl) (by decide) (by decide) rfl h (fun r hr => m_X2_push hl0 ⟨r, hr, hr⟩) (fun _ τ6 _ h => ?_)
  refine r_iconst (v := 0) dX7_cleanse_16 rfl rfl ?_
  refine r_istore_n (L' := [(2, (0, 0)), (0, (4, a0)), (1, (0, a1))]) dX7_cleanse_17 (by decide) rfl ?_
  refine r_iconst (v := 0) dX7_cleanse_18 rfl rfl ?_
  refine r_istore_n (L' := [(3, (0, 0)), (2, (0, 0)), (0, (4, a0)), (1, (0, a1))]) dX7_cleanse_19 (by decide) rfl ?_
  refine r_weak (L' := [(0, (4, a0)), (1, (0, a1)), (2, (0, 0)), (3, (0, 0))]) [2, 3, 1, 0] rfl ?_
  refine r_room (C' := 0) (D' := 0) (by omega) (by omega) ?_
  exact t_X7_cleanse_20 hl0    zFU _ _ _ _ _ h
theorem m_X7_cleanse {g : zF} (hl0 : g.2.2.2.1.stackTraces = false) {Q : zR × zS → Prop} {a0 a1 : Int} {σ : zS} (h : zo (f_X7_cleanse a0 a1 σ) Q) : zm g Y_X7_cleanse R_X7_cleanse [(4, a0), (0, a1)] σ Q := zm_of (by decide) rfl (Nat.le_of_ble_eq_true rfl) (t_X7_cleanse hl0 h)


/- L_draw -/

set_option maxRecDepth 100000 in
set_option maxHeartbeats 4000000 in
theorem t_L_draw {g : zF} (hl0 : g.2.2.2.1.stackTraces = false) {Q : zR × zS → Prop}   {a0 a1 a2 : Int} {σ : zS} (h : zo (f_L_draw g  a0 a1 a2 σ) Q) : zw g Y_L_draw R_L_draw 0 [(0, (6, a0)), (1, (0, a1)), (2, (0, a2))] [] σ 0 0 Q := by
  unfold f_L_draw at h
  refine r_iload_n 1 dL_draw_0 rfl ?_
  refine r_aload_n 0 dL_draw_1 rfl ?_
  refine r_scrlenJ dL_draw_2 h (fun x1 h => ?_)
  refine r_icmp_ge 12 dL_draw_3 (by decide) h (fun h => ?_) (fun h => ?_)
  · refine r_iconst (v := 0) dL_draw_12 rfl rfl ?_
    refine r_ldcI (z := 2147483647) wd_335 (by decide +kernel) dL_draw_13 ?_
    refine r_iand dL_draw_15 ?_
    refine r_iload_n 2 dL_draw_16 rfl ?_
    refine r_irem dL_draw_17 h (fun h => ?_)
    exact r_iret rfl dL_draw_18 h
  · refine r_aload_n 0 dL_draw_6 rfl ?_
    refine r_iload_n 1 dL_draw_7 rfl ?_
    refine r_scrldJ dL_draw_8 h (fun x2 h => ?_)
    refine r_goto 13 dL_draw_9 (by decide) ?_
    refine r_ldcI (z := 2147483647) wd_335 (by decide +kernel) dL_draw_13 ?_
    refine r_iand dL_draw_15 ?_
    refine r_iload_n 2 dL_draw_16 rfl ?_
    refine r_irem dL_draw_17 h (fun h => ?_)
    exact r_iret rfl dL_draw_18 h
theorem m_L_draw {g : zF} (hl0 : g.2.2.2.1.stackTraces = false) {Q : zR × zS → Prop} {a0 a1 a2 : Int} {σ : zS} (h : zo (f_L_draw g a0 a1 a2 σ) Q) : zm g Y_L_draw R_L_draw [(6, a0), (0, a1), (0, a2)] σ Q := zm_of (by decide) rfl (Nat.le_of_ble_eq_true rfl) (t_L_draw hl0 h)


/- J0_coder_7d493 -/

set_option maxRecDepth 100000 in
set_option maxHeartbeats 4000000 in
theorem t_J0_coder_7d493 {g : zF} (hl0 : g.2.2.2.1.stackTraces = false) {Q : zR × zS → Prop}   {a0 : Int} {σ : zS} (h : zo (f_J0_coder_7d493  a0 σ) Q) : zw g Y_J0_coder_7d493 R_J0_coder_7d493 0 [(0, (4, a0))] [] σ 0 0 Q := by
  unfold f_J0_coder_7d493 at h
  refine r_compact wd_354 dJ0_coder_7d493_0 ?_
  refine r_if_eq 13 dJ0_coder_7d493_3 (by decide) h (fun h => ?_) (fun h => ?_)
  · obtain ⟨r, h, -⟩ := h
    cases h
  · refine r_aload_n 0 dJ0_coder_7d493_6 rfl ?_
    refine r_getf fd_J0_15 rfl dJ0_coder_7d493_7 h (fun x1 h => ?_)
    refine r_goto 14 dJ0_coder_7d493_10 (by decide) ?_
    exact r_yret rfl dJ0_coder_7d493_14 h
theorem m_J0_coder_7d493 {g : zF} (hl0 : g.2.2.2.1.stackTraces = false) {Q : zR × zS → Prop} {a0 : Int} {σ : zS} (h : zo (f_J0_coder_7d493 a0 σ) Q) : zm g Y_J0_coder_7d493 R_J0_coder_7d493 [(4, a0)] σ Q := zm_of (by decide) rfl (Nat.le_of_ble_eq_true rfl) (t_J0_coder_7d493 hl0 h)


/- J0_length_8abf5 -/

set_option maxRecDepth 100000 in
set_option maxHeartbeats 4000000 in
theorem t_J0_length_8abf5 {g : zF} (hl0 : g.2.2.2.1.stackTraces = false) {Q : zR × zS → Prop}   {a0 : Int} {σ : zS} (h : zo (f_J0_length_8abf5  a0 σ) Q) : zw g Y_J0_length_8abf5 R_J0_length_8abf5 0 [(0, (4, a0))] [] σ 0 0 Q := by
  unfold f_J0_length_8abf5 at h
  refine r_aload_n 0 dJ0_length_8abf5_0 rfl ?_
  refine r_getr fd_J0_9 rfl dJ0_length_8abf5_1 h (fun x1 h => ?_)
  refine r_alen dJ0_length_8abf5_4 h (fun x2 h => ?_)
  refine r_aload_n 0 dJ0_length_8abf5_5 rfl ?_
  refine r_callV (K' := Y_J0_coder_7d493) (R' := R_J0_coder_7d493) (idx := 335) (n := 0) (b := a0) (as := []) (rest := [(0, x2)]) (C' := 0) (D' := 0) (cn := 9) rfl k0_J0_coder_7d493 kV_J0_coder_7d493 kl_J0_335 ⟨by decide, by decide⟩ dJ0_length_8abf5_6 rfl rfl (Nat.le_of_ble_eq_true rfl) (by decide) (by decide) rfl h (fun r hr => m_J0_coder_7d493 hl0 ⟨r, hr, hr⟩) (fun x3 τ4 _ h => ?_)
  refine r_ishr dJ0_length_8abf5_9 ?_
  exact r_iret rfl dJ0_length_8abf5_10 h
theorem m_J0_length_8abf5 {g : zF} (hl0 : g.2.2.2.1.stackTraces = false) {Q : zR × zS → Prop} {a0 : Int} {σ : zS} (h : zo (f_J0_length_8abf5 a0 σ) Q) : zm g Y_J0_length_8abf5 R_J0_length_8abf5 [(4, a0)] σ Q := zm_of (by decide) rfl (Nat.le_of_ble_eq_true rfl) (t_J0_length_8abf5 hl0 h)


/- J0_isLatin1_aae02 -/

set_option maxRecDepth 100000 in
set_option maxHeartbeats 4000000 in
theorem t_J0_isLatin1_aae02 {g : zF} (hl0 : g.2.2.2.1.stackTraces = false) {Q : zR × zS → Prop}   {a0 : Int} {σ : zS} (h : zo (f_J0_isLatin1_aae02  a0 σ) Q) : zw g Y_J0_isLatin1_aae02 R_J0_isLatin1_aae02 0 [(0, (4, a0))] [] σ 0 0 Q := by
  unfold f_J0_isLatin1_aae02 at h
  refine r_compact wd_354 dJ0_isLatin1_aae02_0 ?_
  refine r_if_eq 17 dJ0_isLatin1_aae02_3 (by decide) h (fun h => ?_) (fun h => ?_)
  · obtain ⟨r, h, -⟩ := h
    cases h
  · refine r_aload_n 0 dJ0_isLatin1_aae02_6 rfl ?_
    refine r_getf fd_J0_15 rfl dJ0_isLatin1_aae02_7 h (fun x1 h => ?_)
    refine r_if_ne 17 dJ0_isLatin1_aae02_10 (by decide) h (fun h => ?_) (fun h => ?_)
    · obtain ⟨r, h, -⟩ := h
      cases h
    · refine r_iconst (v := 1) dJ0_isLatin1_aae02_13 rfl rfl ?_
      refine r_goto 18 dJ0_isLatin1_aae02_14 (by decide) ?_
      exact r_zretc (by decide) rfl dJ0_isLatin1_aae02_18 h
theorem m_J0_isLatin1_aae02 {g : zF} (hl0 : g.2.2.2.1.stackTraces = false) {Q : zR × zS → Prop} {a0 : Int} {σ : zS} (h : zo (f_J0_isLatin1_aae02 a0 σ) Q) : zm g Y_J0_isLatin1_aae02 R_J0_isLatin1_aae02 [(4, a0)] σ Q := zm_of (by decide) rfl (Nat.le_of_ble_eq_true rfl) (t_J0_isLatin1_aae02 hl0 h)


/- J1_charAt_3b067 -/

set_option maxRecDepth 100000 in
set_option maxHeartbeats 4000000 in
theorem t_J1_charAt_3b067 {g : zF} (hl0 : g.2.2.2.1.stackTraces = false) {Q : zR × zS → Prop}   {a0 a1 : Int} {σ : zS} (h : zo (f_J1_charAt_3b067  a0 a1 σ) Q) : zw g Y_J1_charAt_3b067 R_J1_charAt_3b067 0 [(0, (4, a0)), (1, (0, a1))] [] σ 0 0 Q := by
  unfold f_J1_charAt_3b067 at h
  refine r_iload_n 1 dJ1_charAt_3b067_0 rfl ?_
  refine r_aload_n 0 dJ1_charAt_3b067_1 rfl ?_
  refine r_alen dJ1_charAt_3b067_2 h (fun x1 h => ?_)
  refine r_ckJ ck_J1_9 rfl ⟨by decide, by decide⟩ (Nat.le_of_ble_eq_true rfl) dJ1_charAt_3b067_3 h (fun h => ?_)
  refine r_aload_n 0 dJ1_charAt_3b067_6 rfl ?_
  refine r_iload_n 1 dJ1_charAt_3b067_7 rfl ?_
  refine r_bald dJ1_charAt_3b067_8 h (fun x2 h => ?_)
  refine r_sipush (v := 255) dJ1_charAt_3b067_9 rfl rfl ?_
  refine r_iand dJ1_charAt_3b067_12 ?_
  refine r_i2cJ dJ1_charAt_3b067_13 h (fun h => ?_)
  exact r_cret rfl dJ1_charAt_3b067_14 h
theorem m_J1_charAt_3b067 {g : zF} (hl0 : g.2.2.2.1.stackTraces = false) {Q : zR × zS → Prop} {a0 a1 : Int} {σ : zS} (h : zo (f_J1_charAt_3b067 a0 a1 σ) Q) : zm g Y_J1_charAt_3b067 R_J1_charAt_3b067 [(4, a0), (0, a1)] σ Q := zm_of (by decide) rfl (Nat.le_of_ble_eq_true rfl) (t_J1_charAt_3b067 hl0 h)


/- J0_charAt_5068e -/

set_option maxRecDepth 100000 in
set_option maxHeartbeats 4000000 in
theorem t_J0_charAt_5068e {g : zF} (hl0 : g.2.2.2.1.stackTraces = false) {Q : zR × zS → Prop}   {a0 a1 : Int} {σ : zS} (h : zo (f_J0_charAt_5068e  a0 a1 σ) Q) : zw g Y_J0_charAt_5068e R_J0_charAt_5068e 0 [(0, (4, a0)), (1, (0, a1))] [] σ 0 0 Q := by
  unfold f_J0_charAt_5068e at h
  refine r_aload_n 0 dJ0_charAt_5068e_0 rfl ?_
  refine r_callV (K' := Y_J0_isLatin1_aae02) (R' := R_J0_isLatin1_aae02) (idx := 492) (n := 0) (b := a0) (as := []) (rest := []) (C' := 0) (D' := 0) (cn := 9) rfl k0_J0_isLatin1_aae02 kV_J0_isLatin1_aae02 kl_J0_492 ⟨by decide, by decide⟩ dJ0_charAt_5068e_1 rfl rfl (Nat.le_of_ble_eq_true rfl) (by decide) (by decide) rfl h (fun r hr => m_J0_isLatin1_aae02 hl0 ⟨r, hr, hr⟩) (fun x1 τ2 _ h => ?_)
  refine r_if_eq 16 dJ0_charAt_5068e_4 (by decide) h (fun h => ?_) (fun h => ?_)
  · obtain ⟨r, h, -⟩ := h
    cases h
  · refine r_aload_n 0 dJ0_charAt_5068e_7 rfl ?_
    refine r_getr fd_J0_9 rfl dJ0_charAt_5068e_8 h (fun x3 h => ?_)
    refine r_iload_n 1 dJ0_charAt_5068e_11 rfl ?_
    refine r_callS (K' := Y_J1_charAt_3b067) (R' := R_J1_charAt_3b067) (idx := 495) (n := 2) (as := [(4, x3), (0, a1)]) (rest := []) (C' := 0) (D' := 0) rfl k0_J1_charAt_3b067 wd_631 kl_J0_495 ⟨by decide, by decide⟩ dJ0_charAt_5068e_12 rfl rfl (Nat.le_of_ble_eq_true rfl) (by decide) (by decide) h (fun r hr => m_J1_charAt_3b067 hl0 ⟨r, hr, hr⟩) (fun x4 τ5 _ h => ?_)
    exact r_cret rfl dJ0_charAt_5068e_15 h
theorem m_J0_charAt_5068e {g : zF} (hl0 : g.2.2.2.1.stackTraces = false) {Q : zR × zS → Prop} {a0 a1 : Int} {σ : zS} (h : zo (f_J0_charAt_5068e a0 a1 σ) Q) : zm g Y_J0_charAt_5068e R_J0_charAt_5068e [(4, a0), (0, a1)] σ Q := zm_of (by decide) rfl (Nat.le_of_ble_eq_true rfl) (t_J0_charAt_5068e hl0 h)


/- L_four -/

set_option maxRecDepth 100000 in
set_option maxHeartbeats 4000000 in
theorem t_L_four_34 {g : zF} (hl0 : g.2.2.2.1.stackTraces = false) {Q : zR × zS → Prop} (r4 : Int → Int → Int → Int → zS → zFn) (hr4 : ∀ b0 b1 b2 b3 τ, zo (r4 b0 b1 b2 b3 τ) Q → zw g Y_L_four R_L_four 4 [(0, (4, b0)), (1, (0, b1)), (2, (0, b2)), (3, (0, b3))] [] τ 0 0 Q) {a0 a1 a3 s0 s1 : Int} {σ : zS} (h : zo (f_L_four_34 r4 a0 a1 a3 s0 s1 σ) Q) : zw g Y_L_four R_L_four 34 [(0, (4, a0)), (1, (0, a1)), (3, (0, a3))] [(0, s1), (0, s0)] σ 0 0 Q := by
  unfold f_L_four_34 at h
  refine r_ior dL_four_34 ?_
  refine r_istore_n (L' := [(2, (0, (zor s0 s1))), (0, (4, a0)), (1, (0, a1)), (3, (0, a3))]) dL_four_35 (by decide) rfl ?_
  refine r_iinc (L' := [(3, (0, (w32 (a3 + 1)))), (2, (0, (zor s0 s1))), (0, (4, a0)), (1, (0, a1))]) 3 dL_four_36 rfl (by decide) rfl ?_
  refine r_goto 4 dL_four_39 (by decide) ?_
  refine r_weak (L' := [(0, (4, a0)), (1, (0, a1)), (2, (0, (zor s0 s1))), (3, (0, (w32 (a3 + 1))))]) [2, 3, 1, 0] rfl ?_
  refine r_room (C' := 0) (D' := 0) (by omega) (by omega) ?_
  exact hr4 _ _ _ _ _ h

set_option maxRecDepth 100000 in
set_option maxHeartbeats 4000000 in
theorem t_L_four_4 {g : zF} (hl0 : g.2.2.2.1.stackTraces = false) {Q : zR × zS → Prop}   : ∀ (n : Nat) (a0 a1 a2 a3 : Int) (σ : zS), zo (f_L_four_4  n a0 a1 a2 a3 σ) Q → zw g Y_L_four R_L_four 4 [(0, (4, a0)), (1, (0, a1)), (2, (0, a2)), (3, (0, a3))] [] σ 0 0 Q := by
  intro n
  induction n with
  | zero => intro a0 a1 a2 a3 σ h; obtain ⟨r, h, -⟩ := h; cases h
  | succ n ih =>
    intro a0 a1 a2 a3 σ h
    unfold f_L_four_4 at h
    refine r_iload_n 3 dL_four_4 rfl ?_
    refine r_iconst (v := 4) dL_four_5 rfl rfl ?_
    refine r_icmp_ge 42 dL_four_6 (by decide) h (fun h => ?_) (fun h => ?_)
    · refine r_iload_n 2 dL_four_42 rfl ?_
      exact r_iret rfl dL_four_43 h
    · refine r_iload_n 2 dL_four_9 rfl ?_
      refine r_bipush (v := 8) dL_four_10 rfl rfl ?_
      refine r_ishl dL_four_12 ?_
      refine r_iload_n 1 dL_four_13 rfl ?_
      refine r_iload_n 3 dL_four_14 rfl ?_
      refine r_iadd dL_four_15 ?_
      refine r_aload_n 0 dL_four_16 rfl ?_
      refine r_callV (K' := Y_J0_length_8abf5) (R' := R_J0_length_8abf5) (idx := 8) (n := 0) (b := a0) (as := []) (rest := [(0, (w32 (a1 + a3))), (0, (zshl a2 8))]) (C' := 0) (D' := 0) (cn := 9) rfl k0_J0_length_8abf5 kV_J0_length_8abf5 kl_L_8 ⟨by decide, by decide⟩ dL_four_17 rfl rfl (Nat.le_of_ble_eq_true rfl) (by decide) (by decide) rfl h (fun r hr => m_J0_length_8abf5 hl0 ⟨r, hr, hr⟩) (fun x1 τ2 _ h => ?_)
      refine r_icmp_ge 33 dL_four_20 (by decide) h (fun h => ?_) (fun h => ?_)
      · refine r_iconst (v := 0) dL_four_33 rfl rfl ?_
        refine r_weak (L' := [(0, (4, a0)), (1, (0, a1)), (3, (0, a3))]) [0, 1, 3] rfl ?_
        refine r_room (C' := 0) (D' := 0) (by omega) (by omega) ?_
        exact t_L_four_34 hl0  (f_L_four_4  n) (fun b0 b1 b2 b3 τ h => ih b0 b1 b2 b3 τ h) h
      · refine r_aload_n 0 dL_four_23 rfl ?_
        refine r_iload_n 1 dL_four_24 rfl ?_
        refine r_iload_n 3 dL_four_25 rfl ?_
        refine r_iadd dL_four_26 ?_
        refine r_callV (K' := Y_J0_charAt_5068e) (R' := R_J0_charAt_5068e) (idx := 14) (n := 1) (b := a0) (as := [(0, (w32 (a1 + a3)))]) (rest := [(0, (zshl a2 8))]) (C' := 0) (D' := 0) (cn := 9) rfl k0_J0_charAt_5068e kV_J0_charAt_5068e kl_L_14 ⟨by decide, by decide⟩ dL_four_27 rfl rfl (Nat.le_of_ble_eq_true rfl) (by decide) (by decide) rfl h (fun r hr => m_J0_charAt_5068e hl0 ⟨r, hr, hr⟩) (fun x3 τ4 _ h => ?_)
        refine r_goto 34 dL_four_30 (by decide) ?_
        refine r_weak (L' := [(0, (4, a0)), (1, (0, a1)), (3, (0, a3))]) [0, 1, 3] rfl ?_
        refine r_room (C' := 0) (D' := 0) (by omega) (by omega) ?_
        exact t_L_four_34 hl0  (f_L_four_4  n) (fun b0 b1 b2 b3 τ h => ih b0 b1 b2 b3 τ h) h

set_option maxRecDepth 100000 in
set_option maxHeartbeats 4000000 in
theorem t_L_four {g : zF} (hl0 : g.2.2.2.1.stackTraces = false) {Q : zR × zS → Prop}   {a0 a1 : Int} {σ : zS} (h : zo (f_L_four  a0 a1 σ) Q) : zw g Y_L_four R_L_four 0 [(0, (4, a0)), (1, (0, a1))] [] σ 0 0 Q := by
  unfold f_L_four at h
  refine r_iconst (v := 0) dL_four_0 rfl rfl ?_
  refine r_istore_n (L' := [(2, (0, 0)), (0, (4, a0)), (1, (0, a1))]) dL_four_1 (by decide) rfl ?_
  refine r_iconst (v := 0) dL_four_2 rfl rfl ?_
  refine r_istore_n (L' := [(3, (0, 0)), (2, (0, 0)), (0, (4, a0)), (1, (0, a1))]) dL_four_3 (by decide) rfl ?_
  refine r_weak (L' := [(0, (4, a0)), (1, (0, a1)), (2, (0, 0)), (3, (0, 0))]) [2, 3, 1, 0] rfl ?_
  refine r_room (C' := 0) (D' := 0) (by omega) (by omega) ?_
  exact t_L_four_4 hl0    zFU _ _ _ _ _ h
theorem m_L_four {g : zF} (hl0 : g.2.2.2.1.stackTraces = false) {Q : zR × zS → Prop} {a0 a1 : Int} {σ : zS} (h : zo (f_L_four a0 a1 σ) Q) : zm g Y_L_four R_L_four [(4, a0), (0, a1)] σ Q := zm_of (by decide) rfl (Nat.le_of_ble_eq_true rfl) (t_L_four hl0 h)


/- L_feed -/

set_option maxRecDepth 100000 in
set_option maxHeartbeats 4000000 in
theorem t_L_feed_16 {g : zF} (hl0 : g.2.2.2.1.stackTraces = false) {Q : zR × zS → Prop} (r4 : Int → Int → Int → Int → zS → zFn) (hr4 : ∀ b0 b1 b2 b3 τ, zo (r4 b0 b1 b2 b3 τ) Q → zw g Y_L_feed R_L_feed 4 [(0, (4, b0)), (1, (4, b1)), (2, (0, b2)), (3, (0, b3))] [] τ 0 0 Q) {a0 a1 a3 : Int} {σ : zS} (h : zo (f_L_feed_16 r4 a0 a1 a3 σ) Q) : zw g Y_L_feed R_L_feed 16 [(0, (4, a0)), (1, (4, a1)), (3, (0, a3))] [] σ 0 0 Q := by
  unfold f_L_feed_16 at h
  refine r_aload_n 0 dL_feed_16 rfl ?_
  refine r_aload_n 1 dL_feed_17 rfl ?_
  refine r_iload_n 2 dL_feed_18 rfl ?_
  refine r_callS (K' := Y_L_four) (R' := R_L_four) (idx := 18) (n := 2) (as := [(4, a1), (0, a3)]) (rest := [(4, a0)]) (C' := 0) (D' := 0) rfl k0_L_four wd_620 kl_L_18 ⟨by decide, by decide⟩ dL_feed_19 rfl rfl (Nat.le_of_ble_eq_true rfl) (by decide) (by decide) h (fun r hr => m_L_four hl0 ⟨r, hr, hr⟩) (fun x1 τ2 _ h => ?_)
  refine r_aload_n 1 dL_feed_22 rfl ?_
  refine r_iload_n 2 dL_feed_23 rfl ?_
  refine r_iconst (v := 4) dL_feed_24 rfl rfl ?_
  refine r_iadd dL_feed_25 ?_
  refine r_callS (K' := Y_L_four) (R' := R_L_four) (idx := 18) (n := 2) (as := [(4, a1), (0, (w32 (a3 + 4)))]) (rest := [(0, x1), (4, a0)]) (C' := 0) (D' := 0) rfl k0_L_four wd_620 kl_L_18 ⟨by decide, by decide⟩ dL_feed_26 rfl rfl (Nat.le_of_ble_eq_true rfl) (by decide) (by decide) h (fun r hr => m_L_four hl0 ⟨r, hr, hr⟩) (fun x3 τ4 _ h => ?_)
  refine r_aload_n 1 dL_feed_29 rfl ?_
  refine r_iload_n 2 dL_feed_30 rfl ?_
  refine r_bipush (v := 8) dL_feed_31 rfl rfl ?_
  refine r_iadd dL_feed_33 ?_
  refine r_callS (K' := Y_L_four) (R' := R_L_four) (idx := 18) (n := 2) (as := [(4, a1), (0, (w32 (a3 + 8)))]) (rest := [(0, x3), (0, x1), (4, a0)]) (C' := 0) (D' := 0) rfl k0_L_four wd_620 kl_L_18 ⟨by decide, by decide⟩ dL_feed_34 rfl rfl (Nat.le_of_ble_eq_true rfl) (by decide) (by decide) h (fun r hr => m_L_four hl0 ⟨r, hr, hr⟩) (fun x5 τ6 _ h => ?_)
  refine r_aload_n 1 dL_feed_37 rfl ?_
  refine r_iload_n 2 dL_feed_38 rfl ?_
  refine r_bipush (v := 12) dL_feed_39 rfl rfl ?_
  refine r_iadd dL_feed_41 ?_
  refine r_callS (K' := Y_L_four) (R' := R_L_four) (idx := 18) (n := 2) (as := [(4, a1), (0, (w32 (a3 + 12)))]) (rest := [(0, x5), (0, x3), (0, x1), (4, a0)]) (C' := 0) (D' := 0) rfl k0_L_four wd_620 kl_L_18 ⟨by decide, by decide⟩ dL_feed_42 rfl rfl (Nat.le_of_ble_eq_true rfl) (by decide) (by decide) h (fun r hr => m_L_four hl0 ⟨r, hr, hr⟩) (fun x7 τ8 _ h => ?_)
  refine r_aload_n 1 dL_feed_45 rfl ?_
  refine r_iload_n 2 dL_feed_46 rfl ?_
  refine r_bipush (v := 16) dL_feed_47 rfl rfl ?_
  refine r_iadd dL_feed_49 ?_
  refine r_callS (K' := Y_L_four) (R' := R_L_four) (idx := 18) (n := 2) (as := [(4, a1), (0, (w32 (a3 + 16)))]) (rest := [(0, x7), (0, x5), (0, x3), (0, x1), (4, a0)]) (C' := 0) (D' := 0) rfl k0_L_four wd_620 kl_L_18 ⟨by decide, by decide⟩ dL_feed_50 rfl rfl (Nat.le_of_ble_eq_true rfl) (by decide) (by decide) h (fun r hr => m_L_four hl0 ⟨r, hr, hr⟩) (fun x9 τ10 _ h => ?_)
  refine r_callV (K' := Y_X7_append) (R' := R_X7_append) (idx := 24) (n := 5) (b := a0) (as := [(0, x1), (0, x3), (0, x5), (0, x7), (0, x9)]) (rest := []) (C' := 0) (D' := 0) (cn := 7) rfl k0_X7_append kV_X7_append kl_L_24 ⟨by decide, by decide⟩ dL_feed_53 rfl rfl (Nat.le_of_ble_eq_true rfl) (by decide) (by decide) rfl h (fun r hr => m_X7_append hl0 ⟨r, hr, hr⟩) (fun x11 τ12 _ h => ?_)
  refine r_istore_n (L' := [(2, (0, x11)), (0, (4, a0)), (1, (4, a1)), (3, (0, a3))]) dL_feed_56 (by decide) rfl ?_
  refine r_iinc (L' := [(3, (0, (w32 (a3 + 20)))), (2, (0, x11)), (0, (4, a0)), (1, (4, a1))]) 3 dL_feed_57 rfl (by decide) rfl ?_
  refine r_goto 4 dL_feed_60 (by decide) ?_
  refine r_weak (L' := [(0, (4, a0)), (1, (4, a1)), (2, (0, x11)), (3, (0, (w32 (a3 + 20))))]) [2, 3, 1, 0] rfl ?_
  refine r_room (C' := 0) (D' := 0) (by omega) (by omega) ?_
  exact hr4 _ _ _ _ _ h

set_option maxRecDepth 100000 in
set_option maxHeartbeats 4000000 in
theorem t_L_feed_63 {g : zF} (hl0 : g.2.2.2.1.stackTraces = false) {Q : zR × zS → Prop}   {a0 a1 a2 : Int} {σ : zS} (h : zo (f_L_feed_63  a0 a1 a2 σ) Q) : zw g Y_L_feed R_L_feed 63 [(0, (4, a0)), (1, (4, a1)), (2, (0, a2))] [] σ 0 0 Q := by
  unfold f_L_feed_63 at h
  refine r_aload_n 0 dL_feed_63 rfl ?_
  refine r_iload_n 2 dL_feed_64 rfl ?_
  refine r_aload_n 1 dL_feed_65 rfl ?_
  refine r_callV (K' := Y_J0_length_8abf5) (R' := R_J0_length_8abf5) (idx := 8) (n := 0) (b := a1) (as := []) (rest := [(0, a2), (4, a0)]) (C' := 0) (D' := 0) (cn := 9) rfl k0_J0_length_8abf5 kV_J0_length_8abf5 kl_L_8 ⟨by decide, by decide⟩ dL_feed_66 rfl rfl (Nat.le_of_ble_eq_true rfl) (by decide) (by decide) rfl h (fun r hr => m_J0_length_8abf5 hl0 ⟨r, hr, hr⟩) (fun x1 τ2 _ h => ?_)
  refine r_mmin mq_L_30 ⟨by decide, Nat.le_of_ble_eq_true rfl⟩ rfl dL_feed_69 ?_
  refine r_callV (K' := Y_X7_truncate) (R' := R_X7_truncate) (idx := 36) (n := 1) (b := a0) (as := [(0, (min a2 x1))]) (rest := []) (C' := 0) (D' := 0) (cn := 7) rfl k0_X7_truncate kV_X7_truncate kl_L_36 ⟨by decide, by decide⟩ dL_feed_72 rfl rfl (Nat.le_of_ble_eq_true rfl) (by decide) (by decide) rfl h (fun r hr => m_X7_truncate hl0 ⟨r, hr, hr⟩) (fun _ τ4 _ h => ?_)
  exact r_vret rfl dL_feed_75 h

set_option maxRecDepth 100000 in
set_option maxHeartbeats 4000000 in
theorem t_L_feed_4 {g : zF} (hl0 : g.2.2.2.1.stackTraces = false) {Q : zR × zS → Prop}   : ∀ (n : Nat) (a0 a1 a2 a3 : Int) (σ : zS), zo (f_L_feed_4  n a0 a1 a2 a3 σ) Q → zw g Y_L_feed R_L_feed 4 [(0, (4, a0)), (1, (4, a1)), (2, (0, a2)), (3, (0, a3))] [] σ 0 0 Q := by
  intro n
  induction n with
  | zero => intro a0 a1 a2 a3 σ h; obtain ⟨r, h, -⟩ := h; cases h
  | succ n ih =>
    intro a0 a1 a2 a3 σ h
    unfold f_L_feed_4 at h
    refine r_iload_n 3 dL_feed_4 rfl ?_
    refine r_aload_n 1 dL_feed_5 rfl ?_
    refine r_callV (K' := Y_J0_length_8abf5) (R' := R_J0_length_8abf5) (idx := 8) (n := 0) (b := a1) (as := []) (rest := [(0, a3)]) (C' := 0) (D' := 0) (cn := 9) rfl k0_J0_length_8abf5 kV_J0_length_8abf5 kl_L_8 ⟨by decide, by decide⟩ dL_feed_6 rfl rfl (Nat.le_of_ble_eq_true rfl) (by decide) (by decide) rfl h (fun r hr => m_J0_length_8abf5 hl0 ⟨r, hr, hr⟩) (fun x1 τ2 _ h => ?_)
    refine r_icmp_lt 16 dL_feed_9 (by decide) h (fun h => ?_) (fun h => ?_)
    · refine r_weak (L' := [(0, (4, a0)), (1, (4, a1)), (3, (0, a3))]) [0, 1, 3] rfl ?_
      refine r_room (C' := 0) (D' := 0) (by omega) (by omega) ?_
      exact t_L_feed_16 hl0  (f_L_feed_4  n) (fun b0 b1 b2 b3 τ h => ih b0 b1 b2 b3 τ h) h
    · refine r_iload_n 3 dL_feed_12 rfl ?_
      refine r_if_ne 63 dL_feed_13 (by decide) h (fun h => ?_) (fun h => ?_)
      · refine r_weak (L' := [(0, (4, a0)), (1, (4, a1)), (2, (0, a2))]) [0, 1, 2] rfl ?_
        refine r_room (C' := 0) (D' := 0) (by omega) (by omega) ?_
        exact t_L_feed_63 hl0    h
      · refine r_weak (L' := [(0, (4, a0)), (1, (4, a1)), (3, (0, a3))]) [0, 1, 3] rfl ?_
        refine r_room (C' := 0) (D' := 0) (by omega) (by omega) ?_
        exact t_L_feed_16 hl0  (f_L_feed_4  n) (fun b0 b1 b2 b3 τ h => ih b0 b1 b2 b3 τ h) h

set_option maxRecDepth 100000 in
set_option maxHeartbeats 4000000 in
theorem t_L_feed {g : zF} (hl0 : g.2.2.2.1.stackTraces = false) {Q : zR × zS → Prop}   {a0 a1 : Int} {σ : zS} (h : zo (f_L_feed  a0 a1 σ) Q) : zw g Y_L_feed R_L_feed 0 [(0, (4, a0)), (1, (4, a1))] [] σ 0 0 Q := by
  unfold f_L_feed at h
  refine r_iconst (v := 0) dL_feed_0 rfl rfl ?_
  refine r_istore_n (L' := [(2, (0, 0)), (0, (4, a0)), (1, (4, a1))]) dL_feed_1 (by decide) rfl ?_
  refine r_iconst (v := 0) dL_feed_2 rfl rfl ?_
  refine r_istore_n (L' := [(3, (0, 0)), (2, (0, 0)), (0, (4, a0)), (1, (4, a1))]) dL_feed_3 (by decide) rfl ?_
  refine r_weak (L' := [(0, (4, a0)), (1, (4, a1)), (2, (0, 0)), (3, (0, 0))]) [2, 3, 1, 0] rfl ?_
  refine r_room (C' := 0) (D' := 0) (by omega) (by omega) ?_
  exact t_L_feed_4 hl0    zFU _ _ _ _ _ h
theorem m_L_feed {g : zF} (hl0 : g.2.2.2.1.stackTraces = false) {Q : zR × zS → Prop} {a0 a1 : Int} {σ : zS} (h : zo (f_L_feed a0 a1 σ) Q) : zm g Y_L_feed R_L_feed [(4, a0), (4, a1)] σ Q := zm_of (by decide) rfl (Nat.le_of_ble_eq_true rfl) (t_L_feed hl0 h)

