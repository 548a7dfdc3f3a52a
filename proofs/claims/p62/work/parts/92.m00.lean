/- X0_init -/

set_option maxRecDepth 100000 in
set_option maxHeartbeats 4000000 in
theorem t_X0_init {g : zF} (hl0 : g.2.2.2.1.stackTraces = false) {Q : zR × zS → Prop}   {a0 a1 : Int} {σ : zS} (h : zo (f_X0_init  a0 a1 σ) Q) : zw g Y_X0_init R_X0_init 0 [(0, (4, a0)), (1, (0, a1))] [] σ 1 1224 Q := by
  unfold f_X0_init at h
  refine r_aload_n 0 dX0_init_0 rfl ?_
  refine r_objinit oi_X0_3 ⟨by decide, Nat.le_of_ble_eq_true rfl⟩ dX0_init_1 h (fun h => ?_)
  refine r_aload_n 0 dX0_init_4 rfl ?_
  refine r_iload_n 1 dX0_init_5 rfl ?_
  refine r_if_ge 13 dX0_init_6 (by decide) h (fun h => ?_) (fun h => ?_)
  · refine r_iload_n 1 dX0_init_13 rfl ?_
    refine r_newa2 (C' := 0) (D' := 0) (N := 1224) wd_128 dX0_init_14 (by decide) (by decide) (by decide) h (fun x1 τ2 h => ?_)
    refine r_putr fd_X0_9 fp_X0_init_9 dX0_init_16 h (fun τ3 h => ?_)
    exact r_vret rfl dX0_init_19 h
  · refine r_room (C' := 1) (D' := 0) (by omega) (by omega) ?_
    refine r_iconst (v := 0) dX0_init_9 rfl rfl ?_
    refine r_goto 14 dX0_init_10 (by decide) ?_
    refine r_newa2 (C' := 0) (D' := 0) (N := 0) wd_128 dX0_init_14 (by decide) (by decide) (by decide) h (fun x4 τ5 h => ?_)
    refine r_putr fd_X0_9 fp_X0_init_9 dX0_init_16 h (fun τ6 h => ?_)
    exact r_vret rfl dX0_init_19 h
theorem m_X0_init {g : zF} (hl0 : g.2.2.2.1.stackTraces = false) {Q : zR × zS → Prop} {a0 a1 : Int} {σ : zS} (h : zo (f_X0_init a0 a1 σ) Q) : zm g Y_X0_init R_X0_init [(4, a0), (0, a1)] σ Q := zm_of (by decide) rfl (Nat.le_of_ble_eq_true rfl) (t_X0_init hl0 h)


/- X0_at -/

set_option maxRecDepth 100000 in
set_option maxHeartbeats 4000000 in
theorem t_X0_at {g : zF} (hl0 : g.2.2.2.1.stackTraces = false) {Q : zR × zS → Prop}   {a0 a1 : Int} {σ : zS} (h : zo (f_X0_at  a0 a1 σ) Q) : zw g Y_X0_at R_X0_at 0 [(0, (4, a0)), (1, (0, a1))] [] σ 0 0 Q := by
  unfold f_X0_at at h
  refine r_iload_n 1 dX0_at_0 rfl ?_
  refine r_if_lt 34 dX0_at_1 (by decide) h (fun h => ?_) (fun h => ?_)
  · refine r_iconst (v := (-1)) dX0_at_34 rfl rfl ?_
    exact r_iret rfl dX0_at_35 h
  · refine r_iload_n 1 dX0_at_4 rfl ?_
    refine r_aload_n 0 dX0_at_5 rfl ?_
    refine r_getf fd_X0_15 rfl dX0_at_6 h (fun x1 h => ?_)
    refine r_icmp_ge 34 dX0_at_9 (by decide) h (fun h => ?_) (fun h => ?_)
    · refine r_iconst (v := (-1)) dX0_at_34 rfl rfl ?_
      exact r_iret rfl dX0_at_35 h
    · refine r_iload_n 1 dX0_at_12 rfl ?_
      refine r_aload_n 0 dX0_at_13 rfl ?_
      refine r_getr fd_X0_9 rfl dX0_at_14 h (fun x2 h => ?_)
      refine r_alen dX0_at_17 h (fun x3 h => ?_)
      refine r_icmp_ge 34 dX0_at_18 (by decide) h (fun h => ?_) (fun h => ?_)
      · refine r_iconst (v := (-1)) dX0_at_34 rfl rfl ?_
        exact r_iret rfl dX0_at_35 h
      · refine r_aload_n 0 dX0_at_21 rfl ?_
        refine r_getr fd_X0_9 rfl dX0_at_22 h (fun x4 h => ?_)
        refine r_iload_n 1 dX0_at_25 rfl ?_
        refine r_bald dX0_at_26 h (fun x5 h => ?_)
        refine r_sipush (v := 255) dX0_at_27 rfl rfl ?_
        refine r_iand dX0_at_30 ?_
        refine r_goto 35 dX0_at_31 (by decide) ?_
        exact r_iret rfl dX0_at_35 h
theorem m_X0_at {g : zF} (hl0 : g.2.2.2.1.stackTraces = false) {Q : zR × zS → Prop} {a0 a1 : Int} {σ : zS} (h : zo (f_X0_at a0 a1 σ) Q) : zm g Y_X0_at R_X0_at [(4, a0), (0, a1)] σ Q := zm_of (by decide) rfl (Nat.le_of_ble_eq_true rfl) (t_X0_at hl0 h)


/- X0_add -/

set_option maxRecDepth 100000 in
set_option maxHeartbeats 4000000 in
theorem t_X0_add {g : zF} (hl0 : g.2.2.2.1.stackTraces = false) {Q : zR × zS → Prop}   {a0 a1 : Int} {σ : zS} (h : zo (f_X0_add  a0 a1 σ) Q) : zw g Y_X0_add R_X0_add 0 [(0, (4, a0)), (1, (0, a1))] [] σ 0 0 Q := by
  unfold f_X0_add at h
  refine r_aload_n 0 dX0_add_0 rfl ?_
  refine r_getf fd_X0_15 rfl dX0_add_1 h (fun x1 h => ?_)
  refine r_if_lt 40 dX0_add_4 (by decide) h (fun h => ?_) (fun h => ?_)
  · exact r_vret rfl dX0_add_40 h
  · refine r_aload_n 0 dX0_add_7 rfl ?_
    refine r_getf fd_X0_15 rfl dX0_add_8 h (fun x2 h => ?_)
    refine r_aload_n 0 dX0_add_11 rfl ?_
    refine r_getr fd_X0_9 rfl dX0_add_12 h (fun x3 h => ?_)
    refine r_alen dX0_add_15 h (fun x4 h => ?_)
    refine r_icmp_ge 40 dX0_add_16 (by decide) h (fun h => ?_) (fun h => ?_)
    · exact r_vret rfl dX0_add_40 h
    · refine r_aload_n 0 dX0_add_19 rfl ?_
      refine r_getr fd_X0_9 rfl dX0_add_20 h (fun x5 h => ?_)
      refine r_aload_n 0 dX0_add_23 rfl ?_
      refine r_getf fd_X0_15 rfl dX0_add_24 h (fun x6 h => ?_)
      refine r_iload_n 1 dX0_add_27 rfl ?_
      refine r_i2b dX0_add_28 ?_
      refine r_bast dX0_add_29 h (fun τ7 h => ?_)
      refine r_aload_n 0 dX0_add_30 rfl ?_
      refine r_dup dX0_add_31 rfl ?_
      refine r_getf fd_X0_15 rfl dX0_add_32 h (fun x8 h => ?_)
      refine r_iconst (v := 1) dX0_add_35 rfl rfl ?_
      refine r_iadd dX0_add_36 ?_
      refine r_putf fd_X0_15 fp_X0_add_15 dX0_add_37 h (fun τ9 h => ?_)
      exact r_vret rfl dX0_add_40 h
theorem m_X0_add {g : zF} (hl0 : g.2.2.2.1.stackTraces = false) {Q : zR × zS → Prop} {a0 a1 : Int} {σ : zS} (h : zo (f_X0_add a0 a1 σ) Q) : zm g Y_X0_add R_X0_add [(4, a0), (0, a1)] σ Q := zm_of (by decide) rfl (Nat.le_of_ble_eq_true rfl) (t_X0_add hl0 h)


/- X0_addFour -/

set_option maxRecDepth 100000 in
set_option maxHeartbeats 4000000 in
theorem t_X0_addFour {g : zF} (hl0 : g.2.2.2.1.stackTraces = false) {Q : zR × zS → Prop}   {a0 a1 : Int} {σ : zS} (h : zo (f_X0_addFour  a0 a1 σ) Q) : zw g Y_X0_addFour R_X0_addFour 0 [(0, (4, a0)), (1, (0, a1))] [] σ 0 0 Q := by
  unfold f_X0_addFour at h
  refine r_aload_n 0 dX0_addFour_0 rfl ?_
  refine r_iload_n 1 dX0_addFour_1 rfl ?_
  refine r_bipush (v := 24) dX0_addFour_2 rfl rfl ?_
  refine r_ishr dX0_addFour_4 ?_
  refine r_callV (K' := Y_X0_add) (R' := R_X0_add) (idx := 19) (n := 1) (b := a0) (as := [(0, (zshr a1 24))]) (rest := []) (C' := 0) (D' := 0) (cn := 0) rfl k0_X0_add kV_X0_add kl_X0_19 ⟨by decide, by decide⟩ dX0_addFour_5 rfl rfl (Nat.le_of_ble_eq_true rfl) (by decide) (by decide) rfl h (fun r hr => m_X0_add hl0 ⟨r, hr, hr⟩) (fun _ τ2 _ h => ?_)
  refine r_aload_n 0 dX0_addFour_8 rfl ?_
  refine r_iload_n 1 dX0_addFour_9 rfl ?_
  refine r_bipush (v := 16) dX0_addFour_10 rfl rfl ?_
  refine r_ishr dX0_addFour_12 ?_
  refine r_callV (K' := Y_X0_add) (R' := R_X0_add) (idx := 19) (n := 1) (b := a0) (as := [(0, (zshr a1 16))]) (rest := []) (C' := 0) (D' := 0) (cn := 0) rfl k0_X0_add kV_X0_add kl_X0_19 ⟨by decide, by decide⟩ dX0_addFour_13 rfl rfl (Nat.le_of_ble_eq_true rfl) (by decide) (by decide) rfl h (fun r hr => m_X0_add hl0 ⟨r, hr, hr⟩) (fun _ τ4 _ h => ?_)
  refine r_aload_n 0 dX0_addFour_16 rfl ?_
  refine r_iload_n 1 dX0_addFour_17 rfl ?_
  refine r_bipush (v := 8) dX0_addFour_18 rfl rfl ?_
  refine r_ishr dX0_addFour_20 ?_
  refine r_callV (K' := Y_X0_add) (R' := R_X0_add) (idx := 19) (n := 1) (b := a0) (as := [(0, (zshr a1 8))]) (rest := []) (C' := 0) (D' := 0) (cn := 0) rfl k0_X0_add kV_X0_add kl_X0_19 ⟨by decide, by decide⟩ dX0_addFour_21 rfl rfl (Nat.le_of_ble_eq_true rfl) (by decide) (by decide) rfl h (fun r hr => m_X0_add hl0 ⟨r, hr, hr⟩) (fun _ τ6 _ h => ?_)
  refine r_aload_n 0 dX0_addFour_24 rfl ?_
  refine r_iload_n 1 dX0_addFour_25 rfl ?_
  refine r_callV (K' := Y_X0_add) (R' := R_X0_add) (idx := 19) (n := 1) (b := a0) (as := [(0, a1)]) (rest := []) (C' := 0) (D' := 0) (cn := 0) rfl k0_X0_add kV_X0_add kl_X0_19 ⟨by decide, by decide⟩ dX0_addFour_26 rfl rfl (Nat.le_of_ble_eq_true rfl) (by decide) (by decide) rfl h (fun r hr => m_X0_add hl0 ⟨r, hr, hr⟩) (fun _ τ8 _ h => ?_)
  exact r_vret rfl dX0_addFour_29 h
theorem m_X0_addFour {g : zF} (hl0 : g.2.2.2.1.stackTraces = false) {Q : zR × zS → Prop} {a0 a1 : Int} {σ : zS} (h : zo (f_X0_addFour a0 a1 σ) Q) : zm g Y_X0_addFour R_X0_addFour [(4, a0), (0, a1)] σ Q := zm_of (by decide) rfl (Nat.le_of_ble_eq_true rfl) (t_X0_addFour hl0 h)


/- X0_nameCode -/

set_option maxRecDepth 100000 in
set_option maxHeartbeats 4000000 in
theorem t_X0_nameCode_23 {g : zF} (hl0 : g.2.2.2.1.stackTraces = false) {Q : zR × zS → Prop}   : ∀ (n : Nat) (a0 a2 a4 a5 : Int) (σ : zS), zo (f_X0_nameCode_23  n a0 a2 a4 a5 σ) Q → zw g Y_X0_nameCode R_X0_nameCode 23 [(0, (4, a0)), (2, (0, a2)), (4, (0, a4)), (5, (0, a5))] [] σ 0 0 Q := by
  intro n
  induction n with
  | zero => intro a0 a2 a4 a5 σ h; obtain ⟨r, h, -⟩ := h; cases h
  | succ n ih =>
    intro a0 a2 a4 a5 σ h
    unfold f_X0_nameCode_23 at h
    refine r_iload 3 dX0_nameCode_23 rfl ?_
    refine r_iload_n 1 dX0_nameCode_25 rfl ?_
    refine r_icmp_ge 73 dX0_nameCode_26 (by decide) h (fun h => ?_) (fun h => ?_)
    · refine r_iload 2 dX0_nameCode_73 rfl ?_
      exact r_iret rfl dX0_nameCode_75 h
    · refine r_aload_n 0 dX0_nameCode_29 rfl ?_
      refine r_iload 3 dX0_nameCode_30 rfl ?_
      refine r_callV (K' := Y_X0_at) (R' := R_X0_at) (idx := 24) (n := 1) (b := a0) (as := [(0, a5)]) (rest := []) (C' := 0) (D' := 0) (cn := 0) rfl k0_X0_at kV_X0_at kl_X0_24 ⟨by decide, by decide⟩ dX0_nameCode_32 rfl rfl (Nat.le_of_ble_eq_true rfl) (by decide) (by decide) rfl h (fun r hr => m_X0_at hl0 ⟨r, hr, hr⟩) (fun x1 τ2 _ h => ?_)
      refine r_istore (L' := [(6, (0, x1)), (0, (4, a0)), (2, (0, a2)), (4, (0, a4)), (5, (0, a5))]) dX0_nameCode_35 (by decide) rfl ?_
      refine r_iload 0 dX0_nameCode_37 rfl ?_
      refine r_bipush (v := 97) dX0_nameCode_39 rfl rfl ?_
      refine r_icmp_lt 51 dX0_nameCode_41 (by decide) h (fun h => ?_) (fun h => ?_)
      · refine r_iconst (v := (-1)) dX0_nameCode_51 rfl rfl ?_
        exact r_iret rfl dX0_nameCode_52 h
      · refine r_iload 0 dX0_nameCode_44 rfl ?_
        refine r_bipush (v := 122) dX0_nameCode_46 rfl rfl ?_
        refine r_icmp_le 53 dX0_nameCode_48 (by decide) h (fun h => ?_) (fun h => ?_)
        · refine r_iload 3 dX0_nameCode_53 rfl ?_
          refine r_iconst (v := 5) dX0_nameCode_55 rfl rfl ?_
          refine r_ishl dX0_nameCode_56 ?_
          refine r_iload 0 dX0_nameCode_57 rfl ?_
          refine r_iadd dX0_nameCode_59 ?_
          refine r_bipush (v := 97) dX0_nameCode_60 rfl rfl ?_
          refine r_isub dX0_nameCode_62 ?_
          refine r_iconst (v := 1) dX0_nameCode_63 rfl rfl ?_
          refine r_iadd dX0_nameCode_64 ?_
          refine r_istore (L' := [(4, (0, (w32 ((w32 ((w32 ((zshl a4 5) + x1)) - 97)) + 1)))), (6, (0, x1)), (0, (4, a0)), (2, (0, a2)), (5, (0, a5))]) dX0_nameCode_65 (by decide) rfl ?_
          refine r_iinc (L' := [(5, (0, (w32 (a5 + 1)))), (4, (0, (w32 ((w32 ((w32 ((zshl a4 5) + x1)) - 97)) + 1)))), (6, (0, x1)), (0, (4, a0)), (2, (0, a2))]) 4 dX0_nameCode_67 rfl (by decide) rfl ?_
          refine r_goto 23 dX0_nameCode_70 (by decide) ?_
          refine r_weak (L' := [(0, (4, a0)), (2, (0, a2)), (4, (0, (w32 ((w32 ((w32 ((zshl a4 5) + x1)) - 97)) + 1)))), (5, (0, (w32 (a5 + 1))))]) [3, 4, 1, 0] rfl ?_
          refine r_room (C' := 0) (D' := 0) (by omega) (by omega) ?_
          exact ih _ _ _ _ _ h
        · refine r_iconst (v := (-1)) dX0_nameCode_51 rfl rfl ?_
          exact r_iret rfl dX0_nameCode_52 h

set_option maxRecDepth 100000 in
set_option maxHeartbeats 4000000 in
theorem t_X0_nameCode {g : zF} (hl0 : g.2.2.2.1.stackTraces = false) {Q : zR × zS → Prop}   {a0 a1 a2 : Int} {σ : zS} (h : zo (f_X0_nameCode  a0 a1 a2 σ) Q) : zw g Y_X0_nameCode R_X0_nameCode 0 [(0, (4, a0)), (1, (0, a1)), (2, (0, a2))] [] σ 0 0 Q := by
  unfold f_X0_nameCode at h
  refine r_iload_n 2 dX0_nameCode_0 rfl ?_
  refine r_iload_n 1 dX0_nameCode_1 rfl ?_
  refine r_isub dX0_nameCode_2 ?_
  refine r_istore_n (L' := [(3, (0, (w32 (a2 - a1)))), (0, (4, a0)), (1, (0, a1)), (2, (0, a2))]) dX0_nameCode_3 (by decide) rfl ?_
  refine r_iload_n 0 dX0_nameCode_4 rfl ?_
  refine r_iconst (v := 1) dX0_nameCode_5 rfl rfl ?_
  refine r_icmp_lt 15 dX0_nameCode_6 (by decide) h (fun h => ?_) (fun h => ?_)
  · refine r_iconst (v := (-1)) dX0_nameCode_15 rfl rfl ?_
    exact r_iret rfl dX0_nameCode_16 h
  · refine r_iload_n 0 dX0_nameCode_9 rfl ?_
    refine r_bipush (v := 6) dX0_nameCode_10 rfl rfl ?_
    refine r_icmp_le 17 dX0_nameCode_12 (by decide) h (fun h => ?_) (fun h => ?_)
    · refine r_iconst (v := 0) dX0_nameCode_17 rfl rfl ?_
      refine r_istore (L' := [(4, (0, 0)), (3, (0, (w32 (a2 - a1)))), (0, (4, a0)), (1, (0, a1)), (2, (0, a2))]) dX0_nameCode_18 (by decide) rfl ?_
      refine r_iload_n 3 dX0_nameCode_20 rfl ?_
      refine r_istore (L' := [(5, (0, a1)), (4, (0, 0)), (3, (0, (w32 (a2 - a1)))), (0, (4, a0)), (1, (0, a1)), (2, (0, a2))]) dX0_nameCode_21 (by decide) rfl ?_
      refine r_weak (L' := [(0, (4, a0)), (2, (0, a2)), (4, (0, 0)), (5, (0, a1))]) [3, 5, 1, 0] rfl ?_
      refine r_room (C' := 0) (D' := 0) (by omega) (by omega) ?_
      exact t_X0_nameCode_23 hl0    zFU _ _ _ _ _ h
    · refine r_iconst (v := (-1)) dX0_nameCode_15 rfl rfl ?_
      exact r_iret rfl dX0_nameCode_16 h
theorem m_X0_nameCode {g : zF} (hl0 : g.2.2.2.1.stackTraces = false) {Q : zR × zS → Prop} {a0 a1 a2 : Int} {σ : zS} (h : zo (f_X0_nameCode a0 a1 a2 σ) Q) : zm g Y_X0_nameCode R_X0_nameCode [(4, a0), (0, a1), (0, a2)] σ Q := zm_of (by decide) rfl (Nat.le_of_ble_eq_true rfl) (t_X0_nameCode hl0 h)


/- X3_init -/

set_option maxRecDepth 100000 in
set_option maxHeartbeats 4000000 in
theorem t_X3_init {g : zF} (hl0 : g.2.2.2.1.stackTraces = false) {Q : zR × zS → Prop}   {a0 : Int} {σ : zS} (h : zo (f_X3_init  a0 σ) Q) : zw g Y_X3_init R_X3_init 0 [(0, (4, a0))] [] σ 1 6 Q := by
  unfold f_X3_init at h
  refine r_aload_n 0 dX3_init_0 rfl ?_
  refine r_objinit oi_X3_3 ⟨by decide, Nat.le_of_ble_eq_true rfl⟩ dX3_init_1 h (fun h => ?_)
  refine r_aload_n 0 dX3_init_4 rfl ?_
  refine r_bipush (v := 6) dX3_init_5 rfl rfl ?_
  refine r_newa1 (C' := 0) (D' := 0) (N := 6) wd_165 dX3_init_7 (by decide) (by decide) (by decide) h (fun x1 τ2 h => ?_)
  refine r_putr fd_X3_9 fp_X3_init_9 dX3_init_9 h (fun τ3 h => ?_)
  exact r_vret rfl dX3_init_12 h
theorem m_X3_init {g : zF} (hl0 : g.2.2.2.1.stackTraces = false) {Q : zR × zS → Prop} {a0 : Int} {σ : zS} (h : zo (f_X3_init a0 σ) Q) : zm g Y_X3_init R_X3_init [(4, a0)] σ Q := zm_of (by decide) rfl (Nat.le_of_ble_eq_true rfl) (t_X3_init hl0 h)


/- X5_init -/

set_option maxRecDepth 100000 in
set_option maxHeartbeats 4000000 in
theorem t_X5_init {g : zF} (hl0 : g.2.2.2.1.stackTraces = false) {Q : zR × zS → Prop}   {a0 a1 : Int} {σ : zS} (h : zo (f_X5_init  a0 a1 σ) Q) : zw g Y_X5_init R_X5_init 0 [(0, (4, a0)), (1, (0, a1))] [] σ 1 800 Q := by
  unfold f_X5_init at h
  refine r_aload_n 0 dX5_init_0 rfl ?_
  refine r_objinit oi_X5_3 ⟨by decide, Nat.le_of_ble_eq_true rfl⟩ dX5_init_1 h (fun h => ?_)
  refine r_aload_n 0 dX5_init_4 rfl ?_
  refine r_iload_n 1 dX5_init_5 rfl ?_
  refine r_if_ge 13 dX5_init_6 (by decide) h (fun h => ?_) (fun h => ?_)
  · refine r_iload_n 1 dX5_init_13 rfl ?_
    refine r_bipush (v := 8) dX5_init_14 rfl rfl ?_
    refine r_imul dX5_init_16 ?_
    refine r_newa1 (C' := 0) (D' := 0) (N := 800) wd_165 dX5_init_17 (by decide) (by decide) (by decide) h (fun x1 τ2 h => ?_)
    refine r_putr fd_X5_9 fp_X5_init_9 dX5_init_19 h (fun τ3 h => ?_)
    exact r_vret rfl dX5_init_22 h
  · refine r_room (C' := 1) (D' := 0) (by omega) (by omega) ?_
    refine r_iconst (v := 0) dX5_init_9 rfl rfl ?_
    refine r_goto 17 dX5_init_10 (by decide) ?_
    refine r_newa1 (C' := 0) (D' := 0) (N := 0) wd_165 dX5_init_17 (by decide) (by decide) (by decide) h (fun x4 τ5 h => ?_)
    refine r_putr fd_X5_9 fp_X5_init_9 dX5_init_19 h (fun τ6 h => ?_)
    exact r_vret rfl dX5_init_22 h
theorem m_X5_init {g : zF} (hl0 : g.2.2.2.1.stackTraces = false) {Q : zR × zS → Prop} {a0 a1 : Int} {σ : zS} (h : zo (f_X5_init a0 a1 σ) Q) : zm g Y_X5_init R_X5_init [(4, a0), (0, a1)] σ Q := zm_of (by decide) rfl (Nat.le_of_ble_eq_true rfl) (t_X5_init hl0 h)


/- X1_putRule -/

set_option maxRecDepth 100000 in
set_option maxHeartbeats 4000000 in
theorem t_X1_putRule {g : zF} (hl0 : g.2.2.2.1.stackTraces = false) {Q : zR × zS → Prop}   {a0 a1 a2 : Int} {σ : zS} (h : zo (f_X1_putRule  a0 a1 a2 σ) Q) : zw g Y_X1_putRule R_X1_putRule 0 [(0, (4, a0)), (1, (0, a1)), (2, (0, a2))] [] σ 0 0 Q := by
  unfold f_X1_putRule at h
  refine r_iload_n 1 dX1_putRule_0 rfl ?_
  refine r_if_lt 20 dX1_putRule_1 (by decide) h (fun h => ?_) (fun h => ?_)
  · exact r_vret rfl dX1_putRule_20 h
  · refine r_iload_n 1 dX1_putRule_4 rfl ?_
    refine r_aload_n 0 dX1_putRule_5 rfl ?_
    refine r_getr fd_X1_9 rfl dX1_putRule_6 h (fun x1 h => ?_)
    refine r_alen dX1_putRule_9 h (fun x2 h => ?_)
    refine r_icmp_ge 20 dX1_putRule_10 (by decide) h (fun h => ?_) (fun h => ?_)
    · exact r_vret rfl dX1_putRule_20 h
    · refine r_aload_n 0 dX1_putRule_13 rfl ?_
      refine r_getr fd_X1_9 rfl dX1_putRule_14 h (fun x3 h => ?_)
      refine r_iload_n 1 dX1_putRule_17 rfl ?_
      refine r_iload_n 2 dX1_putRule_18 rfl ?_
      refine r_iast dX1_putRule_19 h (fun τ4 h => ?_)
      exact r_vret rfl dX1_putRule_20 h
theorem m_X1_putRule {g : zF} (hl0 : g.2.2.2.1.stackTraces = false) {Q : zR × zS → Prop} {a0 a1 a2 : Int} {σ : zS} (h : zo (f_X1_putRule a0 a1 a2 σ) Q) : zm g Y_X1_putRule R_X1_putRule [(4, a0), (0, a1), (0, a2)] σ Q := zm_of (by decide) rfl (Nat.le_of_ble_eq_true rfl) (t_X1_putRule hl0 h)


/- J7_fill_53178 -/

set_option maxRecDepth 100000 in
set_option maxHeartbeats 4000000 in
theorem t_J7_fill_53178_5 {g : zF} (hl0 : g.2.2.2.1.stackTraces = false) {Q : zR × zS → Prop}   : ∀ (n : Nat) (a0 a1 a2 a3 : Int) (σ : zS), zo (f_J7_fill_53178_5  n a0 a1 a2 a3 σ) Q → zw g Y_J7_fill_53178 R_J7_fill_53178 5 [(0, (4, a0)), (1, (0, a1)), (2, (0, a2)), (3, (0, a3))] [] σ 0 0 Q := by
  intro n
  induction n with
  | zero => intro a0 a1 a2 a3 σ h; obtain ⟨r, h, -⟩ := h; cases h
  | succ n ih =>
    intro a0 a1 a2 a3 σ h
    unfold f_J7_fill_53178_5 at h
    refine r_iload_n 2 dJ7_fill_53178_5 rfl ?_
    refine r_iload_n 3 dJ7_fill_53178_6 rfl ?_
    refine r_icmp_ge 20 dJ7_fill_53178_7 (by decide) h (fun h => ?_) (fun h => ?_)
    · exact r_vret rfl dJ7_fill_53178_20 h
    · refine r_aload_n 0 dJ7_fill_53178_10 rfl ?_
      refine r_iload_n 2 dJ7_fill_53178_11 rfl ?_
      refine r_iload_n 1 dJ7_fill_53178_12 rfl ?_
      refine r_iast dJ7_fill_53178_13 h (fun τ1 h => ?_)
      refine r_iinc (L' := [(2, (0, (w32 (a2 + 1)))), (0, (4, a0)), (1, (0, a1)), (3, (0, a3))]) 2 dJ7_fill_53178_14 rfl (by decide) rfl ?_
      refine r_goto 5 dJ7_fill_53178_17 (by decide) ?_
      refine r_weak (L' := [(0, (4, a0)), (1, (0, a1)), (2, (0, (w32 (a2 + 1)))), (3, (0, a3))]) [1, 2, 0, 3] rfl ?_
      refine r_room (C' := 0) (D' := 0) (by omega) (by omega) ?_
      exact ih _ _ _ _ _ h

set_option maxRecDepth 100000 in
set_option maxHeartbeats 4000000 in
theorem t_J7_fill_53178 {g : zF} (hl0 : g.2.2.2.1.stackTraces = false) {Q : zR × zS → Prop}   {a0 a1 : Int} {σ : zS} (h : zo (f_J7_fill_53178  a0 a1 σ) Q) : zw g Y_J7_fill_53178 R_J7_fill_53178 0 [(0, (4, a0)), (1, (0, a1))] [] σ 0 0 Q := by
  unfold f_J7_fill_53178 at h
  refine r_iconst (v := 0) dJ7_fill_53178_0 rfl rfl ?_
  refine r_istore_n (L' := [(2, (0, 0)), (0, (4, a0)), (1, (0, a1))]) dJ7_fill_53178_1 (by decide) rfl ?_
  refine r_aload_n 1 dJ7_fill_53178_2 rfl ?_
  refine r_alen dJ7_fill_53178_3 h (fun x1 h => ?_)
  refine r_istore_n (L' := [(3, (0, x1)), (2, (0, 0)), (0, (4, a0)), (1, (0, a1))]) dJ7_fill_53178_4 (by decide) rfl ?_
  refine r_weak (L' := [(0, (4, a0)), (1, (0, a1)), (2, (0, 0)), (3, (0, x1))]) [2, 3, 1, 0] rfl ?_
  refine r_room (C' := 0) (D' := 0) (by omega) (by omega) ?_
  exact t_J7_fill_53178_5 hl0    zFU _ _ _ _ _ h
theorem m_J7_fill_53178 {g : zF} (hl0 : g.2.2.2.1.stackTraces = false) {Q : zR × zS → Prop} {a0 a1 : Int} {σ : zS} (h : zo (f_J7_fill_53178 a0 a1 σ) Q) : zm g Y_J7_fill_53178 R_J7_fill_53178 [(4, a0), (0, a1)] σ Q := zm_of (by decide) rfl (Nat.le_of_ble_eq_true rfl) (t_J7_fill_53178 hl0 h)


/- X1_listOf -/

set_option maxRecDepth 100000 in
set_option maxHeartbeats 4000000 in
theorem t_X1_listOf_23 {g : zF} (hl0 : g.2.2.2.1.stackTraces = false) {Q : zR × zS → Prop}   {a0 s0 : Int} {σ : zS} (h : zo (f_X1_listOf_23  a0 s0 σ) Q) : zw g Y_X1_listOf R_X1_listOf 23 [(0, (4, a0))] [(4, s0)] σ 0 0 Q := by
  unfold f_X1_listOf_23 at h
  refine r_astore_n (L' := [(2, (4, s0)), (0, (4, a0))]) dX1_listOf_23 (by decide) rfl ?_
  refine r_aload_n 0 dX1_listOf_24 rfl ?_
  refine r_ifnonnull 35 dX1_listOf_25 (by decide) h (fun h => ?_) (fun h => ?_)
  · refine r_aload_n 0 dX1_listOf_35 rfl ?_
    exact r_aret rfl dX1_listOf_36 h
  · refine r_aload_n 1 dX1_listOf_28 rfl ?_
    refine r_getr fd_X1_37 rfl dX1_listOf_29 h (fun x1 h => ?_)
    refine r_goto 36 dX1_listOf_32 (by decide) ?_
    exact r_aret rfl dX1_listOf_36 h

set_option maxRecDepth 100000 in
set_option maxHeartbeats 4000000 in
theorem t_X1_listOf_22 {g : zF} (hl0 : g.2.2.2.1.stackTraces = false) {Q : zR × zS → Prop}   {a0 : Int} {σ : zS} (h : zo (f_X1_listOf_22  a0 σ) Q) : zw g Y_X1_listOf R_X1_listOf 22 [(0, (4, a0))] [] σ 0 0 Q := by
  unfold f_X1_listOf_22 at h
  refine r_null dX1_listOf_22 ?_
  refine r_room (C' := 0) (D' := 0) (by omega) (by omega) ?_
  exact t_X1_listOf_23 hl0    h

set_option maxRecDepth 100000 in
set_option maxHeartbeats 4000000 in
theorem t_X1_listOf {g : zF} (hl0 : g.2.2.2.1.stackTraces = false) {Q : zR × zS → Prop}   {a0 a1 : Int} {σ : zS} (h : zo (f_X1_listOf  a0 a1 σ) Q) : zw g Y_X1_listOf R_X1_listOf 0 [(0, (4, a0)), (1, (0, a1))] [] σ 0 0 Q := by
  unfold f_X1_listOf at h
  refine r_iload_n 1 dX1_listOf_0 rfl ?_
  refine r_if_lt 22 dX1_listOf_1 (by decide) h (fun h => ?_) (fun h => ?_)
  · refine r_weak (L' := [(0, (4, a0))]) [0] rfl ?_
    refine r_room (C' := 0) (D' := 0) (by omega) (by omega) ?_
    exact t_X1_listOf_22 hl0    h
  · refine r_iload_n 1 dX1_listOf_4 rfl ?_
    refine r_aload_n 0 dX1_listOf_5 rfl ?_
    refine r_getr fd_X1_30 rfl dX1_listOf_6 h (fun x1 h => ?_)
    refine r_alen dX1_listOf_9 h (fun x2 h => ?_)
    refine r_icmp_ge 22 dX1_listOf_10 (by decide) h (fun h => ?_) (fun h => ?_)
    · refine r_weak (L' := [(0, (4, a0))]) [0] rfl ?_
      refine r_room (C' := 0) (D' := 0) (by omega) (by omega) ?_
      exact t_X1_listOf_22 hl0    h
    · refine r_aload_n 0 dX1_listOf_13 rfl ?_
      refine r_getr fd_X1_30 rfl dX1_listOf_14 h (fun x3 h => ?_)
      refine r_iload_n 1 dX1_listOf_17 rfl ?_
      refine r_aald6 dX1_listOf_18 h (fun x4 h => ?_)
      refine r_goto 23 dX1_listOf_19 (by decide) ?_
      refine r_weak (L' := [(0, (4, a0))]) [0] rfl ?_
      refine r_room (C' := 0) (D' := 0) (by omega) (by omega) ?_
      exact t_X1_listOf_23 hl0    h
theorem m_X1_listOf {g : zF} (hl0 : g.2.2.2.1.stackTraces = false) {Q : zR × zS → Prop} {a0 a1 : Int} {σ : zS} (h : zo (f_X1_listOf a0 a1 σ) Q) : zm g Y_X1_listOf R_X1_listOf [(4, a0), (0, a1)] σ Q := zm_of (by decide) rfl (Nat.le_of_ble_eq_true rfl) (t_X1_listOf hl0 h)


/- X1_reset -/

set_option maxRecDepth 100000 in
set_option maxHeartbeats 4000000 in
theorem t_X1_reset_73 {g : zF} (hl0 : g.2.2.2.1.stackTraces = false) {Q : zR × zS → Prop}   {a0 : Int} {σ : zS} (h : zo (f_X1_reset_73  a0 σ) Q) : zw g Y_X1_reset R_X1_reset 73 [(0, (4, a0))] [] σ 0 0 Q := by
  unfold f_X1_reset_73 at h
  refine r_aload_n 0 dX1_reset_73 rfl ?_
  refine r_getr fd_X1_41 rfl dX1_reset_74 h (fun x1 h => ?_)
  refine r_iconst (v := 0) dX1_reset_77 rfl rfl ?_
  refine r_putf fd_X1_71 fp_X1_reset_71 dX1_reset_78 h (fun τ2 h => ?_)
  refine r_aload_n 0 dX1_reset_81 rfl ?_
  refine r_getr fd_X1_44 rfl dX1_reset_82 h (fun x3 h => ?_)
  refine r_iconst (v := 0) dX1_reset_85 rfl rfl ?_
  refine r_callS (K' := Y_J7_fill_53178) (R' := R_J7_fill_53178) (idx := 61) (n := 2) (as := [(4, x3), (0, 0)]) (rest := []) (C' := 0) (D' := 0) rfl k0_J7_fill_53178 wd_216 kl_X1_61 ⟨by decide, by decide⟩ dX1_reset_86 rfl rfl (Nat.le_of_ble_eq_true rfl) (by decide) (by decide) h (fun r hr => m_J7_fill_53178 hl0 ⟨r, hr, hr⟩) (fun _ τ5 _ h => ?_)
  refine r_aload_n 0 dX1_reset_89 rfl ?_
  refine r_iconst (v := 0) dX1_reset_90 rfl rfl ?_
  refine r_putf fd_X1_72 fp_X1_reset_72 dX1_reset_91 h (fun τ6 h => ?_)
  exact r_vret rfl dX1_reset_94 h

set_option maxRecDepth 100000 in
set_option maxHeartbeats 4000000 in
theorem t_X1_reset_49 {g : zF} (hl0 : g.2.2.2.1.stackTraces = false) {Q : zR × zS → Prop}   : ∀ (n : Nat) (a0 a1 : Int) (σ : zS), zo (f_X1_reset_49  n a0 a1 σ) Q → zw g Y_X1_reset R_X1_reset 49 [(0, (4, a0)), (1, (0, a1))] [] σ 0 0 Q := by
  intro n
  induction n with
  | zero => intro a0 a1 σ h; obtain ⟨r, h, -⟩ := h; cases h
  | succ n ih =>
    intro a0 a1 σ h
    unfold f_X1_reset_49 at h
    refine r_iload_n 1 dX1_reset_49 rfl ?_
    refine r_aload_n 0 dX1_reset_50 rfl ?_
    refine r_getr fd_X1_30 rfl dX1_reset_51 h (fun x1 h => ?_)
    refine r_alen dX1_reset_54 h (fun x2 h => ?_)
    refine r_icmp_ge 73 dX1_reset_55 (by decide) h (fun h => ?_) (fun h => ?_)
    · refine r_weak (L' := [(0, (4, a0))]) [0] rfl ?_
      refine r_room (C' := 0) (D' := 0) (by omega) (by omega) ?_
      exact t_X1_reset_73 hl0    h
    · refine r_aload_n 0 dX1_reset_58 rfl ?_
      refine r_iload_n 1 dX1_reset_59 rfl ?_
      refine r_callV (K' := Y_X1_listOf) (R' := R_X1_listOf) (idx := 67) (n := 1) (b := a0) (as := [(0, a1)]) (rest := []) (C' := 0) (D' := 0) (cn := 1) rfl k0_X1_listOf kV_X1_listOf kl_X1_67 ⟨by decide, by decide⟩ dX1_reset_60 rfl rfl (Nat.le_of_ble_eq_true rfl) (by decide) (by decide) rfl h (fun r hr => m_X1_listOf hl0 ⟨r, hr, hr⟩) (fun x3 τ4 _ h => ?_)
      refine r_iconst (v := 0) dX1_reset_63 rfl rfl ?_
      refine r_putf fd_X1_71 fp_X1_reset_71 dX1_reset_64 h (fun τ5 h => ?_)
      refine r_iinc (L' := [(1, (0, (w32 (a1 + 1)))), (0, (4, a0))]) 1 dX1_reset_67 rfl (by decide) rfl ?_
      refine r_goto 49 dX1_reset_70 (by decide) ?_
      refine r_weak (L' := [(0, (4, a0)), (1, (0, (w32 (a1 + 1))))]) [1, 0] rfl ?_
      refine r_room (C' := 0) (D' := 0) (by omega) (by omega) ?_
      exact ih _ _ _ h

set_option maxRecDepth 100000 in
set_option maxHeartbeats 4000000 in
theorem t_X1_reset_23 {g : zF} (hl0 : g.2.2.2.1.stackTraces = false) {Q : zR × zS → Prop}   {a0 : Int} {σ : zS} (h : zo (f_X1_reset_23  a0 σ) Q) : zw g Y_X1_reset R_X1_reset 23 [(0, (4, a0))] [] σ 0 0 Q := by
  unfold f_X1_reset_23 at h
  refine r_aload_n 0 dX1_reset_23 rfl ?_
  refine r_getr fd_X1_18 rfl dX1_reset_24 h (fun x1 h => ?_)
  refine r_iconst (v := 0) dX1_reset_27 rfl rfl ?_
  refine r_putf fd_X1_57 fp_X1_reset_57 dX1_reset_28 h (fun τ2 h => ?_)
  refine r_aload_n 0 dX1_reset_31 rfl ?_
  refine r_getr fd_X1_22 rfl dX1_reset_32 h (fun x3 h => ?_)
  refine r_iconst (v := 0) dX1_reset_35 rfl rfl ?_
  refine r_putf fd_X1_57 fp_X1_reset_57 dX1_reset_36 h (fun τ4 h => ?_)
  refine r_aload_n 0 dX1_reset_39 rfl ?_
  refine r_getr fd_X1_25 rfl dX1_reset_40 h (fun x5 h => ?_)
  refine r_iconst (v := (-1)) dX1_reset_43 rfl rfl ?_
  refine r_callS (K' := Y_J7_fill_53178) (R' := R_J7_fill_53178) (idx := 61) (n := 2) (as := [(4, x5), (0, (-1))]) (rest := []) (C' := 0) (D' := 0) rfl k0_J7_fill_53178 wd_216 kl_X1_61 ⟨by decide, by decide⟩ dX1_reset_44 rfl rfl (Nat.le_of_ble_eq_true rfl) (by decide) (by decide) h (fun r hr => m_J7_fill_53178 hl0 ⟨r, hr, hr⟩) (fun _ τ7 _ h => ?_)
  refine r_iconst (v := 0) dX1_reset_47 rfl rfl ?_
  refine r_istore_n (L' := [(1, (0, 0)), (0, (4, a0))]) dX1_reset_48 (by decide) rfl ?_
  refine r_weak (L' := [(0, (4, a0)), (1, (0, 0))]) [1, 0] rfl ?_
  refine r_room (C' := 0) (D' := 0) (by omega) (by omega) ?_
  exact t_X1_reset_49 hl0    zFU _ _ _ h

set_option maxRecDepth 100000 in
set_option maxHeartbeats 4000000 in
theorem t_X1_reset_2 {g : zF} (hl0 : g.2.2.2.1.stackTraces = false) {Q : zR × zS → Prop}   : ∀ (n : Nat) (a0 a1 : Int) (σ : zS), zo (f_X1_reset_2  n a0 a1 σ) Q → zw g Y_X1_reset R_X1_reset 2 [(0, (4, a0)), (1, (0, a1))] [] σ 0 0 Q := by
  intro n
  induction n with
  | zero => intro a0 a1 σ h; obtain ⟨r, h, -⟩ := h; cases h
  | succ n ih =>
    intro a0 a1 σ h
    unfold f_X1_reset_2 at h
    refine r_iload_n 1 dX1_reset_2 rfl ?_
    refine r_iconst (v := 5) dX1_reset_3 rfl rfl ?_
    refine r_icmp_ge 23 dX1_reset_4 (by decide) h (fun h => ?_) (fun h => ?_)
    · refine r_weak (L' := [(0, (4, a0))]) [0] rfl ?_
      refine r_room (C' := 0) (D' := 0) (by omega) (by omega) ?_
      exact t_X1_reset_23 hl0    h
    · refine r_aload_n 0 dX1_reset_7 rfl ?_
      refine r_iload_n 1 dX1_reset_8 rfl ?_
      refine r_gets (k := 2) (by decide) (Or.inr ⟨"PathTrust", wd_209⟩) dX1_reset_9 ?_
      refine r_iload_n 1 dX1_reset_12 rfl ?_
      refine r_sald (k := 2) (by decide) dX1_reset_13 h (fun x1 h => ?_)
      refine r_callV (K' := Y_X1_putRule) (R' := R_X1_putRule) (idx := 53) (n := 2) (b := a0) (as := [(0, a1), (0, x1)]) (rest := []) (C' := 0) (D' := 0) (cn := 1) rfl k0_X1_putRule kV_X1_putRule kl_X1_53 ⟨by decide, by decide⟩ dX1_reset_14 rfl rfl (Nat.le_of_ble_eq_true rfl) (by decide) (by decide) rfl h (fun r hr => m_X1_putRule hl0 ⟨r, hr, hr⟩) (fun _ τ3 _ h => ?_)
      refine r_iinc (L' := [(1, (0, (w32 (a1 + 1)))), (0, (4, a0))]) 1 dX1_reset_17 rfl (by decide) rfl ?_
      refine r_goto 2 dX1_reset_20 (by decide) ?_
      refine r_weak (L' := [(0, (4, a0)), (1, (0, (w32 (a1 + 1))))]) [1, 0] rfl ?_
      refine r_room (C' := 0) (D' := 0) (by omega) (by omega) ?_
      exact ih _ _ _ h

set_option maxRecDepth 100000 in
set_option maxHeartbeats 4000000 in
theorem t_X1_reset {g : zF} (hl0 : g.2.2.2.1.stackTraces = false) {Q : zR × zS → Prop}   {a0 : Int} {σ : zS} (h : zo (f_X1_reset  a0 σ) Q) : zw g Y_X1_reset R_X1_reset 0 [(0, (4, a0))] [] σ 0 0 Q := by
  unfold f_X1_reset at h
  refine r_iconst (v := 0) dX1_reset_0 rfl rfl ?_
  refine r_istore_n (L' := [(1, (0, 0)), (0, (4, a0))]) dX1_reset_1 (by decide) rfl ?_
  refine r_weak (L' := [(0, (4, a0)), (1, (0, 0))]) [1, 0] rfl ?_
  refine r_room (C' := 0) (D' := 0) (by omega) (by omega) ?_
  exact t_X1_reset_2 hl0    zFU _ _ _ h
theorem m_X1_reset {g : zF} (hl0 : g.2.2.2.1.stackTraces = false) {Q : zR × zS → Prop} {a0 : Int} {σ : zS} (h : zo (f_X1_reset a0 σ) Q) : zm g Y_X1_reset R_X1_reset [(4, a0)] σ Q := zm_of (by decide) rfl (Nat.le_of_ble_eq_true rfl) (t_X1_reset hl0 h)


/- X1_init -/

set_option maxRecDepth 100000 in
set_option maxHeartbeats 4000000 in
theorem t_X1_init_115 {g : zF} (hl0 : g.2.2.2.1.stackTraces = false) {Q : zR × zS → Prop}   {a0 : Int} {σ : zS} (h : zo (f_X1_init_115  a0 σ) Q) : zw g Y_X1_init R_X1_init 115 [(0, (4, a0))] [] σ 0 0 Q := by
  unfold f_X1_init_115 at h
  refine r_aload_n 0 dX1_init_115 rfl ?_
  refine r_callV (K' := Y_X1_reset) (R' := R_X1_reset) (idx := 47) (n := 0) (b := a0) (as := []) (rest := []) (C' := 0) (D' := 0) (cn := 1) rfl k0_X1_reset kV_X1_reset kl_X1_47 ⟨by decide, by decide⟩ dX1_init_116 rfl rfl (Nat.le_of_ble_eq_true rfl) (by decide) (by decide) rfl h (fun r hr => m_X1_reset hl0 ⟨r, hr, hr⟩) (fun _ τ2 _ h => ?_)
  exact r_vret rfl dX1_init_119 h

set_option maxRecDepth 100000 in
set_option maxHeartbeats 4000000 in
theorem t_X1_init_85 {g : zF} (hl0 : g.2.2.2.1.stackTraces = false) {Q : zR × zS → Prop}   : ∀ (n : Nat) (a0 a1 : Int) (σ : zS), zo (f_X1_init_85  n a0 a1 σ) Q → zw g Y_X1_init R_X1_init 85 [(0, (4, a0)), (1, (0, a1))] [] σ (n * 2) (n * 802) Q := by
  intro n
  induction n with
  | zero => intro a0 a1 σ h; obtain ⟨r, h, -⟩ := h; cases h
  | succ n ih =>
    intro a0 a1 σ h
    unfold f_X1_init_85 at h
    refine r_room (C' := (2 + n * 2)) (D' := (802 + n * 802)) (by omega) (by omega) ?_
    refine r_iload_n 1 dX1_init_85 rfl ?_
    refine r_aload_n 0 dX1_init_86 rfl ?_
    refine r_getr fd_X1_30 rfl dX1_init_87 h (fun x1 h => ?_)
    refine r_alen dX1_init_90 h (fun x2 h => ?_)
    refine r_icmp_ge 115 dX1_init_91 (by decide) h (fun h => ?_) (fun h => ?_)
    · refine r_room (C' := 0) (D' := 0) (by omega) (by omega) ?_
      refine r_weak (L' := [(0, (4, a0))]) [0] rfl ?_
      refine r_room (C' := 0) (D' := 0) (by omega) (by omega) ?_
      exact t_X1_init_115 hl0    h
    · refine r_aload_n 0 dX1_init_94 rfl ?_
      refine r_getr fd_X1_30 rfl dX1_init_95 h (fun x3 h => ?_)
      refine r_iload_n 1 dX1_init_98 rfl ?_
      refine r_new (C' := (1 + n * 2)) (D' := (800 + n * 802)) nw_X1_28 dX1_init_99 (by omega) (by have e : (vwCl.getD 5 ("", fun _ => ("", "", "", false), 0)).2.2 = 2 := rfl; omega) h (fun x4 τ5 h => ?_)
      refine r_dup dX1_init_102 rfl ?_
      refine r_bipush (v := 36) dX1_init_103 rfl rfl ?_
      obtain ⟨h0, h⟩ := zite_o h
      refine r_callI (K' := Y_X5_init) (R' := R_X5_init) (idx := 34) (n := 1) (b := x4) (as := [(0, 36)]) (rest := [(4, x4), (0, a1), (4, x3)]) (C' := (n * 2)) (D' := (n * 802)) rfl k0_X5_init kI_X5_init kl_X1_34 ⟨by decide, by decide⟩ dX1_init_105 rfl rfl (Nat.le_of_ble_eq_true rfl) (by have e : R_X5_init.cells = 1 := rfl; omega) (by have e : R_X5_init.slots = 800 := rfl; omega) h h0 (fun r hr => m_X5_init hl0 ⟨r, hr, hr⟩) (fun _ τ7 _ h => ?_)
      refine r_aast6 dX1_init_108 h (fun τ8 h => ?_)
      refine r_iinc (L' := [(1, (0, (w32 (a1 + 1)))), (0, (4, a0))]) 1 dX1_init_109 rfl (by decide) rfl ?_
      refine r_goto 85 dX1_init_112 (by decide) ?_
      refine r_weak (L' := [(0, (4, a0)), (1, (0, (w32 (a1 + 1))))]) [1, 0] rfl ?_
      refine r_room (C' := (n * 2)) (D' := (n * 802)) (by omega) (by omega) ?_
      exact ih _ _ _ h

set_option maxRecDepth 100000 in
set_option maxHeartbeats 4000000 in
theorem t_X1_init {g : zF} (hl0 : g.2.2.2.1.stackTraces = false) {Q : zR × zS → Prop}   {a0 : Int} {σ : zS} (h : zo (f_X1_init  a0 σ) Q) : zw g Y_X1_init R_X1_init 0 [(0, (4, a0))] [] σ 26 7311 Q := by
  unfold f_X1_init at h
  refine r_aload_n 0 dX1_init_0 rfl ?_
  refine r_objinit oi_X1_3 ⟨by decide, Nat.le_of_ble_eq_true rfl⟩ dX1_init_1 h (fun h => ?_)
  refine r_aload_n 0 dX1_init_4 rfl ?_
  refine r_iconst (v := 5) dX1_init_5 rfl rfl ?_
  refine r_newa1 (C' := 25) (D' := 7306) (N := 5) wd_165 dX1_init_6 (by decide) (by decide) (by decide) h (fun x1 τ2 h => ?_)
  refine r_putr fd_X1_9 fp_X1_init_9 dX1_init_8 h (fun τ3 h => ?_)
  refine r_aload_n 0 dX1_init_11 rfl ?_
  refine r_new (C' := 24) (D' := 7304) nw_X1_15 dX1_init_12 (by decide) (by decide) h (fun x4 τ5 h => ?_)
  refine r_dup dX1_init_15 rfl ?_
  obtain ⟨h0, h⟩ := zite_o h
  refine r_callI (K' := Y_X3_init) (R' := R_X3_init) (idx := 17) (n := 0) (b := x4) (as := []) (rest := [(4, x4), (4, a0)]) (C' := 23) (D' := 7298) rfl k0_X3_init kI_X3_init kl_X1_17 ⟨by decide, by decide⟩ dX1_init_16 rfl rfl (Nat.le_of_ble_eq_true rfl) (by decide) (by decide) h h0 (fun r hr => m_X3_init hl0 ⟨r, hr, hr⟩) (fun _ τ7 _ h => ?_)
  refine r_putr fd_X1_18 fp_X1_init_18 dX1_init_19 h (fun τ8 h => ?_)
  refine r_aload_n 0 dX1_init_22 rfl ?_
  refine r_new (C' := 22) (D' := 7296) nw_X1_15 dX1_init_23 (by decide) (by decide) h (fun x9 τ10 h => ?_)
  refine r_dup dX1_init_26 rfl ?_
  obtain ⟨h0, h⟩ := zite_o h
  refine r_callI (K' := Y_X3_init) (R' := R_X3_init) (idx := 17) (n := 0) (b := x9) (as := []) (rest := [(4, x9), (4, a0)]) (C' := 21) (D' := 7290) rfl k0_X3_init kI_X3_init kl_X1_17 ⟨by decide, by decide⟩ dX1_init_27 rfl rfl (Nat.le_of_ble_eq_true rfl) (by decide) (by decide) h h0 (fun r hr => m_X3_init hl0 ⟨r, hr, hr⟩) (fun _ τ12 _ h => ?_)
  refine r_putr fd_X1_22 fp_X1_init_22 dX1_init_30 h (fun τ13 h => ?_)
  refine r_aload_n 0 dX1_init_33 rfl ?_
  refine r_bipush (v := 36) dX1_init_34 rfl rfl ?_
  refine r_newa1 (C' := 20) (D' := 7254) (N := 36) wd_165 dX1_init_36 (by decide) (by decide) (by decide) h (fun x14 τ15 h => ?_)
  refine r_putr fd_X1_25 fp_X1_init_25 dX1_init_38 h (fun τ16 h => ?_)
  refine r_aload_n 0 dX1_init_41 rfl ?_
  refine r_bipush (v := 6) dX1_init_42 rfl rfl ?_
  refine r_anew6 (C' := 19) (D' := 7248) (N := 6) wd_188 wd_189 dX1_init_44 (by decide) (by decide) (by decide) h (fun x17 τ18 h => ?_)
  refine r_putr fd_X1_30 fp_X1_init_30 dX1_init_47 h (fun τ19 h => ?_)
  refine r_aload_n 0 dX1_init_50 rfl ?_
  refine r_new (C' := 18) (D' := 7246) nw_X1_28 dX1_init_51 (by decide) (by decide) h (fun x20 τ21 h => ?_)
  refine r_dup dX1_init_54 rfl ?_
  refine r_iconst (v := 0) dX1_init_55 rfl rfl ?_
  obtain ⟨h0, h⟩ := zite_o h
  refine r_callI (K' := Y_X5_init) (R' := R_X5_init) (idx := 34) (n := 1) (b := x20) (as := [(0, 0)]) (rest := [(4, x20), (4, a0)]) (C' := 17) (D' := 6446) rfl k0_X5_init kI_X5_init kl_X1_34 ⟨by decide, by decide⟩ dX1_init_56 rfl rfl (Nat.le_of_ble_eq_true rfl) (by decide) (by decide) h h0 (fun r hr => m_X5_init hl0 ⟨r, hr, hr⟩) (fun _ τ23 _ h => ?_)
  refine r_putr fd_X1_37 fp_X1_init_37 dX1_init_59 h (fun τ24 h => ?_)
  refine r_aload_n 0 dX1_init_62 rfl ?_
  refine r_new (C' := 16) (D' := 6444) nw_X1_28 dX1_init_63 (by decide) (by decide) h (fun x25 τ26 h => ?_)
  refine r_dup dX1_init_66 rfl ?_
  refine r_bipush (v := 100) dX1_init_67 rfl rfl ?_
  obtain ⟨h0, h⟩ := zite_o h
  refine r_callI (K' := Y_X5_init) (R' := R_X5_init) (idx := 34) (n := 1) (b := x25) (as := [(0, 100)]) (rest := [(4, x25), (4, a0)]) (C' := 15) (D' := 5644) rfl k0_X5_init kI_X5_init kl_X1_34 ⟨by decide, by decide⟩ dX1_init_69 rfl rfl (Nat.le_of_ble_eq_true rfl) (by decide) (by decide) h h0 (fun r hr => m_X5_init hl0 ⟨r, hr, hr⟩) (fun _ τ28 _ h => ?_)
  refine r_putr fd_X1_41 fp_X1_init_41 dX1_init_72 h (fun τ29 h => ?_)
  refine r_aload_n 0 dX1_init_75 rfl ?_
  refine r_bipush (v := 30) dX1_init_76 rfl rfl ?_
  refine r_newa1 (C' := 14) (D' := 5614) (N := 30) wd_165 dX1_init_78 (by decide) (by decide) (by decide) h (fun x30 τ31 h => ?_)
  refine r_putr fd_X1_44 fp_X1_init_44 dX1_init_80 h (fun τ32 h => ?_)
  refine r_iconst (v := 0) dX1_init_83 rfl rfl ?_
  refine r_istore_n (L' := [(1, (0, 0)), (0, (4, a0))]) dX1_init_84 (by decide) rfl ?_
  refine r_weak (L' := [(0, (4, a0)), (1, (0, 0))]) [1, 0] rfl ?_
  refine r_room (C' := (7 * 2)) (D' := (7 * 802)) (by omega) (by omega) ?_
  exact t_X1_init_85 hl0    7 _ _ _ h
theorem m_X1_init {g : zF} (hl0 : g.2.2.2.1.stackTraces = false) {Q : zR × zS → Prop} {a0 : Int} {σ : zS} (h : zo (f_X1_init a0 σ) Q) : zm g Y_X1_init R_X1_init [(4, a0)] σ Q := zm_of (by decide) rfl (Nat.le_of_ble_eq_true rfl) (t_X1_init hl0 h)


/- X1_rule -/

set_option maxRecDepth 100000 in
set_option maxHeartbeats 4000000 in
theorem t_X1_rule {g : zF} (hl0 : g.2.2.2.1.stackTraces = false) {Q : zR × zS → Prop}   {a0 a1 : Int} {σ : zS} (h : zo (f_X1_rule  a0 a1 σ) Q) : zw g Y_X1_rule R_X1_rule 0 [(0, (4, a0)), (1, (0, a1))] [] σ 0 0 Q := by
  unfold f_X1_rule at h
  refine r_iload_n 1 dX1_rule_0 rfl ?_
  refine r_if_lt 22 dX1_rule_1 (by decide) h (fun h => ?_) (fun h => ?_)
  · refine r_iconst (v := (-1)) dX1_rule_22 rfl rfl ?_
    exact r_iret rfl dX1_rule_23 h
  · refine r_iload_n 1 dX1_rule_4 rfl ?_
    refine r_aload_n 0 dX1_rule_5 rfl ?_
    refine r_getr fd_X1_9 rfl dX1_rule_6 h (fun x1 h => ?_)
    refine r_alen dX1_rule_9 h (fun x2 h => ?_)
    refine r_icmp_ge 22 dX1_rule_10 (by decide) h (fun h => ?_) (fun h => ?_)
    · refine r_iconst (v := (-1)) dX1_rule_22 rfl rfl ?_
      exact r_iret rfl dX1_rule_23 h
    · refine r_aload_n 0 dX1_rule_13 rfl ?_
      refine r_getr fd_X1_9 rfl dX1_rule_14 h (fun x3 h => ?_)
      refine r_iload_n 1 dX1_rule_17 rfl ?_
      refine r_iald dX1_rule_18 h (fun x4 h => ?_)
      refine r_goto 23 dX1_rule_19 (by decide) ?_
      exact r_iret rfl dX1_rule_23 h
theorem m_X1_rule {g : zF} (hl0 : g.2.2.2.1.stackTraces = false) {Q : zR × zS → Prop} {a0 a1 : Int} {σ : zS} (h : zo (f_X1_rule a0 a1 σ) Q) : zm g Y_X1_rule R_X1_rule [(4, a0), (0, a1)] σ Q := zm_of (by decide) rfl (Nat.le_of_ble_eq_true rfl) (t_X1_rule hl0 h)


/- X3_copyFrom -/

set_option maxRecDepth 100000 in
set_option maxHeartbeats 4000000 in
theorem t_X3_copyFrom {g : zF} (hl0 : g.2.2.2.1.stackTraces = false) {Q : zR × zS → Prop}   {a0 a1 : Int} {σ : zS} (h : zo (f_X3_copyFrom  a0 a1 σ) Q) : zw g Y_X3_copyFrom R_X3_copyFrom 0 [(0, (4, a0)), (1, (4, a1))] [] σ 0 0 Q := by
  unfold f_X3_copyFrom at h
  refine r_aload_n 0 dX3_copyFrom_0 rfl ?_
  refine r_aload_n 1 dX3_copyFrom_1 rfl ?_
  refine r_getf fd_X3_15 rfl dX3_copyFrom_2 h (fun x1 h => ?_)
  refine r_putf fd_X3_15 fp_X3_copyFrom_15 dX3_copyFrom_5 h (fun τ2 h => ?_)
  refine r_aload_n 1 dX3_copyFrom_8 rfl ?_
  refine r_getr fd_X3_9 rfl dX3_copyFrom_9 h (fun x3 h => ?_)
  refine r_iconst (v := 0) dX3_copyFrom_12 rfl rfl ?_
  refine r_aload_n 0 dX3_copyFrom_13 rfl ?_
  refine r_getr fd_X3_9 rfl dX3_copyFrom_14 h (fun x4 h => ?_)
  refine r_iconst (v := 0) dX3_copyFrom_17 rfl rfl ?_
  refine r_aload_n 1 dX3_copyFrom_18 rfl ?_
  refine r_getr fd_X3_9 rfl dX3_copyFrom_19 h (fun x5 h => ?_)
  refine r_alen dX3_copyFrom_22 h (fun x6 h => ?_)
  refine r_aload_n 0 dX3_copyFrom_23 rfl ?_
  refine r_getr fd_X3_9 rfl dX3_copyFrom_24 h (fun x7 h => ?_)
  refine r_alen dX3_copyFrom_27 h (fun x8 h => ?_)
  refine r_mmin mq_X3_19 ⟨by decide, Nat.le_of_ble_eq_true rfl⟩ rfl dX3_copyFrom_28 ?_
  refine r_acopy ac_X3_25 ⟨by decide, Nat.le_of_ble_eq_true rfl⟩ dX3_copyFrom_31 h (fun τ9 h => ?_)
  exact r_vret rfl dX3_copyFrom_34 h
theorem m_X3_copyFrom {g : zF} (hl0 : g.2.2.2.1.stackTraces = false) {Q : zR × zS → Prop} {a0 a1 : Int} {σ : zS} (h : zo (f_X3_copyFrom a0 a1 σ) Q) : zm g Y_X3_copyFrom R_X3_copyFrom [(4, a0), (4, a1)] σ Q := zm_of (by decide) rfl (Nat.le_of_ble_eq_true rfl) (t_X3_copyFrom hl0 h)


/- X5_copyFrom -/

set_option maxRecDepth 100000 in
set_option maxHeartbeats 4000000 in
theorem t_X5_copyFrom {g : zF} (hl0 : g.2.2.2.1.stackTraces = false) {Q : zR × zS → Prop}   {a0 a1 : Int} {σ : zS} (h : zo (f_X5_copyFrom  a0 a1 σ) Q) : zw g Y_X5_copyFrom R_X5_copyFrom 0 [(0, (4, a0)), (1, (4, a1))] [] σ 0 0 Q := by
  unfold f_X5_copyFrom at h
  refine r_aload_n 1 dX5_copyFrom_0 rfl ?_
  refine r_getf fd_X5_15 rfl dX5_copyFrom_1 h (fun x1 h => ?_)
  refine r_bipush (v := 8) dX5_copyFrom_4 rfl rfl ?_
  refine r_imul dX5_copyFrom_6 ?_
  refine r_aload_n 1 dX5_copyFrom_7 rfl ?_
  refine r_getr fd_X5_9 rfl dX5_copyFrom_8 h (fun x2 h => ?_)
  refine r_alen dX5_copyFrom_11 h (fun x3 h => ?_)
  refine r_aload_n 0 dX5_copyFrom_12 rfl ?_
  refine r_getr fd_X5_9 rfl dX5_copyFrom_13 h (fun x4 h => ?_)
  refine r_alen dX5_copyFrom_16 h (fun x5 h => ?_)
  refine r_mmin mq_X5_39 ⟨by decide, Nat.le_of_ble_eq_true rfl⟩ rfl dX5_copyFrom_17 ?_
  refine r_mmin mq_X5_39 ⟨by decide, Nat.le_of_ble_eq_true rfl⟩ rfl dX5_copyFrom_20 ?_
  refine r_istore_n (L' := [(2, (0, (min (w32 (x1 * 8)) (min x3 x5)))), (0, (4, a0)), (1, (4, a1))]) dX5_copyFrom_23 (by decide) rfl ?_
  refine r_iload_n 0 dX5_copyFrom_24 rfl ?_
  refine r_if_le 42 dX5_copyFrom_25 (by decide) h (fun h => ?_) (fun h => ?_)
  · refine r_aload_n 1 dX5_copyFrom_42 rfl ?_
    refine r_aload_n 2 dX5_copyFrom_43 rfl ?_
    refine r_getf fd_X5_15 rfl dX5_copyFrom_44 h (fun x6 h => ?_)
    refine r_putf fd_X5_15 fp_X5_copyFrom_15 dX5_copyFrom_47 h (fun τ7 h => ?_)
    exact r_vret rfl dX5_copyFrom_50 h
  · refine r_aload_n 2 dX5_copyFrom_28 rfl ?_
    refine r_getr fd_X5_9 rfl dX5_copyFrom_29 h (fun x8 h => ?_)
    refine r_iconst (v := 0) dX5_copyFrom_32 rfl rfl ?_
    refine r_aload_n 1 dX5_copyFrom_33 rfl ?_
    refine r_getr fd_X5_9 rfl dX5_copyFrom_34 h (fun x9 h => ?_)
    refine r_iconst (v := 0) dX5_copyFrom_37 rfl rfl ?_
    refine r_iload_n 0 dX5_copyFrom_38 rfl ?_
    refine r_acopy ac_X5_47 ⟨by decide, Nat.le_of_ble_eq_true rfl⟩ dX5_copyFrom_39 h (fun τ10 h => ?_)
    refine r_aload_n 1 dX5_copyFrom_42 rfl ?_
    refine r_aload_n 2 dX5_copyFrom_43 rfl ?_
    refine r_getf fd_X5_15 rfl dX5_copyFrom_44 h (fun x11 h => ?_)
    refine r_putf fd_X5_15 fp_X5_copyFrom_15 dX5_copyFrom_47 h (fun τ12 h => ?_)
    exact r_vret rfl dX5_copyFrom_50 h
theorem m_X5_copyFrom {g : zF} (hl0 : g.2.2.2.1.stackTraces = false) {Q : zR × zS → Prop} {a0 a1 : Int} {σ : zS} (h : zo (f_X5_copyFrom a0 a1 σ) Q) : zm g Y_X5_copyFrom R_X5_copyFrom [(4, a0), (4, a1)] σ Q := zm_of (by decide) rfl (Nat.le_of_ble_eq_true rfl) (t_X5_copyFrom hl0 h)


/- X1_become -/

set_option maxRecDepth 100000 in
set_option maxHeartbeats 4000000 in
theorem t_X1_become_101 {g : zF} (hl0 : g.2.2.2.1.stackTraces = false) {Q : zR × zS → Prop}   {a0 a1 : Int} {σ : zS} (h : zo (f_X1_become_101  a0 a1 σ) Q) : zw g Y_X1_become R_X1_become 101 [(0, (4, a0)), (1, (4, a1))] [] σ 0 0 Q := by
  unfold f_X1_become_101 at h
  refine r_aload_n 0 dX1_become_101 rfl ?_
  refine r_getr fd_X1_41 rfl dX1_become_102 h (fun x1 h => ?_)
  refine r_aload_n 1 dX1_become_105 rfl ?_
  refine r_getr fd_X1_41 rfl dX1_become_106 h (fun x2 h => ?_)
  refine r_callV (K' := Y_X5_copyFrom) (R' := R_X5_copyFrom) (idx := 95) (n := 1) (b := x1) (as := [(4, x2)]) (rest := []) (C' := 0) (D' := 0) (cn := 5) rfl k0_X5_copyFrom kV_X5_copyFrom kl_X1_95 ⟨by decide, by decide⟩ dX1_become_109 rfl rfl (Nat.le_of_ble_eq_true rfl) (by decide) (by decide) rfl h (fun r hr => m_X5_copyFrom hl0 ⟨r, hr, hr⟩) (fun _ τ4 _ h => ?_)
  refine r_aload_n 1 dX1_become_112 rfl ?_
  refine r_getr fd_X1_44 rfl dX1_become_113 h (fun x5 h => ?_)
  refine r_iconst (v := 0) dX1_become_116 rfl rfl ?_
  refine r_aload_n 0 dX1_become_117 rfl ?_
  refine r_getr fd_X1_44 rfl dX1_become_118 h (fun x6 h => ?_)
  refine r_iconst (v := 0) dX1_become_121 rfl rfl ?_
  refine r_aload_n 1 dX1_become_122 rfl ?_
  refine r_getr fd_X1_44 rfl dX1_become_123 h (fun x7 h => ?_)
  refine r_alen dX1_become_126 h (fun x8 h => ?_)
  refine r_aload_n 0 dX1_become_127 rfl ?_
  refine r_getr fd_X1_44 rfl dX1_become_128 h (fun x9 h => ?_)
  refine r_alen dX1_become_131 h (fun x10 h => ?_)
  refine r_mmin mq_X1_83 ⟨by decide, Nat.le_of_ble_eq_true rfl⟩ rfl dX1_become_132 ?_
  refine r_acopy ac_X1_89 ⟨by decide, Nat.le_of_ble_eq_true rfl⟩ dX1_become_135 h (fun τ11 h => ?_)
  refine r_aload_n 0 dX1_become_138 rfl ?_
  refine r_aload_n 1 dX1_become_139 rfl ?_
  refine r_getf fd_X1_72 rfl dX1_become_140 h (fun x12 h => ?_)
  refine r_putf fd_X1_72 fp_X1_become_72 dX1_become_143 h (fun τ13 h => ?_)
  exact r_vret rfl dX1_become_146 h

set_option maxRecDepth 100000 in
set_option maxHeartbeats 4000000 in
theorem t_X1_become_73 {g : zF} (hl0 : g.2.2.2.1.stackTraces = false) {Q : zR × zS → Prop}   : ∀ (n : Nat) (a0 a1 a2 : Int) (σ : zS), zo (f_X1_become_73  n a0 a1 a2 σ) Q → zw g Y_X1_become R_X1_become 73 [(0, (4, a0)), (1, (4, a1)), (2, (0, a2))] [] σ 0 0 Q := by
  intro n
  induction n with
  | zero => intro a0 a1 a2 σ h; obtain ⟨r, h, -⟩ := h; cases h
  | succ n ih =>
    intro a0 a1 a2 σ h
    unfold f_X1_become_73 at h
    refine r_iload_n 2 dX1_become_73 rfl ?_
    refine r_aload_n 0 dX1_become_74 rfl ?_
    refine r_getr fd_X1_30 rfl dX1_become_75 h (fun x1 h => ?_)
    refine r_alen dX1_become_78 h (fun x2 h => ?_)
    refine r_icmp_ge 101 dX1_become_79 (by decide) h (fun h => ?_) (fun h => ?_)
    · refine r_weak (L' := [(0, (4, a0)), (1, (4, a1))]) [0, 1] rfl ?_
      refine r_room (C' := 0) (D' := 0) (by omega) (by omega) ?_
      exact t_X1_become_101 hl0    h
    · refine r_aload_n 0 dX1_become_82 rfl ?_
      refine r_iload_n 2 dX1_become_83 rfl ?_
      refine r_callV (K' := Y_X1_listOf) (R' := R_X1_listOf) (idx := 67) (n := 1) (b := a0) (as := [(0, a2)]) (rest := []) (C' := 0) (D' := 0) (cn := 1) rfl k0_X1_listOf kV_X1_listOf kl_X1_67 ⟨by decide, by decide⟩ dX1_become_84 rfl rfl (Nat.le_of_ble_eq_true rfl) (by decide) (by decide) rfl h (fun r hr => m_X1_listOf hl0 ⟨r, hr, hr⟩) (fun x3 τ4 _ h => ?_)
      refine r_aload_n 1 dX1_become_87 rfl ?_
      refine r_iload_n 2 dX1_become_88 rfl ?_
      refine r_callV (K' := Y_X1_listOf) (R' := R_X1_listOf) (idx := 67) (n := 1) (b := a1) (as := [(0, a2)]) (rest := [(4, x3)]) (C' := 0) (D' := 0) (cn := 1) rfl k0_X1_listOf kV_X1_listOf kl_X1_67 ⟨by decide, by decide⟩ dX1_become_89 rfl rfl (Nat.le_of_ble_eq_true rfl) (by decide) (by decide) rfl h (fun r hr => m_X1_listOf hl0 ⟨r, hr, hr⟩) (fun x5 τ6 _ h => ?_)
      refine r_callV (K' := Y_X5_copyFrom) (R' := R_X5_copyFrom) (idx := 95) (n := 1) (b := x3) (as := [(4, x5)]) (rest := []) (C' := 0) (D' := 0) (cn := 5) rfl k0_X5_copyFrom kV_X5_copyFrom kl_X1_95 ⟨by decide, by decide⟩ dX1_become_92 rfl rfl (Nat.le_of_ble_eq_true rfl) (by decide) (by decide) rfl h (fun r hr => m_X5_copyFrom hl0 ⟨r, hr, hr⟩) (fun _ τ8 _ h => ?_)
      refine r_iinc (L' := [(2, (0, (w32 (a2 + 1)))), (0, (4, a0)), (1, (4, a1))]) 2 dX1_become_95 rfl (by decide) rfl ?_
      refine r_goto 73 dX1_become_98 (by decide) ?_
      refine r_weak (L' := [(0, (4, a0)), (1, (4, a1)), (2, (0, (w32 (a2 + 1))))]) [1, 2, 0] rfl ?_
      refine r_room (C' := 0) (D' := 0) (by omega) (by omega) ?_
      exact ih _ _ _ _ h

set_option maxRecDepth 100000 in
set_option maxHeartbeats 4000000 in
theorem t_X1_become_23 {g : zF} (hl0 : g.2.2.2.1.stackTraces = false) {Q : zR × zS → Prop}   {a0 a1 : Int} {σ : zS} (h : zo (f_X1_become_23  a0 a1 σ) Q) : zw g Y_X1_become R_X1_become 23 [(0, (4, a0)), (1, (4, a1))] [] σ 0 0 Q := by
  unfold f_X1_become_23 at h
  refine r_aload_n 0 dX1_become_23 rfl ?_
  refine r_getr fd_X1_18 rfl dX1_become_24 h (fun x1 h => ?_)
  refine r_aload_n 1 dX1_become_27 rfl ?_
  refine r_getr fd_X1_18 rfl dX1_become_28 h (fun x2 h => ?_)
  refine r_callV (K' := Y_X3_copyFrom) (R' := R_X3_copyFrom) (idx := 79) (n := 1) (b := x1) (as := [(4, x2)]) (rest := []) (C' := 0) (D' := 0) (cn := 3) rfl k0_X3_copyFrom kV_X3_copyFrom kl_X1_79 ⟨by decide, by decide⟩ dX1_become_31 rfl rfl (Nat.le_of_ble_eq_true rfl) (by decide) (by decide) rfl h (fun r hr => m_X3_copyFrom hl0 ⟨r, hr, hr⟩) (fun _ τ4 _ h => ?_)
  refine r_aload_n 0 dX1_become_34 rfl ?_
  refine r_getr fd_X1_22 rfl dX1_become_35 h (fun x5 h => ?_)
  refine r_aload_n 1 dX1_become_38 rfl ?_
  refine r_getr fd_X1_22 rfl dX1_become_39 h (fun x6 h => ?_)
  refine r_callV (K' := Y_X3_copyFrom) (R' := R_X3_copyFrom) (idx := 79) (n := 1) (b := x5) (as := [(4, x6)]) (rest := []) (C' := 0) (D' := 0) (cn := 3) rfl k0_X3_copyFrom kV_X3_copyFrom kl_X1_79 ⟨by decide, by decide⟩ dX1_become_42 rfl rfl (Nat.le_of_ble_eq_true rfl) (by decide) (by decide) rfl h (fun r hr => m_X3_copyFrom hl0 ⟨r, hr, hr⟩) (fun _ τ8 _ h => ?_)
  refine r_aload_n 1 dX1_become_45 rfl ?_
  refine r_getr fd_X1_25 rfl dX1_become_46 h (fun x9 h => ?_)
  refine r_iconst (v := 0) dX1_become_49 rfl rfl ?_
  refine r_aload_n 0 dX1_become_50 rfl ?_
  refine r_getr fd_X1_25 rfl dX1_become_51 h (fun x10 h => ?_)
  refine r_iconst (v := 0) dX1_become_54 rfl rfl ?_
  refine r_aload_n 1 dX1_become_55 rfl ?_
  refine r_getr fd_X1_25 rfl dX1_become_56 h (fun x11 h => ?_)
  refine r_alen dX1_become_59 h (fun x12 h => ?_)
  refine r_aload_n 0 dX1_become_60 rfl ?_
  refine r_getr fd_X1_25 rfl dX1_become_61 h (fun x13 h => ?_)
  refine r_alen dX1_become_64 h (fun x14 h => ?_)
  refine r_mmin mq_X1_83 ⟨by decide, Nat.le_of_ble_eq_true rfl⟩ rfl dX1_become_65 ?_
  refine r_acopy ac_X1_89 ⟨by decide, Nat.le_of_ble_eq_true rfl⟩ dX1_become_68 h (fun τ15 h => ?_)
  refine r_iconst (v := 0) dX1_become_71 rfl rfl ?_
  refine r_istore_n (L' := [(2, (0, 0)), (0, (4, a0)), (1, (4, a1))]) dX1_become_72 (by decide) rfl ?_
  refine r_weak (L' := [(0, (4, a0)), (1, (4, a1)), (2, (0, 0))]) [1, 2, 0] rfl ?_
  refine r_room (C' := 0) (D' := 0) (by omega) (by omega) ?_
  exact t_X1_become_73 hl0    zFU _ _ _ _ h

set_option maxRecDepth 100000 in
set_option maxHeartbeats 4000000 in
theorem t_X1_become_2 {g : zF} (hl0 : g.2.2.2.1.stackTraces = false) {Q : zR × zS → Prop}   : ∀ (n : Nat) (a0 a1 a2 : Int) (σ : zS), zo (f_X1_become_2  n a0 a1 a2 σ) Q → zw g Y_X1_become R_X1_become 2 [(0, (4, a0)), (1, (4, a1)), (2, (0, a2))] [] σ 0 0 Q := by
  intro n
  induction n with
  | zero => intro a0 a1 a2 σ h; obtain ⟨r, h, -⟩ := h; cases h
  | succ n ih =>
    intro a0 a1 a2 σ h
    unfold f_X1_become_2 at h
    refine r_iload_n 2 dX1_become_2 rfl ?_
    refine r_iconst (v := 5) dX1_become_3 rfl rfl ?_
    refine r_icmp_ge 23 dX1_become_4 (by decide) h (fun h => ?_) (fun h => ?_)
    · refine r_weak (L' := [(0, (4, a0)), (1, (4, a1))]) [0, 1] rfl ?_
      refine r_room (C' := 0) (D' := 0) (by omega) (by omega) ?_
      exact t_X1_become_23 hl0    h
    · refine r_aload_n 0 dX1_become_7 rfl ?_
      refine r_iload_n 2 dX1_become_8 rfl ?_
      refine r_aload_n 1 dX1_become_9 rfl ?_
      refine r_iload_n 2 dX1_become_10 rfl ?_
      refine r_callV (K' := Y_X1_rule) (R' := R_X1_rule) (idx := 75) (n := 1) (b := a1) (as := [(0, a2)]) (rest := [(0, a2), (4, a0)]) (C' := 0) (D' := 0) (cn := 1) rfl k0_X1_rule kV_X1_rule kl_X1_75 ⟨by decide, by decide⟩ dX1_become_11 rfl rfl (Nat.le_of_ble_eq_true rfl) (by decide) (by decide) rfl h (fun r hr => m_X1_rule hl0 ⟨r, hr, hr⟩) (fun x1 τ2 _ h => ?_)
      refine r_callV (K' := Y_X1_putRule) (R' := R_X1_putRule) (idx := 53) (n := 2) (b := a0) (as := [(0, a2), (0, x1)]) (rest := []) (C' := 0) (D' := 0) (cn := 1) rfl k0_X1_putRule kV_X1_putRule kl_X1_53 ⟨by decide, by decide⟩ dX1_become_14 rfl rfl (Nat.le_of_ble_eq_true rfl) (by decide) (by decide) rfl h (fun r hr => m_X1_putRule hl0 ⟨r, hr, hr⟩) (fun _ τ4 _ h => ?_)
      refine r_iinc (L' := [(2, (0, (w32 (a2 + 1)))), (0, (4, a0)), (1, (4, a1))]) 2 dX1_become_17 rfl (by decide) rfl ?_
      refine r_goto 2 dX1_become_20 (by decide) ?_
      refine r_weak (L' := [(0, (4, a0)), (1, (4, a1)), (2, (0, (w32 (a2 + 1))))]) [1, 2, 0] rfl ?_
      refine r_room (C' := 0) (D' := 0) (by omega) (by omega) ?_
      exact ih _ _ _ _ h

set_option maxRecDepth 100000 in
set_option maxHeartbeats 4000000 in
theorem t_X1_become {g : zF} (hl0 : g.2.2.2.1.stackTraces = false) {Q : zR × zS → Prop}   {a0 a1 : Int} {σ : zS} (h : zo (f_X1_become  a0 a1 σ) Q) : zw g Y_X1_become R_X1_become 0 [(0, (4, a0)), (1, (4, a1))] [] σ 0 0 Q := by
  unfold f_X1_become at h
  refine r_iconst (v := 0) dX1_become_0 rfl rfl ?_
  refine r_istore_n (L' := [(2, (0, 0)), (0, (4, a0)), (1, (4, a1))]) dX1_become_1 (by decide) rfl ?_
  refine r_weak (L' := [(0, (4, a0)), (1, (4, a1)), (2, (0, 0))]) [1, 2, 0] rfl ?_
  refine r_room (C' := 0) (D' := 0) (by omega) (by omega) ?_
  exact t_X1_become_2 hl0    zFU _ _ _ _ h
theorem m_X1_become {g : zF} (hl0 : g.2.2.2.1.stackTraces = false) {Q : zR × zS → Prop} {a0 a1 : Int} {σ : zS} (h : zo (f_X1_become a0 a1 σ) Q) : zm g Y_X1_become R_X1_become [(4, a0), (4, a1)] σ Q := zm_of (by decide) rfl (Nat.le_of_ble_eq_true rfl) (t_X1_become hl0 h)


/- X1_trustIn -/

set_option maxRecDepth 100000 in
set_option maxHeartbeats 4000000 in
theorem t_X1_trustIn {g : zF} (hl0 : g.2.2.2.1.stackTraces = false) {Q : zR × zS → Prop}   {a0 a1 a2 : Int} {σ : zS} (h : zo (f_X1_trustIn  a0 a1 a2 σ) Q) : zw g Y_X1_trustIn R_X1_trustIn 0 [(0, (4, a0)), (1, (0, a1)), (2, (0, a2))] [] σ 0 0 Q := by
  unfold f_X1_trustIn at h
  refine r_iload_n 1 dX1_trustIn_0 rfl ?_
  refine r_if_lt 20 dX1_trustIn_1 (by decide) h (fun h => ?_) (fun h => ?_)
  · refine r_iconst (v := (-1)) dX1_trustIn_20 rfl rfl ?_
    exact r_iret rfl dX1_trustIn_21 h
  · refine r_iload_n 1 dX1_trustIn_4 rfl ?_
    refine r_bipush (v := 6) dX1_trustIn_5 rfl rfl ?_
    refine r_icmp_ge 20 dX1_trustIn_7 (by decide) h (fun h => ?_) (fun h => ?_)
    · refine r_iconst (v := (-1)) dX1_trustIn_20 rfl rfl ?_
      exact r_iret rfl dX1_trustIn_21 h
    · refine r_iload_n 2 dX1_trustIn_10 rfl ?_
      refine r_if_lt 20 dX1_trustIn_11 (by decide) h (fun h => ?_) (fun h => ?_)
      · refine r_iconst (v := (-1)) dX1_trustIn_20 rfl rfl ?_
        exact r_iret rfl dX1_trustIn_21 h
      · refine r_iload_n 2 dX1_trustIn_14 rfl ?_
        refine r_bipush (v := 6) dX1_trustIn_15 rfl rfl ?_
        refine r_icmp_lt 22 dX1_trustIn_17 (by decide) h (fun h => ?_) (fun h => ?_)
        · refine r_iload_n 1 dX1_trustIn_22 rfl ?_
          refine r_bipush (v := 6) dX1_trustIn_23 rfl rfl ?_
          refine r_imul dX1_trustIn_25 ?_
          refine r_iload_n 2 dX1_trustIn_26 rfl ?_
          refine r_iadd dX1_trustIn_27 ?_
          refine r_istore_n (L' := [(3, (0, (w32 ((w32 (a1 * 6)) + a2)))), (0, (4, a0)), (1, (0, a1)), (2, (0, a2))]) dX1_trustIn_28 (by decide) rfl ?_
          refine r_iload_n 0 dX1_trustIn_29 rfl ?_
          refine r_aload_n 1 dX1_trustIn_30 rfl ?_
          refine r_getr fd_X1_25 rfl dX1_trustIn_31 h (fun x1 h => ?_)
          refine r_alen dX1_trustIn_34 h (fun x2 h => ?_)
          refine r_icmp_ge 47 dX1_trustIn_35 (by decide) h (fun h => ?_) (fun h => ?_)
          · refine r_iconst (v := (-1)) dX1_trustIn_47 rfl rfl ?_
            exact r_iret rfl dX1_trustIn_48 h
          · refine r_aload_n 1 dX1_trustIn_38 rfl ?_
            refine r_getr fd_X1_25 rfl dX1_trustIn_39 h (fun x3 h => ?_)
            refine r_iload_n 0 dX1_trustIn_42 rfl ?_
            refine r_iald dX1_trustIn_43 h (fun x4 h => ?_)
            refine r_goto 48 dX1_trustIn_44 (by decide) ?_
            exact r_iret rfl dX1_trustIn_48 h
        · refine r_iconst (v := (-1)) dX1_trustIn_20 rfl rfl ?_
          exact r_iret rfl dX1_trustIn_21 h
theorem m_X1_trustIn {g : zF} (hl0 : g.2.2.2.1.stackTraces = false) {Q : zR × zS → Prop} {a0 a1 a2 : Int} {σ : zS} (h : zo (f_X1_trustIn a0 a1 a2 σ) Q) : zm g Y_X1_trustIn R_X1_trustIn [(4, a0), (0, a1), (0, a2)] σ Q := zm_of (by decide) rfl (Nat.le_of_ble_eq_true rfl) (t_X1_trustIn hl0 h)


/- X1_putTrust -/

set_option maxRecDepth 100000 in
set_option maxHeartbeats 4000000 in
theorem t_X1_putTrust {g : zF} (hl0 : g.2.2.2.1.stackTraces = false) {Q : zR × zS → Prop}   {a0 a1 a2 a3 : Int} {σ : zS} (h : zo (f_X1_putTrust  a0 a1 a2 a3 σ) Q) : zw g Y_X1_putTrust R_X1_putTrust 0 [(0, (4, a0)), (1, (0, a1)), (2, (0, a2)), (3, (0, a3))] [] σ 0 0 Q := by
  unfold f_X1_putTrust at h
  refine r_iload_n 1 dX1_putTrust_0 rfl ?_
  refine r_if_lt 20 dX1_putTrust_1 (by decide) h (fun h => ?_) (fun h => ?_)
  · exact r_vret rfl dX1_putTrust_20 h
  · refine r_iload_n 1 dX1_putTrust_4 rfl ?_
    refine r_bipush (v := 6) dX1_putTrust_5 rfl rfl ?_
    refine r_icmp_ge 20 dX1_putTrust_7 (by decide) h (fun h => ?_) (fun h => ?_)
    · exact r_vret rfl dX1_putTrust_20 h
    · refine r_iload_n 2 dX1_putTrust_10 rfl ?_
      refine r_if_lt 20 dX1_putTrust_11 (by decide) h (fun h => ?_) (fun h => ?_)
      · exact r_vret rfl dX1_putTrust_20 h
      · refine r_iload_n 2 dX1_putTrust_14 rfl ?_
        refine r_bipush (v := 6) dX1_putTrust_15 rfl rfl ?_
        refine r_icmp_lt 21 dX1_putTrust_17 (by decide) h (fun h => ?_) (fun h => ?_)
        · refine r_iload_n 1 dX1_putTrust_21 rfl ?_
          refine r_bipush (v := 6) dX1_putTrust_22 rfl rfl ?_
          refine r_imul dX1_putTrust_24 ?_
          refine r_iload_n 2 dX1_putTrust_25 rfl ?_
          refine r_iadd dX1_putTrust_26 ?_
          refine r_istore (L' := [(4, (0, (w32 ((w32 (a1 * 6)) + a2)))), (0, (4, a0)), (1, (0, a1)), (2, (0, a2)), (3, (0, a3))]) dX1_putTrust_27 (by decide) rfl ?_
          refine r_iload 0 dX1_putTrust_29 rfl ?_
          refine r_aload_n 1 dX1_putTrust_31 rfl ?_
          refine r_getr fd_X1_25 rfl dX1_putTrust_32 h (fun x1 h => ?_)
          refine r_alen dX1_putTrust_35 h (fun x2 h => ?_)
          refine r_icmp_ge 47 dX1_putTrust_36 (by decide) h (fun h => ?_) (fun h => ?_)
          · exact r_vret rfl dX1_putTrust_47 h
          · refine r_aload_n 1 dX1_putTrust_39 rfl ?_
            refine r_getr fd_X1_25 rfl dX1_putTrust_40 h (fun x3 h => ?_)
            refine r_iload 0 dX1_putTrust_43 rfl ?_
            refine r_iload_n 4 dX1_putTrust_45 rfl ?_
            refine r_iast dX1_putTrust_46 h (fun τ4 h => ?_)
            exact r_vret rfl dX1_putTrust_47 h
        · exact r_vret rfl dX1_putTrust_20 h
theorem m_X1_putTrust {g : zF} (hl0 : g.2.2.2.1.stackTraces = false) {Q : zR × zS → Prop} {a0 a1 a2 a3 : Int} {σ : zS} (h : zo (f_X1_putTrust a0 a1 a2 a3 σ) Q) : zm g Y_X1_putTrust R_X1_putTrust [(4, a0), (0, a1), (0, a2), (0, a3)] σ Q := zm_of (by decide) rfl (Nat.le_of_ble_eq_true rfl) (t_X1_putTrust hl0 h)


/- X1_isLinked -/

set_option maxRecDepth 100000 in
set_option maxHeartbeats 4000000 in
theorem t_X1_isLinked {g : zF} (hl0 : g.2.2.2.1.stackTraces = false) {Q : zR × zS → Prop}   {a0 a1 a2 : Int} {σ : zS} (h : zo (f_X1_isLinked  a0 a1 a2 σ) Q) : zw g Y_X1_isLinked R_X1_isLinked 0 [(0, (4, a0)), (1, (0, a1)), (2, (0, a2))] [] σ 0 0 Q := by
  unfold f_X1_isLinked at h
  refine r_aload_n 0 dX1_isLinked_0 rfl ?_
  refine r_iload_n 1 dX1_isLinked_1 rfl ?_
  refine r_iload_n 2 dX1_isLinked_2 rfl ?_
  refine r_callV (K' := Y_X1_trustIn) (R' := R_X1_trustIn) (idx := 98) (n := 2) (b := a0) (as := [(0, a1), (0, a2)]) (rest := []) (C' := 0) (D' := 0) (cn := 1) rfl k0_X1_trustIn kV_X1_trustIn kl_X1_98 ⟨by decide, by decide⟩ dX1_isLinked_3 rfl rfl (Nat.le_of_ble_eq_true rfl) (by decide) (by decide) rfl h (fun r hr => m_X1_trustIn hl0 ⟨r, hr, hr⟩) (fun x1 τ2 _ h => ?_)
  refine r_iconst (v := (-1)) dX1_isLinked_6 rfl rfl ?_
  refine r_icmp_eq 14 dX1_isLinked_7 (by decide) h (fun h => ?_) (fun h => ?_)
  · refine r_iconst (v := 0) dX1_isLinked_14 rfl rfl ?_
    exact r_zretc (by decide) rfl dX1_isLinked_15 h
  · refine r_iconst (v := 1) dX1_isLinked_10 rfl rfl ?_
    refine r_goto 15 dX1_isLinked_11 (by decide) ?_
    exact r_zretc (by decide) rfl dX1_isLinked_15 h
theorem m_X1_isLinked {g : zF} (hl0 : g.2.2.2.1.stackTraces = false) {Q : zR × zS → Prop} {a0 a1 a2 : Int} {σ : zS} (h : zo (f_X1_isLinked a0 a1 a2 σ) Q) : zm g Y_X1_isLinked R_X1_isLinked [(4, a0), (0, a1), (0, a2)] σ Q := zm_of (by decide) rfl (Nat.le_of_ble_eq_true rfl) (t_X1_isLinked hl0 h)


/- X1_linkCount -/

set_option maxRecDepth 100000 in
set_option maxHeartbeats 4000000 in
theorem t_X1_linkCount_48 {g : zF} (hl0 : g.2.2.2.1.stackTraces = false) {Q : zR × zS → Prop} (r4 : Int → Int → Int → zS → zFn) (hr4 : ∀ b0 b1 b2 τ, zo (r4 b0 b1 b2 τ) Q → zw g Y_X1_linkCount R_X1_linkCount 4 [(0, (4, b0)), (1, (0, b1)), (2, (0, b2))] [] τ 0 0 Q) {a0 a1 a2 : Int} {σ : zS} (h : zo (f_X1_linkCount_48 r4 a0 a1 a2 σ) Q) : zw g Y_X1_linkCount R_X1_linkCount 48 [(0, (4, a0)), (1, (0, a1)), (2, (0, a2))] [] σ 0 0 Q := by
  unfold f_X1_linkCount_48 at h
  refine r_iinc (L' := [(2, (0, (w32 (a2 + 1)))), (0, (4, a0)), (1, (0, a1))]) 2 dX1_linkCount_48 rfl (by decide) rfl ?_
  refine r_goto 4 dX1_linkCount_51 (by decide) ?_
  refine r_weak (L' := [(0, (4, a0)), (1, (0, a1)), (2, (0, (w32 (a2 + 1))))]) [1, 2, 0] rfl ?_
  refine r_room (C' := 0) (D' := 0) (by omega) (by omega) ?_
  exact hr4 _ _ _ _ h

set_option maxRecDepth 100000 in
set_option maxHeartbeats 4000000 in
theorem t_X1_linkCount_42 {g : zF} (hl0 : g.2.2.2.1.stackTraces = false) {Q : zR × zS → Prop} (r4 : Int → Int → Int → zS → zFn) (r19 : Int → Int → Int → Int → zS → zFn) (hr4 : ∀ b0 b1 b2 τ, zo (r4 b0 b1 b2 τ) Q → zw g Y_X1_linkCount R_X1_linkCount 4 [(0, (4, b0)), (1, (0, b1)), (2, (0, b2))] [] τ 0 0 Q) (hr19 : ∀ b0 b1 b2 b3 τ, zo (r19 b0 b1 b2 b3 τ) Q → zw g Y_X1_linkCount R_X1_linkCount 19 [(0, (4, b0)), (1, (0, b1)), (2, (0, b2)), (3, (0, b3))] [] τ 0 0 Q) {a0 a1 a2 a3 : Int} {σ : zS} (h : zo (f_X1_linkCount_42 r4 r19 a0 a1 a2 a3 σ) Q) : zw g Y_X1_linkCount R_X1_linkCount 42 [(0, (4, a0)), (1, (0, a1)), (2, (0, a2)), (3, (0, a3))] [] σ 0 0 Q := by
  unfold f_X1_linkCount_42 at h
  refine r_iinc (L' := [(3, (0, (w32 (a3 + 1)))), (0, (4, a0)), (1, (0, a1)), (2, (0, a2))]) 3 dX1_linkCount_42 rfl (by decide) rfl ?_
  refine r_goto 19 dX1_linkCount_45 (by decide) ?_
  refine r_weak (L' := [(0, (4, a0)), (1, (0, a1)), (2, (0, a2)), (3, (0, (w32 (a3 + 1))))]) [1, 2, 3, 0] rfl ?_
  refine r_room (C' := 0) (D' := 0) (by omega) (by omega) ?_
  exact hr19 _ _ _ _ _ h

set_option maxRecDepth 100000 in
set_option maxHeartbeats 4000000 in
theorem t_X1_linkCount_19 {g : zF} (hl0 : g.2.2.2.1.stackTraces = false) {Q : zR × zS → Prop} (r4 : Int → Int → Int → zS → zFn) (hr4 : ∀ b0 b1 b2 τ, zo (r4 b0 b1 b2 τ) Q → zw g Y_X1_linkCount R_X1_linkCount 4 [(0, (4, b0)), (1, (0, b1)), (2, (0, b2))] [] τ 0 0 Q) : ∀ (n : Nat) (a0 a1 a2 a3 : Int) (σ : zS), zo (f_X1_linkCount_19 r4 n a0 a1 a2 a3 σ) Q → zw g Y_X1_linkCount R_X1_linkCount 19 [(0, (4, a0)), (1, (0, a1)), (2, (0, a2)), (3, (0, a3))] [] σ 0 0 Q := by
  intro n
  induction n with
  | zero => intro a0 a1 a2 a3 σ h; obtain ⟨r, h, -⟩ := h; cases h
  | succ n ih =>
    intro a0 a1 a2 a3 σ h
    unfold f_X1_linkCount_19 at h
    refine r_iload_n 3 dX1_linkCount_19 rfl ?_
    refine r_aload_n 0 dX1_linkCount_20 rfl ?_
    refine r_getr fd_X1_18 rfl dX1_linkCount_21 h (fun x1 h => ?_)
    refine r_getf fd_X1_57 rfl dX1_linkCount_24 h (fun x2 h => ?_)
    refine r_icmp_ge 48 dX1_linkCount_27 (by decide) h (fun h => ?_) (fun h => ?_)
    · refine r_weak (L' := [(0, (4, a0)), (1, (0, a1)), (2, (0, a2))]) [0, 1, 2] rfl ?_
      refine r_room (C' := 0) (D' := 0) (by omega) (by omega) ?_
      exact t_X1_linkCount_48 hl0  r4 hr4 h
    · refine r_aload_n 0 dX1_linkCount_30 rfl ?_
      refine r_iload_n 2 dX1_linkCount_31 rfl ?_
      refine r_iload_n 3 dX1_linkCount_32 rfl ?_
      refine r_callV (K' := Y_X1_isLinked) (R' := R_X1_isLinked) (idx := 101) (n := 2) (b := a0) (as := [(0, a2), (0, a3)]) (rest := []) (C' := 0) (D' := 0) (cn := 1) rfl k0_X1_isLinked kV_X1_isLinked kl_X1_101 ⟨by decide, by decide⟩ dX1_linkCount_33 rfl rfl (Nat.le_of_ble_eq_true rfl) (by decide) (by decide) rfl h (fun r hr => m_X1_isLinked hl0 ⟨r, hr, hr⟩) (fun x3 τ4 _ h => ?_)
      refine r_if_eq 42 dX1_linkCount_36 (by decide) h (fun h => ?_) (fun h => ?_)
      · refine r_room (C' := 0) (D' := 0) (by omega) (by omega) ?_
        exact t_X1_linkCount_42 hl0  r4 (f_X1_linkCount_19 r4 n) hr4 (fun b0 b1 b2 b3 τ h => ih b0 b1 b2 b3 τ h) h
      · refine r_iinc (L' := [(1, (0, (w32 (a1 + 1)))), (0, (4, a0)), (2, (0, a2)), (3, (0, a3))]) 1 dX1_linkCount_39 rfl (by decide) rfl ?_
        refine r_weak (L' := [(0, (4, a0)), (1, (0, (w32 (a1 + 1)))), (2, (0, a2)), (3, (0, a3))]) [1, 0, 2, 3] rfl ?_
        refine r_room (C' := 0) (D' := 0) (by omega) (by omega) ?_
        exact t_X1_linkCount_42 hl0  r4 (f_X1_linkCount_19 r4 n) hr4 (fun b0 b1 b2 b3 τ h => ih b0 b1 b2 b3 τ h) h

set_option maxRecDepth 100000 in
set_option maxHeartbeats 4000000 in
theorem t_X1_linkCount_4 {g : zF} (hl0 : g.2.2.2.1.stackTraces = false) {Q : zR × zS → Prop}   : ∀ (n : Nat) (a0 a1 a2 : Int) (σ : zS), zo (f_X1_linkCount_4  n a0 a1 a2 σ) Q → zw g Y_X1_linkCount R_X1_linkCount 4 [(0, (4, a0)), (1, (0, a1)), (2, (0, a2))] [] σ 0 0 Q := by
  intro n
  induction n with
  | zero => intro a0 a1 a2 σ h; obtain ⟨r, h, -⟩ := h; cases h
  | succ n ih =>
    intro a0 a1 a2 σ h
    unfold f_X1_linkCount_4 at h
    refine r_iload_n 2 dX1_linkCount_4 rfl ?_
    refine r_aload_n 0 dX1_linkCount_5 rfl ?_
    refine r_getr fd_X1_18 rfl dX1_linkCount_6 h (fun x1 h => ?_)
    refine r_getf fd_X1_57 rfl dX1_linkCount_9 h (fun x2 h => ?_)
    refine r_icmp_ge 54 dX1_linkCount_12 (by decide) h (fun h => ?_) (fun h => ?_)
    · refine r_iload_n 1 dX1_linkCount_54 rfl ?_
      exact r_iret rfl dX1_linkCount_55 h
    · refine r_iload_n 2 dX1_linkCount_15 rfl ?_
      refine r_iconst (v := 1) dX1_linkCount_16 rfl rfl ?_
      refine r_iadd dX1_linkCount_17 ?_
      refine r_istore_n (L' := [(3, (0, (w32 (a2 + 1)))), (0, (4, a0)), (1, (0, a1)), (2, (0, a2))]) dX1_linkCount_18 (by decide) rfl ?_
      refine r_weak (L' := [(0, (4, a0)), (1, (0, a1)), (2, (0, a2)), (3, (0, (w32 (a2 + 1))))]) [1, 2, 3, 0] rfl ?_
      refine r_room (C' := 0) (D' := 0) (by omega) (by omega) ?_
      exact t_X1_linkCount_19 hl0  (f_X1_linkCount_4  n) (fun b0 b1 b2 τ h => ih b0 b1 b2 τ h) zFU _ _ _ _ _ h

set_option maxRecDepth 100000 in
set_option maxHeartbeats 4000000 in
theorem t_X1_linkCount {g : zF} (hl0 : g.2.2.2.1.stackTraces = false) {Q : zR × zS → Prop}   {a0 : Int} {σ : zS} (h : zo (f_X1_linkCount  a0 σ) Q) : zw g Y_X1_linkCount R_X1_linkCount 0 [(0, (4, a0))] [] σ 0 0 Q := by
  unfold f_X1_linkCount at h
  refine r_iconst (v := 0) dX1_linkCount_0 rfl rfl ?_
  refine r_istore_n (L' := [(1, (0, 0)), (0, (4, a0))]) dX1_linkCount_1 (by decide) rfl ?_
  refine r_iconst (v := 0) dX1_linkCount_2 rfl rfl ?_
  refine r_istore_n (L' := [(2, (0, 0)), (1, (0, 0)), (0, (4, a0))]) dX1_linkCount_3 (by decide) rfl ?_
  refine r_weak (L' := [(0, (4, a0)), (1, (0, 0)), (2, (0, 0))]) [2, 1, 0] rfl ?_
  refine r_room (C' := 0) (D' := 0) (by omega) (by omega) ?_
  exact t_X1_linkCount_4 hl0    zFU _ _ _ _ h
theorem m_X1_linkCount {g : zF} (hl0 : g.2.2.2.1.stackTraces = false) {Q : zR × zS → Prop} {a0 : Int} {σ : zS} (h : zo (f_X1_linkCount a0 σ) Q) : zm g Y_X1_linkCount R_X1_linkCount [(4, a0)] σ Q := zm_of (by decide) rfl (Nat.le_of_ble_eq_true rfl) (t_X1_linkCount hl0 h)


/- X1_accountPlace -/

set_option maxRecDepth 100000 in
set_option maxHeartbeats 4000000 in
theorem t_X1_accountPlace_24 {g : zF} (hl0 : g.2.2.2.1.stackTraces = false) {Q : zR × zS → Prop}   {a0 a1 s0 : Int} {σ : zS} (h : zo (f_X1_accountPlace_24  a0 a1 s0 σ) Q) : zw g Y_X1_accountPlace R_X1_accountPlace 24 [(0, (0, a0)), (1, (0, a1))] [(0, s0)] σ 0 0 Q := by
  unfold f_X1_accountPlace_24 at h
  refine r_istore_n (L' := [(2, (0, s0)), (0, (0, a0)), (1, (0, a1))]) dX1_accountPlace_24 (by decide) rfl ?_
  refine r_iload_n 0 dX1_accountPlace_25 rfl ?_
  refine r_if_eq 37 dX1_accountPlace_26 (by decide) h (fun h => ?_) (fun h => ?_)
  · refine r_iconst (v := (-1)) dX1_accountPlace_37 rfl rfl ?_
    exact r_iret rfl dX1_accountPlace_38 h
  · refine r_iload_n 1 dX1_accountPlace_29 rfl ?_
    refine r_iconst (v := 5) dX1_accountPlace_30 rfl rfl ?_
    refine r_imul dX1_accountPlace_31 ?_
    refine r_iload_n 2 dX1_accountPlace_32 rfl ?_
    refine r_iadd dX1_accountPlace_33 ?_
    refine r_goto 38 dX1_accountPlace_34 (by decide) ?_
    exact r_iret rfl dX1_accountPlace_38 h

set_option maxRecDepth 100000 in
set_option maxHeartbeats 4000000 in
theorem t_X1_accountPlace_23 {g : zF} (hl0 : g.2.2.2.1.stackTraces = false) {Q : zR × zS → Prop}   {a0 a1 : Int} {σ : zS} (h : zo (f_X1_accountPlace_23  a0 a1 σ) Q) : zw g Y_X1_accountPlace R_X1_accountPlace 23 [(0, (0, a0)), (1, (0, a1))] [] σ 0 0 Q := by
  unfold f_X1_accountPlace_23 at h
  refine r_iconst (v := 0) dX1_accountPlace_23 rfl rfl ?_
  refine r_room (C' := 0) (D' := 0) (by omega) (by omega) ?_
  exact t_X1_accountPlace_24 hl0    h

set_option maxRecDepth 100000 in
set_option maxHeartbeats 4000000 in
theorem t_X1_accountPlace {g : zF} (hl0 : g.2.2.2.1.stackTraces = false) {Q : zR × zS → Prop}   {a0 a1 : Int} {σ : zS} (h : zo (f_X1_accountPlace  a0 a1 σ) Q) : zw g Y_X1_accountPlace R_X1_accountPlace 0 [(0, (0, a0)), (1, (0, a1))] [] σ 0 0 Q := by
  unfold f_X1_accountPlace at h
  refine r_iload_n 0 dX1_accountPlace_0 rfl ?_
  refine r_if_lt 23 dX1_accountPlace_1 (by decide) h (fun h => ?_) (fun h => ?_)
  · refine r_room (C' := 0) (D' := 0) (by omega) (by omega) ?_
    exact t_X1_accountPlace_23 hl0    h
  · refine r_iload_n 0 dX1_accountPlace_4 rfl ?_
    refine r_bipush (v := 6) dX1_accountPlace_5 rfl rfl ?_
    refine r_icmp_ge 23 dX1_accountPlace_7 (by decide) h (fun h => ?_) (fun h => ?_)
    · refine r_room (C' := 0) (D' := 0) (by omega) (by omega) ?_
      exact t_X1_accountPlace_23 hl0    h
    · refine r_iload_n 1 dX1_accountPlace_10 rfl ?_
      refine r_if_lt 23 dX1_accountPlace_11 (by decide) h (fun h => ?_) (fun h => ?_)
      · refine r_room (C' := 0) (D' := 0) (by omega) (by omega) ?_
        exact t_X1_accountPlace_23 hl0    h
      · refine r_iload_n 1 dX1_accountPlace_14 rfl ?_
        refine r_iconst (v := 5) dX1_accountPlace_15 rfl rfl ?_
        refine r_icmp_ge 23 dX1_accountPlace_16 (by decide) h (fun h => ?_) (fun h => ?_)
        · refine r_room (C' := 0) (D' := 0) (by omega) (by omega) ?_
          exact t_X1_accountPlace_23 hl0    h
        · refine r_iconst (v := 1) dX1_accountPlace_19 rfl rfl ?_
          refine r_goto 24 dX1_accountPlace_20 (by decide) ?_
          refine r_room (C' := 0) (D' := 0) (by omega) (by omega) ?_
          exact t_X1_accountPlace_24 hl0    h
theorem m_X1_accountPlace {g : zF} (hl0 : g.2.2.2.1.stackTraces = false) {Q : zR × zS → Prop} {a0 a1 : Int} {σ : zS} (h : zo (f_X1_accountPlace a0 a1 σ) Q) : zm g Y_X1_accountPlace R_X1_accountPlace [(0, a0), (0, a1)] σ Q := zm_of (by decide) rfl (Nat.le_of_ble_eq_true rfl) (t_X1_accountPlace hl0 h)


/- X1_tally -/

set_option maxRecDepth 100000 in
set_option maxHeartbeats 4000000 in
theorem t_X1_tally {g : zF} (hl0 : g.2.2.2.1.stackTraces = false) {Q : zR × zS → Prop}   {a0 a1 a2 : Int} {σ : zS} (h : zo (f_X1_tally  a0 a1 a2 σ) Q) : zw g Y_X1_tally R_X1_tally 0 [(0, (4, a0)), (1, (0, a1)), (2, (0, a2))] [] σ 0 0 Q := by
  unfold f_X1_tally at h
  refine r_iload_n 1 dX1_tally_0 rfl ?_
  refine r_iload_n 2 dX1_tally_1 rfl ?_
  refine r_callS (K' := Y_X1_accountPlace) (R' := R_X1_accountPlace) (idx := 108) (n := 2) (as := [(0, a1), (0, a2)]) (rest := []) (C' := 0) (D' := 0) rfl k0_X1_accountPlace wd_890 kl_X1_108 ⟨by decide, by decide⟩ dX1_tally_2 rfl rfl (Nat.le_of_ble_eq_true rfl) (by decide) (by decide) h (fun r hr => m_X1_accountPlace hl0 ⟨r, hr, hr⟩) (fun x1 τ2 _ h => ?_)
  refine r_istore_n (L' := [(3, (0, x1)), (0, (4, a0)), (1, (0, a1)), (2, (0, a2))]) dX1_tally_5 (by decide) rfl ?_
  refine r_iload_n 0 dX1_tally_6 rfl ?_
  refine r_if_lt 29 dX1_tally_7 (by decide) h (fun h => ?_) (fun h => ?_)
  · exact r_vret rfl dX1_tally_29 h
  · refine r_iload_n 0 dX1_tally_10 rfl ?_
    refine r_aload_n 1 dX1_tally_11 rfl ?_
    refine r_getr fd_X1_44 rfl dX1_tally_12 h (fun x3 h => ?_)
    refine r_alen dX1_tally_15 h (fun x4 h => ?_)
    refine r_icmp_ge 29 dX1_tally_16 (by decide) h (fun h => ?_) (fun h => ?_)
    · exact r_vret rfl dX1_tally_29 h
    · refine r_aload_n 1 dX1_tally_19 rfl ?_
      refine r_getr fd_X1_44 rfl dX1_tally_20 h (fun x5 h => ?_)
      refine r_iload_n 0 dX1_tally_23 rfl ?_
      refine r_dup2 dX1_tally_24 rfl rfl ?_
      refine r_iald dX1_tally_25 h (fun x6 h => ?_)
      refine r_iconst (v := 1) dX1_tally_26 rfl rfl ?_
      refine r_iadd dX1_tally_27 ?_
      refine r_iast dX1_tally_28 h (fun τ7 h => ?_)
      exact r_vret rfl dX1_tally_29 h
theorem m_X1_tally {g : zF} (hl0 : g.2.2.2.1.stackTraces = false) {Q : zR × zS → Prop} {a0 a1 a2 : Int} {σ : zS} (h : zo (f_X1_tally a0 a1 a2 σ) Q) : zm g Y_X1_tally R_X1_tally [(4, a0), (0, a1), (0, a2)] σ Q := zm_of (by decide) rfl (Nat.le_of_ble_eq_true rfl) (t_X1_tally hl0 h)


/- X5_get -/

set_option maxRecDepth 100000 in
set_option maxHeartbeats 4000000 in
theorem t_X5_get {g : zF} (hl0 : g.2.2.2.1.stackTraces = false) {Q : zR × zS → Prop}   {a0 a1 a2 : Int} {σ : zS} (h : zo (f_X5_get  a0 a1 a2 σ) Q) : zw g Y_X5_get R_X5_get 0 [(0, (4, a0)), (1, (0, a1)), (2, (0, a2))] [] σ 0 0 Q := by
  unfold f_X5_get at h
  refine r_iload_n 1 dX5_get_0 rfl ?_
  refine r_if_lt 22 dX5_get_1 (by decide) h (fun h => ?_) (fun h => ?_)
  · refine r_iconst (v := (-1)) dX5_get_22 rfl rfl ?_
    exact r_iret rfl dX5_get_23 h
  · refine r_iload_n 1 dX5_get_4 rfl ?_
    refine r_aload_n 0 dX5_get_5 rfl ?_
    refine r_getf fd_X5_15 rfl dX5_get_6 h (fun x1 h => ?_)
    refine r_icmp_ge 22 dX5_get_9 (by decide) h (fun h => ?_) (fun h => ?_)
    · refine r_iconst (v := (-1)) dX5_get_22 rfl rfl ?_
      exact r_iret rfl dX5_get_23 h
    · refine r_iload_n 2 dX5_get_12 rfl ?_
      refine r_if_lt 22 dX5_get_13 (by decide) h (fun h => ?_) (fun h => ?_)
      · refine r_iconst (v := (-1)) dX5_get_22 rfl rfl ?_
        exact r_iret rfl dX5_get_23 h
      · refine r_iload_n 2 dX5_get_16 rfl ?_
        refine r_bipush (v := 8) dX5_get_17 rfl rfl ?_
        refine r_icmp_lt 24 dX5_get_19 (by decide) h (fun h => ?_) (fun h => ?_)
        · refine r_iload_n 1 dX5_get_24 rfl ?_
          refine r_bipush (v := 8) dX5_get_25 rfl rfl ?_
          refine r_imul dX5_get_27 ?_
          refine r_iload_n 2 dX5_get_28 rfl ?_
          refine r_iadd dX5_get_29 ?_
          refine r_istore_n (L' := [(3, (0, (w32 ((w32 (a1 * 8)) + a2)))), (0, (4, a0)), (1, (0, a1)), (2, (0, a2))]) dX5_get_30 (by decide) rfl ?_
          refine r_iload_n 0 dX5_get_31 rfl ?_
          refine r_if_lt 53 dX5_get_32 (by decide) h (fun h => ?_) (fun h => ?_)
          · refine r_iconst (v := (-1)) dX5_get_53 rfl rfl ?_
            exact r_iret rfl dX5_get_54 h
          · refine r_iload_n 0 dX5_get_35 rfl ?_
            refine r_aload_n 1 dX5_get_36 rfl ?_
            refine r_getr fd_X5_9 rfl dX5_get_37 h (fun x2 h => ?_)
            refine r_alen dX5_get_40 h (fun x3 h => ?_)
            refine r_icmp_ge 53 dX5_get_41 (by decide) h (fun h => ?_) (fun h => ?_)
            · refine r_iconst (v := (-1)) dX5_get_53 rfl rfl ?_
              exact r_iret rfl dX5_get_54 h
            · refine r_aload_n 1 dX5_get_44 rfl ?_
              refine r_getr fd_X5_9 rfl dX5_get_45 h (fun x4 h => ?_)
              refine r_iload_n 0 dX5_get_48 rfl ?_
              refine r_iald dX5_get_49 h (fun x5 h => ?_)
              refine r_goto 54 dX5_get_50 (by decide) ?_
              exact r_iret rfl dX5_get_54 h
        · refine r_iconst (v := (-1)) dX5_get_22 rfl rfl ?_
          exact r_iret rfl dX5_get_23 h
theorem m_X5_get {g : zF} (hl0 : g.2.2.2.1.stackTraces = false) {Q : zR × zS → Prop} {a0 a1 a2 : Int} {σ : zS} (h : zo (f_X5_get a0 a1 a2 σ) Q) : zm g Y_X5_get R_X5_get [(4, a0), (0, a1), (0, a2)] σ Q := zm_of (by decide) rfl (Nat.le_of_ble_eq_true rfl) (t_X5_get hl0 h)


/- X1_isTooOld -/

set_option maxRecDepth 100000 in
set_option maxHeartbeats 4000000 in
theorem t_X1_isTooOld {g : zF} (hl0 : g.2.2.2.1.stackTraces = false) {Q : zR × zS → Prop}   {a0 a1 a2 : Int} {σ : zS} (h : zo (f_X1_isTooOld  a0 a1 a2 σ) Q) : zw g Y_X1_isTooOld R_X1_isTooOld 0 [(0, (4, a0)), (1, (4, a1)), (2, (0, a2))] [] σ 0 0 Q := by
  unfold f_X1_isTooOld at h
  refine r_aload_n 0 dX1_isTooOld_0 rfl ?_
  refine r_getf fd_X1_72 rfl dX1_isTooOld_1 h (fun x1 h => ?_)
  refine r_aload_n 1 dX1_isTooOld_4 rfl ?_
  refine r_iload_n 2 dX1_isTooOld_5 rfl ?_
  refine r_iconst (v := 4) dX1_isTooOld_6 rfl rfl ?_
  refine r_callV (K' := Y_X5_get) (R' := R_X5_get) (idx := 111) (n := 2) (b := a1) (as := [(0, a2), (0, 4)]) (rest := [(0, x1)]) (C' := 0) (D' := 0) (cn := 5) rfl k0_X5_get kV_X5_get kl_X1_111 ⟨by decide, by decide⟩ dX1_isTooOld_7 rfl rfl (Nat.le_of_ble_eq_true rfl) (by decide) (by decide) rfl h (fun r hr => m_X5_get hl0 ⟨r, hr, hr⟩) (fun x2 τ3 _ h => ?_)
  refine r_isub dX1_isTooOld_10 ?_
  refine r_aload_n 0 dX1_isTooOld_11 rfl ?_
  refine r_iconst (v := 3) dX1_isTooOld_12 rfl rfl ?_
  refine r_callV (K' := Y_X1_rule) (R' := R_X1_rule) (idx := 75) (n := 1) (b := a0) (as := [(0, 3)]) (rest := [(0, (w32 (x1 - x2)))]) (C' := 0) (D' := 0) (cn := 1) rfl k0_X1_rule kV_X1_rule kl_X1_75 ⟨by decide, by decide⟩ dX1_isTooOld_13 rfl rfl (Nat.le_of_ble_eq_true rfl) (by decide) (by decide) rfl h (fun r hr => m_X1_rule hl0 ⟨r, hr, hr⟩) (fun x4 τ5 _ h => ?_)
  refine r_icmp_le 23 dX1_isTooOld_16 (by decide) h (fun h => ?_) (fun h => ?_)
  · refine r_iconst (v := 0) dX1_isTooOld_23 rfl rfl ?_
    exact r_zretc (by decide) rfl dX1_isTooOld_24 h
  · refine r_iconst (v := 1) dX1_isTooOld_19 rfl rfl ?_
    refine r_goto 24 dX1_isTooOld_20 (by decide) ?_
    exact r_zretc (by decide) rfl dX1_isTooOld_24 h
theorem m_X1_isTooOld {g : zF} (hl0 : g.2.2.2.1.stackTraces = false) {Q : zR × zS → Prop} {a0 a1 a2 : Int} {σ : zS} (h : zo (f_X1_isTooOld a0 a1 a2 σ) Q) : zm g Y_X1_isTooOld R_X1_isTooOld [(4, a0), (4, a1), (0, a2)] σ Q := zm_of (by decide) rfl (Nat.le_of_ble_eq_true rfl) (t_X1_isTooOld hl0 h)

