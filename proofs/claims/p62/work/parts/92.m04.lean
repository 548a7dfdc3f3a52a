/- X6_nextToTake -/

set_option maxRecDepth 100000 in
set_option maxHeartbeats 4000000 in
theorem t_X6_nextToTake_54 {g : zF} (hl0 : g.2.2.2.1.stackTraces = false) {Q : zR × zS → Prop} (r6 : Int → Int → Int → Int → zS → zFn) (hr6 : ∀ b0 b1 b2 b3 τ, zo (r6 b0 b1 b2 b3 τ) Q → zw g Y_X6_nextToTake R_X6_nextToTake 6 [(0, (4, b0)), (1, (0, b1)), (2, (0, b2)), (3, (0, b3))] [] τ 0 0 Q) {a0 a1 a2 a3 : Int} {σ : zS} (h : zo (f_X6_nextToTake_54 r6 a0 a1 a2 a3 σ) Q) : zw g Y_X6_nextToTake R_X6_nextToTake 54 [(0, (4, a0)), (1, (0, a1)), (2, (0, a2)), (3, (0, a3))] [] σ 0 0 Q := by
  unfold f_X6_nextToTake_54 at h
  refine r_iinc (L' := [(3, (0, (w32 (a3 + 1)))), (0, (4, a0)), (1, (0, a1)), (2, (0, a2))]) 3 dX6_nextToTake_54 rfl (by decide) rfl ?_
  refine r_goto 6 dX6_nextToTake_57 (by decide) ?_
  refine r_weak (L' := [(0, (4, a0)), (1, (0, a1)), (2, (0, a2)), (3, (0, (w32 (a3 + 1))))]) [1, 2, 3, 0] rfl ?_
  refine r_room (C' := 0) (D' := 0) (by omega) (by omega) ?_
  exact hr6 _ _ _ _ _ h

set_option maxRecDepth 100000 in
set_option maxHeartbeats 4000000 in
theorem t_X6_nextToTake_45 {g : zF} (hl0 : g.2.2.2.1.stackTraces = false) {Q : zR × zS → Prop} (r6 : Int → Int → Int → Int → zS → zFn) (hr6 : ∀ b0 b1 b2 b3 τ, zo (r6 b0 b1 b2 b3 τ) Q → zw g Y_X6_nextToTake R_X6_nextToTake 6 [(0, (4, b0)), (1, (0, b1)), (2, (0, b2)), (3, (0, b3))] [] τ 0 0 Q) {a0 a3 : Int} {σ : zS} (h : zo (f_X6_nextToTake_45 r6 a0 a3 σ) Q) : zw g Y_X6_nextToTake R_X6_nextToTake 45 [(0, (4, a0)), (3, (0, a3))] [] σ 0 0 Q := by
  unfold f_X6_nextToTake_45 at h
  refine r_iload_n 1 dX6_nextToTake_45 rfl ?_
  refine r_istore_n (L' := [(1, (0, a3)), (0, (4, a0)), (3, (0, a3))]) dX6_nextToTake_46 (by decide) rfl ?_
  refine r_aload_n 1 dX6_nextToTake_47 rfl ?_
  refine r_getr fd_X6_18 rfl dX6_nextToTake_48 h (fun x1 h => ?_)
  refine r_iload_n 2 dX6_nextToTake_51 rfl ?_
  refine r_iald dX6_nextToTake_52 h (fun x2 h => ?_)
  refine r_istore_n (L' := [(2, (0, x2)), (1, (0, a3)), (0, (4, a0)), (3, (0, a3))]) dX6_nextToTake_53 (by decide) rfl ?_
  refine r_weak (L' := [(0, (4, a0)), (1, (0, a3)), (2, (0, x2)), (3, (0, a3))]) [2, 1, 0, 3] rfl ?_
  refine r_room (C' := 0) (D' := 0) (by omega) (by omega) ?_
  exact t_X6_nextToTake_54 hl0  r6 hr6 h

set_option maxRecDepth 100000 in
set_option maxHeartbeats 4000000 in
theorem t_X6_nextToTake_6 {g : zF} (hl0 : g.2.2.2.1.stackTraces = false) {Q : zR × zS → Prop}   : ∀ (n : Nat) (a0 a1 a2 a3 : Int) (σ : zS), zo (f_X6_nextToTake_6  n a0 a1 a2 a3 σ) Q → zw g Y_X6_nextToTake R_X6_nextToTake 6 [(0, (4, a0)), (1, (0, a1)), (2, (0, a2)), (3, (0, a3))] [] σ 0 0 Q := by
  intro n
  induction n with
  | zero => intro a0 a1 a2 a3 σ h; obtain ⟨r, h, -⟩ := h; cases h
  | succ n ih =>
    intro a0 a1 a2 a3 σ h
    unfold f_X6_nextToTake_6 at h
    refine r_iload_n 3 dX6_nextToTake_6 rfl ?_
    refine r_aload_n 0 dX6_nextToTake_7 rfl ?_
    refine r_getf fd_X6_30 rfl dX6_nextToTake_8 h (fun x1 h => ?_)
    refine r_icmp_ge 60 dX6_nextToTake_11 (by decide) h (fun h => ?_) (fun h => ?_)
    · refine r_iload_n 1 dX6_nextToTake_60 rfl ?_
      exact r_iret rfl dX6_nextToTake_61 h
    · refine r_iload_n 3 dX6_nextToTake_14 rfl ?_
      refine r_bipush (v := 6) dX6_nextToTake_15 rfl rfl ?_
      refine r_icmp_ge 60 dX6_nextToTake_17 (by decide) h (fun h => ?_) (fun h => ?_)
      · refine r_iload_n 1 dX6_nextToTake_60 rfl ?_
        exact r_iret rfl dX6_nextToTake_61 h
      · refine r_aload_n 0 dX6_nextToTake_20 rfl ?_
        refine r_getr fd_X6_27 rfl dX6_nextToTake_21 h (fun x2 h => ?_)
        refine r_iload_n 3 dX6_nextToTake_24 rfl ?_
        refine r_iald dX6_nextToTake_25 h (fun x3 h => ?_)
        refine r_iconst (v := 3) dX6_nextToTake_26 rfl rfl ?_
        refine r_icmp_ne 54 dX6_nextToTake_27 (by decide) h (fun h => ?_) (fun h => ?_)
        · refine r_room (C' := 0) (D' := 0) (by omega) (by omega) ?_
          exact t_X6_nextToTake_54 hl0  (f_X6_nextToTake_6  n) (fun b0 b1 b2 b3 τ h => ih b0 b1 b2 b3 τ h) h
        · refine r_iload_n 1 dX6_nextToTake_30 rfl ?_
          refine r_iconst (v := (-1)) dX6_nextToTake_31 rfl rfl ?_
          refine r_icmp_eq 45 dX6_nextToTake_32 (by decide) h (fun h => ?_) (fun h => ?_)
          · refine r_weak (L' := [(0, (4, a0)), (3, (0, a3))]) [0, 3] rfl ?_
            refine r_room (C' := 0) (D' := 0) (by omega) (by omega) ?_
            exact t_X6_nextToTake_45 hl0  (f_X6_nextToTake_6  n) (fun b0 b1 b2 b3 τ h => ih b0 b1 b2 b3 τ h) h
          · refine r_aload_n 0 dX6_nextToTake_35 rfl ?_
            refine r_getr fd_X6_18 rfl dX6_nextToTake_36 h (fun x4 h => ?_)
            refine r_iload_n 3 dX6_nextToTake_39 rfl ?_
            refine r_iald dX6_nextToTake_40 h (fun x5 h => ?_)
            refine r_iload_n 2 dX6_nextToTake_41 rfl ?_
            refine r_icmp_ge 54 dX6_nextToTake_42 (by decide) h (fun h => ?_) (fun h => ?_)
            · refine r_room (C' := 0) (D' := 0) (by omega) (by omega) ?_
              exact t_X6_nextToTake_54 hl0  (f_X6_nextToTake_6  n) (fun b0 b1 b2 b3 τ h => ih b0 b1 b2 b3 τ h) h
            · refine r_weak (L' := [(0, (4, a0)), (3, (0, a3))]) [0, 3] rfl ?_
              refine r_room (C' := 0) (D' := 0) (by omega) (by omega) ?_
              exact t_X6_nextToTake_45 hl0  (f_X6_nextToTake_6  n) (fun b0 b1 b2 b3 τ h => ih b0 b1 b2 b3 τ h) h

set_option maxRecDepth 100000 in
set_option maxHeartbeats 4000000 in
theorem t_X6_nextToTake {g : zF} (hl0 : g.2.2.2.1.stackTraces = false) {Q : zR × zS → Prop}   {a0 : Int} {σ : zS} (h : zo (f_X6_nextToTake  a0 σ) Q) : zw g Y_X6_nextToTake R_X6_nextToTake 0 [(0, (4, a0))] [] σ 0 0 Q := by
  unfold f_X6_nextToTake at h
  refine r_iconst (v := (-1)) dX6_nextToTake_0 rfl rfl ?_
  refine r_istore_n (L' := [(1, (0, (-1))), (0, (4, a0))]) dX6_nextToTake_1 (by decide) rfl ?_
  refine r_iconst (v := 0) dX6_nextToTake_2 rfl rfl ?_
  refine r_istore_n (L' := [(2, (0, 0)), (1, (0, (-1))), (0, (4, a0))]) dX6_nextToTake_3 (by decide) rfl ?_
  refine r_iconst (v := 0) dX6_nextToTake_4 rfl rfl ?_
  refine r_istore_n (L' := [(3, (0, 0)), (2, (0, 0)), (1, (0, (-1))), (0, (4, a0))]) dX6_nextToTake_5 (by decide) rfl ?_
  refine r_weak (L' := [(0, (4, a0)), (1, (0, (-1))), (2, (0, 0)), (3, (0, 0))]) [3, 2, 1, 0] rfl ?_
  refine r_room (C' := 0) (D' := 0) (by omega) (by omega) ?_
  exact t_X6_nextToTake_6 hl0    zFU _ _ _ _ _ h
theorem m_X6_nextToTake {g : zF} (hl0 : g.2.2.2.1.stackTraces = false) {Q : zR × zS → Prop} {a0 : Int} {σ : zS} (h : zo (f_X6_nextToTake a0 σ) Q) : zm g Y_X6_nextToTake R_X6_nextToTake [(4, a0)] σ Q := zm_of (by decide) rfl (Nat.le_of_ble_eq_true rfl) (t_X6_nextToTake hl0 h)


/- X6_take -/

set_option maxRecDepth 100000 in
set_option maxHeartbeats 4000000 in
theorem t_X6_take {g : zF} (hl0 : g.2.2.2.1.stackTraces = false) {Q : zR × zS → Prop}   {a0 a1 : Int} {σ : zS} (h : zo (f_X6_take  a0 a1 σ) Q) : zw g Y_X6_take R_X6_take 0 [(0, (4, a0)), (1, (0, a1))] [] σ 0 0 Q := by
  unfold f_X6_take at h
  refine r_iload_n 1 dX6_take_0 rfl ?_
  refine r_if_lt 10 dX6_take_1 (by decide) h (fun h => ?_) (fun h => ?_)
  · exact r_vret rfl dX6_take_10 h
  · refine r_iload_n 1 dX6_take_4 rfl ?_
    refine r_bipush (v := 6) dX6_take_5 rfl rfl ?_
    refine r_icmp_lt 11 dX6_take_7 (by decide) h (fun h => ?_) (fun h => ?_)
    · refine r_aload_n 0 dX6_take_11 rfl ?_
      refine r_getf fd_X6_34 rfl dX6_take_12 h (fun x1 h => ?_)
      refine r_aload_n 0 dX6_take_15 rfl ?_
      refine r_getr fd_X6_21 rfl dX6_take_16 h (fun x2 h => ?_)
      refine r_iload_n 1 dX6_take_19 rfl ?_
      refine r_iald dX6_take_20 h (fun x3 h => ?_)
      refine r_mmax mq_X6_81 ⟨by decide, Nat.le_of_ble_eq_true rfl⟩ rfl dX6_take_21 ?_
      refine r_istore_n (L' := [(2, (0, (max x1 x3))), (0, (4, a0)), (1, (0, a1))]) dX6_take_24 (by decide) rfl ?_
      refine r_aload_n 1 dX6_take_25 rfl ?_
      refine r_getf fd_X6_37 rfl dX6_take_26 h (fun x4 h => ?_)
      refine r_aload_n 1 dX6_take_29 rfl ?_
      refine r_getr fd_X6_24 rfl dX6_take_30 h (fun x5 h => ?_)
      refine r_iload_n 2 dX6_take_33 rfl ?_
      refine r_iald dX6_take_34 h (fun x6 h => ?_)
      refine r_mmin mq_X6_86 ⟨by decide, Nat.le_of_ble_eq_true rfl⟩ rfl dX6_take_35 ?_
      refine r_istore_n (L' := [(3, (0, (min x4 x6))), (2, (0, (max x1 x3))), (0, (4, a0)), (1, (0, a1))]) dX6_take_38 (by decide) rfl ?_
      refine r_iload_n 1 dX6_take_39 rfl ?_
      refine r_iload_n 0 dX6_take_40 rfl ?_
      refine r_icmp_le 52 dX6_take_41 (by decide) h (fun h => ?_) (fun h => ?_)
      · refine r_aload_n 2 dX6_take_52 rfl ?_
        refine r_getr fd_X6_27 rfl dX6_take_53 h (fun x7 h => ?_)
        refine r_iload_n 3 dX6_take_56 rfl ?_
        refine r_iconst (v := 0) dX6_take_57 rfl rfl ?_
        refine r_iast dX6_take_58 h (fun τ8 h => ?_)
        refine r_aload_n 2 dX6_take_59 rfl ?_
        refine r_iload_n 1 dX6_take_60 rfl ?_
        refine r_putf fd_X6_34 fp_X6_take_34 dX6_take_61 h (fun τ9 h => ?_)
        refine r_aload_n 2 dX6_take_64 rfl ?_
        refine r_iload_n 0 dX6_take_65 rfl ?_
        refine r_putf fd_X6_37 fp_X6_take_37 dX6_take_66 h (fun τ10 h => ?_)
        exact r_vret rfl dX6_take_69 h
      · refine r_aload_n 2 dX6_take_44 rfl ?_
        refine r_getr fd_X6_27 rfl dX6_take_45 h (fun x11 h => ?_)
        refine r_iload_n 3 dX6_take_48 rfl ?_
        refine r_iconst (v := 1) dX6_take_49 rfl rfl ?_
        refine r_iast dX6_take_50 h (fun τ12 h => ?_)
        exact r_vret rfl dX6_take_51 h
    · exact r_vret rfl dX6_take_10 h
theorem m_X6_take {g : zF} (hl0 : g.2.2.2.1.stackTraces = false) {Q : zR × zS → Prop} {a0 a1 : Int} {σ : zS} (h : zo (f_X6_take a0 a1 σ) Q) : zm g Y_X6_take R_X6_take [(4, a0), (0, a1)] σ Q := zm_of (by decide) rfl (Nat.le_of_ble_eq_true rfl) (t_X6_take hl0 h)


/- X6_form -/

set_option maxRecDepth 100000 in
set_option maxHeartbeats 4000000 in
theorem t_X6_form_102 {g : zF} (hl0 : g.2.2.2.1.stackTraces = false) {Q : zR × zS → Prop}   : ∀ (n : Nat) (a0 a6 : Int) (σ : zS), zo (f_X6_form_102  n a0 a6 σ) Q → zw g Y_X6_form R_X6_form 102 [(0, (4, a0)), (6, (0, a6))] [] σ 0 0 Q := by
  intro n
  induction n with
  | zero => intro a0 a6 σ h; obtain ⟨r, h, -⟩ := h; cases h
  | succ n ih =>
    intro a0 a6 σ h
    unfold f_X6_form_102 at h
    refine r_iload 1 dX6_form_102 rfl ?_
    refine r_aload_n 0 dX6_form_104 rfl ?_
    refine r_getf fd_X6_30 rfl dX6_form_105 h (fun x1 h => ?_)
    refine r_icmp_ge 125 dX6_form_108 (by decide) h (fun h => ?_) (fun h => ?_)
    · exact r_vret rfl dX6_form_125 h
    · refine r_aload_n 0 dX6_form_111 rfl ?_
      refine r_aload_n 0 dX6_form_112 rfl ?_
      refine r_callV (K' := Y_X6_nextToTake) (R' := R_X6_nextToTake) (idx := 57) (n := 0) (b := a0) (as := []) (rest := [(4, a0)]) (C' := 0) (D' := 0) (cn := 6) rfl k0_X6_nextToTake kV_X6_nextToTake kl_X6_57 ⟨by decide, by decide⟩ dX6_form_113 rfl rfl (Nat.le_of_ble_eq_true rfl) (by decide) (by decide) rfl h (fun r hr => m_X6_nextToTake hl0 ⟨r, hr, hr⟩) (fun x2 τ3 _ h => ?_)
      refine r_callV (K' := Y_X6_take) (R' := R_X6_take) (idx := 61) (n := 1) (b := a0) (as := [(0, x2)]) (rest := []) (C' := 0) (D' := 0) (cn := 6) rfl k0_X6_take kV_X6_take kl_X6_61 ⟨by decide, by decide⟩ dX6_form_116 rfl rfl (Nat.le_of_ble_eq_true rfl) (by decide) (by decide) rfl h (fun r hr => m_X6_take hl0 ⟨r, hr, hr⟩) (fun _ τ5 _ h => ?_)
      refine r_iinc (L' := [(6, (0, (w32 (a6 + 1)))), (0, (4, a0))]) 1 dX6_form_119 rfl (by decide) rfl ?_
      refine r_goto 102 dX6_form_122 (by decide) ?_
      refine r_weak (L' := [(0, (4, a0)), (6, (0, (w32 (a6 + 1))))]) [1, 0] rfl ?_
      refine r_room (C' := 0) (D' := 0) (by omega) (by omega) ?_
      exact ih _ _ _ h

set_option maxRecDepth 100000 in
set_option maxHeartbeats 4000000 in
theorem t_X6_form_99 {g : zF} (hl0 : g.2.2.2.1.stackTraces = false) {Q : zR × zS → Prop}   {a0 : Int} {σ : zS} (h : zo (f_X6_form_99  a0 σ) Q) : zw g Y_X6_form R_X6_form 99 [(0, (4, a0))] [] σ 0 0 Q := by
  unfold f_X6_form_99 at h
  refine r_iconst (v := 0) dX6_form_99 rfl rfl ?_
  refine r_istore (L' := [(6, (0, 0)), (0, (4, a0))]) dX6_form_100 (by decide) rfl ?_
  refine r_weak (L' := [(0, (4, a0)), (6, (0, 0))]) [1, 0] rfl ?_
  refine r_room (C' := 0) (D' := 0) (by omega) (by omega) ?_
  exact t_X6_form_102 hl0    zFU _ _ _ h

set_option maxRecDepth 100000 in
set_option maxHeartbeats 4000000 in
theorem t_X6_form_93 {g : zF} (hl0 : g.2.2.2.1.stackTraces = false) {Q : zR × zS → Prop} (r27 : Int → Int → Int → Int → Int → Int → Int → zS → zFn) (hr27 : ∀ b0 b1 b2 b3 b4 b5 b6 τ, zo (r27 b0 b1 b2 b3 b4 b5 b6 τ) Q → zw g Y_X6_form R_X6_form 27 [(0, (4, b0)), (1, (4, b1)), (2, (0, b2)), (3, (0, b3)), (4, (0, b4)), (5, (4, b5)), (6, (0, b6))] [] τ 0 0 Q) {a0 a1 a2 a3 a4 a5 a6 : Int} {σ : zS} (h : zo (f_X6_form_93 r27 a0 a1 a2 a3 a4 a5 a6 σ) Q) : zw g Y_X6_form R_X6_form 93 [(0, (4, a0)), (1, (4, a1)), (2, (0, a2)), (3, (0, a3)), (4, (0, a4)), (5, (4, a5)), (6, (0, a6))] [] σ 0 0 Q := by
  unfold f_X6_form_93 at h
  refine r_iinc (L' := [(6, (0, (w32 (a6 + 1)))), (0, (4, a0)), (1, (4, a1)), (2, (0, a2)), (3, (0, a3)), (4, (0, a4)), (5, (4, a5))]) 6 dX6_form_93 rfl (by decide) rfl ?_
  refine r_goto 27 dX6_form_96 (by decide) ?_
  refine r_weak (L' := [(0, (4, a0)), (1, (4, a1)), (2, (0, a2)), (3, (0, a3)), (4, (0, a4)), (5, (4, a5)), (6, (0, (w32 (a6 + 1))))]) [1, 2, 3, 4, 5, 6, 0] rfl ?_
  refine r_room (C' := 0) (D' := 0) (by omega) (by omega) ?_
  exact hr27 _ _ _ _ _ _ _ _ h

set_option maxRecDepth 100000 in
set_option maxHeartbeats 4000000 in
theorem t_X6_form_27 {g : zF} (hl0 : g.2.2.2.1.stackTraces = false) {Q : zR × zS → Prop}   : ∀ (n : Nat) (a0 a1 a2 a3 a4 a5 a6 : Int) (σ : zS), zo (f_X6_form_27  n a0 a1 a2 a3 a4 a5 a6 σ) Q → zw g Y_X6_form R_X6_form 27 [(0, (4, a0)), (1, (4, a1)), (2, (0, a2)), (3, (0, a3)), (4, (0, a4)), (5, (4, a5)), (6, (0, a6))] [] σ 0 0 Q := by
  intro n
  induction n with
  | zero => intro a0 a1 a2 a3 a4 a5 a6 σ h; obtain ⟨r, h, -⟩ := h; cases h
  | succ n ih =>
    intro a0 a1 a2 a3 a4 a5 a6 σ h
    unfold f_X6_form_27 at h
    refine r_iload 6 dX6_form_27 rfl ?_
    refine r_aload 5 dX6_form_29 rfl ?_
    refine r_getf fd_X6_46 rfl dX6_form_31 h (fun x1 h => ?_)
    refine r_icmp_ge 99 dX6_form_34 (by decide) h (fun h => ?_) (fun h => ?_)
    · refine r_weak (L' := [(0, (4, a0))]) [0] rfl ?_
      refine r_room (C' := 0) (D' := 0) (by omega) (by omega) ?_
      exact t_X6_form_99 hl0    h
    · refine r_aload 5 dX6_form_37 rfl ?_
      refine r_iload 6 dX6_form_39 rfl ?_
      refine r_iconst (v := 3) dX6_form_41 rfl rfl ?_
      refine r_callV (K' := Y_X5_get) (R' := R_X5_get) (idx := 49) (n := 2) (b := a5) (as := [(0, a6), (0, 3)]) (rest := []) (C' := 0) (D' := 0) (cn := 5) rfl k0_X5_get kV_X5_get kl_X6_49 ⟨by decide, by decide⟩ dX6_form_42 rfl rfl (Nat.le_of_ble_eq_true rfl) (by decide) (by decide) rfl h (fun r hr => m_X5_get hl0 ⟨r, hr, hr⟩) (fun x2 τ3 _ h => ?_)
      refine r_iload_n 3 dX6_form_45 rfl ?_
      refine r_icmp_ne 93 dX6_form_46 (by decide) h (fun h => ?_) (fun h => ?_)
      · refine r_room (C' := 0) (D' := 0) (by omega) (by omega) ?_
        exact t_X6_form_93 hl0  (f_X6_form_27  n) (fun b0 b1 b2 b3 b4 b5 b6 τ h => ih b0 b1 b2 b3 b4 b5 b6 τ h) h
      · refine r_aload 5 dX6_form_49 rfl ?_
        refine r_iload 6 dX6_form_51 rfl ?_
        refine r_iconst (v := 1) dX6_form_53 rfl rfl ?_
        refine r_callV (K' := Y_X5_get) (R' := R_X5_get) (idx := 49) (n := 2) (b := a5) (as := [(0, a6), (0, 1)]) (rest := []) (C' := 0) (D' := 0) (cn := 5) rfl k0_X5_get kV_X5_get kl_X6_49 ⟨by decide, by decide⟩ dX6_form_54 rfl rfl (Nat.le_of_ble_eq_true rfl) (by decide) (by decide) rfl h (fun r hr => m_X5_get hl0 ⟨r, hr, hr⟩) (fun x4 τ5 _ h => ?_)
        refine r_iload 4 dX6_form_57 rfl ?_
        refine r_icmp_eq 93 dX6_form_59 (by decide) h (fun h => ?_) (fun h => ?_)
        · refine r_room (C' := 0) (D' := 0) (by omega) (by omega) ?_
          exact t_X6_form_93 hl0  (f_X6_form_27  n) (fun b0 b1 b2 b3 b4 b5 b6 τ h => ih b0 b1 b2 b3 b4 b5 b6 τ h) h
        · refine r_aload_n 0 dX6_form_62 rfl ?_
          refine r_getf fd_X6_30 rfl dX6_form_63 h (fun x6 h => ?_)
          refine r_bipush (v := 6) dX6_form_66 rfl rfl ?_
          refine r_icmp_ge 93 dX6_form_68 (by decide) h (fun h => ?_) (fun h => ?_)
          · refine r_room (C' := 0) (D' := 0) (by omega) (by omega) ?_
            exact t_X6_form_93 hl0  (f_X6_form_27  n) (fun b0 b1 b2 b3 b4 b5 b6 τ h => ih b0 b1 b2 b3 b4 b5 b6 τ h) h
          · refine r_aload_n 0 dX6_form_71 rfl ?_
            refine r_aload_n 1 dX6_form_72 rfl ?_
            refine r_iload_n 2 dX6_form_73 rfl ?_
            refine r_iload 6 dX6_form_74 rfl ?_
            refine r_aload_n 0 dX6_form_76 rfl ?_
            refine r_getf fd_X6_30 rfl dX6_form_77 h (fun x7 h => ?_)
            refine r_callV (K' := Y_X6_note) (R' := R_X6_note) (idx := 53) (n := 4) (b := a0) (as := [(4, a1), (0, a2), (0, a6), (0, x7)]) (rest := []) (C' := 0) (D' := 0) (cn := 6) rfl k0_X6_note kV_X6_note kl_X6_53 ⟨by decide, by decide⟩ dX6_form_80 rfl rfl (Nat.le_of_ble_eq_true rfl) (by decide) (by decide) rfl h (fun r hr => m_X6_note hl0 ⟨r, hr, hr⟩) (fun _ τ9 _ h => ?_)
            refine r_aload_n 0 dX6_form_83 rfl ?_
            refine r_dup dX6_form_84 rfl ?_
            refine r_getf fd_X6_30 rfl dX6_form_85 h (fun x10 h => ?_)
            refine r_iconst (v := 1) dX6_form_88 rfl rfl ?_
            refine r_iadd dX6_form_89 ?_
            refine r_putf fd_X6_30 fp_X6_form_30 dX6_form_90 h (fun τ11 h => ?_)
            refine r_room (C' := 0) (D' := 0) (by omega) (by omega) ?_
            exact t_X6_form_93 hl0  (f_X6_form_27  n) (fun b0 b1 b2 b3 b4 b5 b6 τ h => ih b0 b1 b2 b3 b4 b5 b6 τ h) h

set_option maxRecDepth 100000 in
set_option maxHeartbeats 4000000 in
theorem t_X6_form {g : zF} (hl0 : g.2.2.2.1.stackTraces = false) {Q : zR × zS → Prop}   {a0 a1 a2 a3 a4 : Int} {σ : zS} (h : zo (f_X6_form  a0 a1 a2 a3 a4 σ) Q) : zw g Y_X6_form R_X6_form 0 [(0, (4, a0)), (1, (4, a1)), (2, (0, a2)), (3, (0, a3)), (4, (0, a4))] [] σ 0 0 Q := by
  unfold f_X6_form at h
  refine r_aload_n 0 dX6_form_0 rfl ?_
  refine r_iconst (v := 0) dX6_form_1 rfl rfl ?_
  refine r_putf fd_X6_30 fp_X6_form_30 dX6_form_2 h (fun τ1 h => ?_)
  refine r_aload_n 0 dX6_form_5 rfl ?_
  refine r_iconst (v := 0) dX6_form_6 rfl rfl ?_
  refine r_putf fd_X6_34 fp_X6_form_34 dX6_form_7 h (fun τ2 h => ?_)
  refine r_aload_n 0 dX6_form_10 rfl ?_
  refine r_sipush (v := 999) dX6_form_11 rfl rfl ?_
  refine r_putf fd_X6_37 fp_X6_form_37 dX6_form_14 h (fun τ3 h => ?_)
  refine r_aload_n 1 dX6_form_17 rfl ?_
  refine r_iload_n 2 dX6_form_18 rfl ?_
  refine r_callV (K' := Y_X1_listOf) (R' := R_X1_listOf) (idx := 40) (n := 1) (b := a1) (as := [(0, a2)]) (rest := []) (C' := 0) (D' := 0) (cn := 1) rfl k0_X1_listOf kV_X1_listOf kl_X6_40 ⟨by decide, by decide⟩ dX6_form_19 rfl rfl (Nat.le_of_ble_eq_true rfl) (by decide) (by decide) rfl h (fun r hr => m_X1_listOf hl0 ⟨r, hr, hr⟩) (fun x4 τ5 _ h => ?_)
  refine r_astore (L' := [(5, (4, x4)), (0, (4, a0)), (1, (4, a1)), (2, (0, a2)), (3, (0, a3)), (4, (0, a4))]) dX6_form_22 (by decide) rfl ?_
  refine r_iconst (v := 0) dX6_form_24 rfl rfl ?_
  refine r_istore (L' := [(6, (0, 0)), (5, (4, x4)), (0, (4, a0)), (1, (4, a1)), (2, (0, a2)), (3, (0, a3)), (4, (0, a4))]) dX6_form_25 (by decide) rfl ?_
  refine r_weak (L' := [(0, (4, a0)), (1, (4, a1)), (2, (0, a2)), (3, (0, a3)), (4, (0, a4)), (5, (4, x4)), (6, (0, 0))]) [2, 3, 4, 5, 6, 1, 0] rfl ?_
  refine r_room (C' := 0) (D' := 0) (by omega) (by omega) ?_
  exact t_X6_form_27 hl0    zFU _ _ _ _ _ _ _ _ h
theorem m_X6_form {g : zF} (hl0 : g.2.2.2.1.stackTraces = false) {Q : zR × zS → Prop} {a0 a1 a2 a3 a4 : Int} {σ : zS} (h : zo (f_X6_form a0 a1 a2 a3 a4 σ) Q) : zm g Y_X6_form R_X6_form [(4, a0), (4, a1), (0, a2), (0, a3), (0, a4)] σ Q := zm_of (by decide) rfl (Nat.le_of_ble_eq_true rfl) (t_X6_form hl0 h)


/- X6_statusOf -/

set_option maxRecDepth 100000 in
set_option maxHeartbeats 4000000 in
theorem t_X6_statusOf_2 {g : zF} (hl0 : g.2.2.2.1.stackTraces = false) {Q : zR × zS → Prop}   : ∀ (n : Nat) (a0 a1 a2 : Int) (σ : zS), zo (f_X6_statusOf_2  n a0 a1 a2 σ) Q → zw g Y_X6_statusOf R_X6_statusOf 2 [(0, (4, a0)), (1, (0, a1)), (2, (0, a2))] [] σ 0 0 Q := by
  intro n
  induction n with
  | zero => intro a0 a1 a2 σ h; obtain ⟨r, h, -⟩ := h; cases h
  | succ n ih =>
    intro a0 a1 a2 σ h
    unfold f_X6_statusOf_2 at h
    refine r_iload_n 2 dX6_statusOf_2 rfl ?_
    refine r_aload_n 0 dX6_statusOf_3 rfl ?_
    refine r_getf fd_X6_30 rfl dX6_statusOf_4 h (fun x1 h => ?_)
    refine r_icmp_ge 39 dX6_statusOf_7 (by decide) h (fun h => ?_) (fun h => ?_)
    · refine r_iconst (v := 2) dX6_statusOf_39 rfl rfl ?_
      exact r_iret rfl dX6_statusOf_40 h
    · refine r_iload_n 2 dX6_statusOf_10 rfl ?_
      refine r_bipush (v := 6) dX6_statusOf_11 rfl rfl ?_
      refine r_icmp_ge 39 dX6_statusOf_13 (by decide) h (fun h => ?_) (fun h => ?_)
      · refine r_iconst (v := 2) dX6_statusOf_39 rfl rfl ?_
        exact r_iret rfl dX6_statusOf_40 h
      · refine r_aload_n 0 dX6_statusOf_16 rfl ?_
        refine r_getr fd_X6_9 rfl dX6_statusOf_17 h (fun x2 h => ?_)
        refine r_iload_n 2 dX6_statusOf_20 rfl ?_
        refine r_iald dX6_statusOf_21 h (fun x3 h => ?_)
        refine r_iload_n 1 dX6_statusOf_22 rfl ?_
        refine r_icmp_ne 33 dX6_statusOf_23 (by decide) h (fun h => ?_) (fun h => ?_)
        · refine r_iinc (L' := [(2, (0, (w32 (a2 + 1)))), (0, (4, a0)), (1, (0, a1))]) 2 dX6_statusOf_33 rfl (by decide) rfl ?_
          refine r_goto 2 dX6_statusOf_36 (by decide) ?_
          refine r_weak (L' := [(0, (4, a0)), (1, (0, a1)), (2, (0, (w32 (a2 + 1))))]) [1, 2, 0] rfl ?_
          refine r_room (C' := 0) (D' := 0) (by omega) (by omega) ?_
          exact ih _ _ _ _ h
        · refine r_aload_n 0 dX6_statusOf_26 rfl ?_
          refine r_getr fd_X6_27 rfl dX6_statusOf_27 h (fun x4 h => ?_)
          refine r_iload_n 2 dX6_statusOf_30 rfl ?_
          refine r_iald dX6_statusOf_31 h (fun x5 h => ?_)
          exact r_iret rfl dX6_statusOf_32 h

set_option maxRecDepth 100000 in
set_option maxHeartbeats 4000000 in
theorem t_X6_statusOf {g : zF} (hl0 : g.2.2.2.1.stackTraces = false) {Q : zR × zS → Prop}   {a0 a1 : Int} {σ : zS} (h : zo (f_X6_statusOf  a0 a1 σ) Q) : zw g Y_X6_statusOf R_X6_statusOf 0 [(0, (4, a0)), (1, (0, a1))] [] σ 0 0 Q := by
  unfold f_X6_statusOf at h
  refine r_iconst (v := 0) dX6_statusOf_0 rfl rfl ?_
  refine r_istore_n (L' := [(2, (0, 0)), (0, (4, a0)), (1, (0, a1))]) dX6_statusOf_1 (by decide) rfl ?_
  refine r_weak (L' := [(0, (4, a0)), (1, (0, a1)), (2, (0, 0))]) [1, 2, 0] rfl ?_
  refine r_room (C' := 0) (D' := 0) (by omega) (by omega) ?_
  exact t_X6_statusOf_2 hl0    zFU _ _ _ _ h
theorem m_X6_statusOf {g : zF} (hl0 : g.2.2.2.1.stackTraces = false) {Q : zR × zS → Prop} {a0 a1 : Int} {σ : zS} (h : zo (f_X6_statusOf a0 a1 σ) Q) : zm g Y_X6_statusOf R_X6_statusOf [(4, a0), (0, a1)] σ Q := zm_of (by decide) rfl (Nat.le_of_ble_eq_true rfl) (t_X6_statusOf hl0 h)


/- X6_originsWith -/

set_option maxRecDepth 100000 in
set_option maxHeartbeats 4000000 in
theorem t_X6_originsWith_39 {g : zF} (hl0 : g.2.2.2.1.stackTraces = false) {Q : zR × zS → Prop} (r4 : Int → Int → Int → Int → zS → zFn) (hr4 : ∀ b0 b1 b2 b3 τ, zo (r4 b0 b1 b2 b3 τ) Q → zw g Y_X6_originsWith R_X6_originsWith 4 [(0, (4, b0)), (1, (0, b1)), (2, (0, b2)), (3, (0, b3))] [] τ 0 0 Q) {a0 a1 a2 a3 : Int} {σ : zS} (h : zo (f_X6_originsWith_39 r4 a0 a1 a2 a3 σ) Q) : zw g Y_X6_originsWith R_X6_originsWith 39 [(0, (4, a0)), (1, (0, a1)), (2, (0, a2)), (3, (0, a3))] [] σ 0 0 Q := by
  unfold f_X6_originsWith_39 at h
  refine r_iinc (L' := [(3, (0, (w32 (a3 + 1)))), (0, (4, a0)), (1, (0, a1)), (2, (0, a2))]) 3 dX6_originsWith_39 rfl (by decide) rfl ?_
  refine r_goto 4 dX6_originsWith_42 (by decide) ?_
  refine r_weak (L' := [(0, (4, a0)), (1, (0, a1)), (2, (0, a2)), (3, (0, (w32 (a3 + 1))))]) [1, 2, 3, 0] rfl ?_
  refine r_room (C' := 0) (D' := 0) (by omega) (by omega) ?_
  exact hr4 _ _ _ _ _ h

set_option maxRecDepth 100000 in
set_option maxHeartbeats 4000000 in
theorem t_X6_originsWith_4 {g : zF} (hl0 : g.2.2.2.1.stackTraces = false) {Q : zR × zS → Prop}   : ∀ (n : Nat) (a0 a1 a2 a3 : Int) (σ : zS), zo (f_X6_originsWith_4  n a0 a1 a2 a3 σ) Q → zw g Y_X6_originsWith R_X6_originsWith 4 [(0, (4, a0)), (1, (0, a1)), (2, (0, a2)), (3, (0, a3))] [] σ 0 0 Q := by
  intro n
  induction n with
  | zero => intro a0 a1 a2 a3 σ h; obtain ⟨r, h, -⟩ := h; cases h
  | succ n ih =>
    intro a0 a1 a2 a3 σ h
    unfold f_X6_originsWith_4 at h
    refine r_iload_n 3 dX6_originsWith_4 rfl ?_
    refine r_aload_n 0 dX6_originsWith_5 rfl ?_
    refine r_getf fd_X6_30 rfl dX6_originsWith_6 h (fun x1 h => ?_)
    refine r_icmp_ge 45 dX6_originsWith_9 (by decide) h (fun h => ?_) (fun h => ?_)
    · refine r_iload_n 2 dX6_originsWith_45 rfl ?_
      exact r_iret rfl dX6_originsWith_46 h
    · refine r_iload_n 3 dX6_originsWith_12 rfl ?_
      refine r_bipush (v := 6) dX6_originsWith_13 rfl rfl ?_
      refine r_icmp_ge 45 dX6_originsWith_15 (by decide) h (fun h => ?_) (fun h => ?_)
      · refine r_iload_n 2 dX6_originsWith_45 rfl ?_
        exact r_iret rfl dX6_originsWith_46 h
      · refine r_aload_n 0 dX6_originsWith_18 rfl ?_
        refine r_getr fd_X6_27 rfl dX6_originsWith_19 h (fun x2 h => ?_)
        refine r_iload_n 3 dX6_originsWith_22 rfl ?_
        refine r_iald dX6_originsWith_23 h (fun x3 h => ?_)
        refine r_iload_n 1 dX6_originsWith_24 rfl ?_
        refine r_icmp_ne 39 dX6_originsWith_25 (by decide) h (fun h => ?_) (fun h => ?_)
        · refine r_room (C' := 0) (D' := 0) (by omega) (by omega) ?_
          exact t_X6_originsWith_39 hl0  (f_X6_originsWith_4  n) (fun b0 b1 b2 b3 τ h => ih b0 b1 b2 b3 τ h) h
        · refine r_iload_n 2 dX6_originsWith_28 rfl ?_
          refine r_iconst (v := 1) dX6_originsWith_29 rfl rfl ?_
          refine r_aload_n 0 dX6_originsWith_30 rfl ?_
          refine r_getr fd_X6_15 rfl dX6_originsWith_31 h (fun x4 h => ?_)
          refine r_iload_n 3 dX6_originsWith_34 rfl ?_
          refine r_iald dX6_originsWith_35 h (fun x5 h => ?_)
          refine r_ishl dX6_originsWith_36 ?_
          refine r_ior dX6_originsWith_37 ?_
          refine r_istore_n (L' := [(2, (0, (zor a2 (zshl 1 x5)))), (0, (4, a0)), (1, (0, a1)), (3, (0, a3))]) dX6_originsWith_38 (by decide) rfl ?_
          refine r_weak (L' := [(0, (4, a0)), (1, (0, a1)), (2, (0, (zor a2 (zshl 1 x5)))), (3, (0, a3))]) [1, 2, 0, 3] rfl ?_
          refine r_room (C' := 0) (D' := 0) (by omega) (by omega) ?_
          exact t_X6_originsWith_39 hl0  (f_X6_originsWith_4  n) (fun b0 b1 b2 b3 τ h => ih b0 b1 b2 b3 τ h) h

set_option maxRecDepth 100000 in
set_option maxHeartbeats 4000000 in
theorem t_X6_originsWith {g : zF} (hl0 : g.2.2.2.1.stackTraces = false) {Q : zR × zS → Prop}   {a0 a1 : Int} {σ : zS} (h : zo (f_X6_originsWith  a0 a1 σ) Q) : zw g Y_X6_originsWith R_X6_originsWith 0 [(0, (4, a0)), (1, (0, a1))] [] σ 0 0 Q := by
  unfold f_X6_originsWith at h
  refine r_iconst (v := 0) dX6_originsWith_0 rfl rfl ?_
  refine r_istore_n (L' := [(2, (0, 0)), (0, (4, a0)), (1, (0, a1))]) dX6_originsWith_1 (by decide) rfl ?_
  refine r_iconst (v := 0) dX6_originsWith_2 rfl rfl ?_
  refine r_istore_n (L' := [(3, (0, 0)), (2, (0, 0)), (0, (4, a0)), (1, (0, a1))]) dX6_originsWith_3 (by decide) rfl ?_
  refine r_weak (L' := [(0, (4, a0)), (1, (0, a1)), (2, (0, 0)), (3, (0, 0))]) [2, 3, 1, 0] rfl ?_
  refine r_room (C' := 0) (D' := 0) (by omega) (by omega) ?_
  exact t_X6_originsWith_4 hl0    zFU _ _ _ _ _ h
theorem m_X6_originsWith {g : zF} (hl0 : g.2.2.2.1.stackTraces = false) {Q : zR × zS → Prop} {a0 a1 : Int} {σ : zS} (h : zo (f_X6_originsWith a0 a1 σ) Q) : zm g Y_X6_originsWith R_X6_originsWith [(4, a0), (0, a1)] σ Q := zm_of (by decide) rfl (Nat.le_of_ble_eq_true rfl) (t_X6_originsWith hl0 h)


/- X6_originsAround -/

set_option maxRecDepth 100000 in
set_option maxHeartbeats 4000000 in
theorem t_X6_originsAround_59 {g : zF} (hl0 : g.2.2.2.1.stackTraces = false) {Q : zR × zS → Prop} (r4 : Int → Int → Int → Int → zS → zFn) (hr4 : ∀ b0 b1 b2 b3 τ, zo (r4 b0 b1 b2 b3 τ) Q → zw g Y_X6_originsAround R_X6_originsAround 4 [(0, (4, b0)), (1, (0, b1)), (2, (0, b2)), (3, (0, b3))] [] τ 0 0 Q) {a0 a1 a2 a3 : Int} {σ : zS} (h : zo (f_X6_originsAround_59 r4 a0 a1 a2 a3 σ) Q) : zw g Y_X6_originsAround R_X6_originsAround 59 [(0, (4, a0)), (1, (0, a1)), (2, (0, a2)), (3, (0, a3))] [] σ 0 0 Q := by
  unfold f_X6_originsAround_59 at h
  refine r_iinc (L' := [(3, (0, (w32 (a3 + 1)))), (0, (4, a0)), (1, (0, a1)), (2, (0, a2))]) 3 dX6_originsAround_59 rfl (by decide) rfl ?_
  refine r_goto 4 dX6_originsAround_62 (by decide) ?_
  refine r_weak (L' := [(0, (4, a0)), (1, (0, a1)), (2, (0, a2)), (3, (0, (w32 (a3 + 1))))]) [1, 2, 3, 0] rfl ?_
  refine r_room (C' := 0) (D' := 0) (by omega) (by omega) ?_
  exact hr4 _ _ _ _ _ h

set_option maxRecDepth 100000 in
set_option maxHeartbeats 4000000 in
theorem t_X6_originsAround_4 {g : zF} (hl0 : g.2.2.2.1.stackTraces = false) {Q : zR × zS → Prop}   : ∀ (n : Nat) (a0 a1 a2 a3 : Int) (σ : zS), zo (f_X6_originsAround_4  n a0 a1 a2 a3 σ) Q → zw g Y_X6_originsAround R_X6_originsAround 4 [(0, (4, a0)), (1, (0, a1)), (2, (0, a2)), (3, (0, a3))] [] σ 0 0 Q := by
  intro n
  induction n with
  | zero => intro a0 a1 a2 a3 σ h; obtain ⟨r, h, -⟩ := h; cases h
  | succ n ih =>
    intro a0 a1 a2 a3 σ h
    unfold f_X6_originsAround_4 at h
    refine r_iload_n 3 dX6_originsAround_4 rfl ?_
    refine r_aload_n 0 dX6_originsAround_5 rfl ?_
    refine r_getf fd_X6_30 rfl dX6_originsAround_6 h (fun x1 h => ?_)
    refine r_icmp_ge 65 dX6_originsAround_9 (by decide) h (fun h => ?_) (fun h => ?_)
    · refine r_iload_n 2 dX6_originsAround_65 rfl ?_
      exact r_iret rfl dX6_originsAround_66 h
    · refine r_iload_n 3 dX6_originsAround_12 rfl ?_
      refine r_bipush (v := 6) dX6_originsAround_13 rfl rfl ?_
      refine r_icmp_ge 65 dX6_originsAround_15 (by decide) h (fun h => ?_) (fun h => ?_)
      · refine r_iload_n 2 dX6_originsAround_65 rfl ?_
        exact r_iret rfl dX6_originsAround_66 h
      · refine r_aload_n 0 dX6_originsAround_18 rfl ?_
        refine r_getr fd_X6_27 rfl dX6_originsAround_19 h (fun x2 h => ?_)
        refine r_iload_n 3 dX6_originsAround_22 rfl ?_
        refine r_iald dX6_originsAround_23 h (fun x3 h => ?_)
        refine r_iconst (v := 2) dX6_originsAround_24 rfl rfl ?_
        refine r_icmp_eq 59 dX6_originsAround_25 (by decide) h (fun h => ?_) (fun h => ?_)
        · refine r_room (C' := 0) (D' := 0) (by omega) (by omega) ?_
          exact t_X6_originsAround_59 hl0  (f_X6_originsAround_4  n) (fun b0 b1 b2 b3 τ h => ih b0 b1 b2 b3 τ h) h
        · refine r_aload_n 0 dX6_originsAround_28 rfl ?_
          refine r_getr fd_X6_21 rfl dX6_originsAround_29 h (fun x4 h => ?_)
          refine r_iload_n 3 dX6_originsAround_32 rfl ?_
          refine r_iald dX6_originsAround_33 h (fun x5 h => ?_)
          refine r_iload_n 1 dX6_originsAround_34 rfl ?_
          refine r_icmp_gt 59 dX6_originsAround_35 (by decide) h (fun h => ?_) (fun h => ?_)
          · refine r_room (C' := 0) (D' := 0) (by omega) (by omega) ?_
            exact t_X6_originsAround_59 hl0  (f_X6_originsAround_4  n) (fun b0 b1 b2 b3 τ h => ih b0 b1 b2 b3 τ h) h
          · refine r_iload_n 1 dX6_originsAround_38 rfl ?_
            refine r_aload_n 0 dX6_originsAround_39 rfl ?_
            refine r_getr fd_X6_24 rfl dX6_originsAround_40 h (fun x6 h => ?_)
            refine r_iload_n 3 dX6_originsAround_43 rfl ?_
            refine r_iald dX6_originsAround_44 h (fun x7 h => ?_)
            refine r_icmp_gt 59 dX6_originsAround_45 (by decide) h (fun h => ?_) (fun h => ?_)
            · refine r_room (C' := 0) (D' := 0) (by omega) (by omega) ?_
              exact t_X6_originsAround_59 hl0  (f_X6_originsAround_4  n) (fun b0 b1 b2 b3 τ h => ih b0 b1 b2 b3 τ h) h
            · refine r_iload_n 2 dX6_originsAround_48 rfl ?_
              refine r_iconst (v := 1) dX6_originsAround_49 rfl rfl ?_
              refine r_aload_n 0 dX6_originsAround_50 rfl ?_
              refine r_getr fd_X6_15 rfl dX6_originsAround_51 h (fun x8 h => ?_)
              refine r_iload_n 3 dX6_originsAround_54 rfl ?_
              refine r_iald dX6_originsAround_55 h (fun x9 h => ?_)
              refine r_ishl dX6_originsAround_56 ?_
              refine r_ior dX6_originsAround_57 ?_
              refine r_istore_n (L' := [(2, (0, (zor a2 (zshl 1 x9)))), (0, (4, a0)), (1, (0, a1)), (3, (0, a3))]) dX6_originsAround_58 (by decide) rfl ?_
              refine r_weak (L' := [(0, (4, a0)), (1, (0, a1)), (2, (0, (zor a2 (zshl 1 x9)))), (3, (0, a3))]) [1, 2, 0, 3] rfl ?_
              refine r_room (C' := 0) (D' := 0) (by omega) (by omega) ?_
              exact t_X6_originsAround_59 hl0  (f_X6_originsAround_4  n) (fun b0 b1 b2 b3 τ h => ih b0 b1 b2 b3 τ h) h

set_option maxRecDepth 100000 in
set_option maxHeartbeats 4000000 in
theorem t_X6_originsAround {g : zF} (hl0 : g.2.2.2.1.stackTraces = false) {Q : zR × zS → Prop}   {a0 a1 : Int} {σ : zS} (h : zo (f_X6_originsAround  a0 a1 σ) Q) : zw g Y_X6_originsAround R_X6_originsAround 0 [(0, (4, a0)), (1, (0, a1))] [] σ 0 0 Q := by
  unfold f_X6_originsAround at h
  refine r_iconst (v := 0) dX6_originsAround_0 rfl rfl ?_
  refine r_istore_n (L' := [(2, (0, 0)), (0, (4, a0)), (1, (0, a1))]) dX6_originsAround_1 (by decide) rfl ?_
  refine r_iconst (v := 0) dX6_originsAround_2 rfl rfl ?_
  refine r_istore_n (L' := [(3, (0, 0)), (2, (0, 0)), (0, (4, a0)), (1, (0, a1))]) dX6_originsAround_3 (by decide) rfl ?_
  refine r_weak (L' := [(0, (4, a0)), (1, (0, a1)), (2, (0, 0)), (3, (0, 0))]) [2, 3, 1, 0] rfl ?_
  refine r_room (C' := 0) (D' := 0) (by omega) (by omega) ?_
  exact t_X6_originsAround_4 hl0    zFU _ _ _ _ _ h
theorem m_X6_originsAround {g : zF} (hl0 : g.2.2.2.1.stackTraces = false) {Q : zR × zS → Prop} {a0 a1 : Int} {σ : zS} (h : zo (f_X6_originsAround a0 a1 σ) Q) : zm g Y_X6_originsAround R_X6_originsAround [(4, a0), (0, a1)] σ Q := zm_of (by decide) rfl (Nat.le_of_ble_eq_true rfl) (t_X6_originsAround hl0 h)


/- J6_bitCount_0f7a4 -/

set_option maxRecDepth 100000 in
set_option maxHeartbeats 4000000 in
theorem t_J6_bitCount_0f7a4 {g : zF} (hl0 : g.2.2.2.1.stackTraces = false) {Q : zR × zS → Prop}   {a0 : Int} {σ : zS} (h : zo (f_J6_bitCount_0f7a4  a0 σ) Q) : zw g Y_J6_bitCount_0f7a4 R_J6_bitCount_0f7a4 0 [(0, (0, a0))] [] σ 0 0 Q := by
  unfold f_J6_bitCount_0f7a4 at h
  refine r_iload_n 0 dJ6_bitCount_0f7a4_0 rfl ?_
  refine r_iload_n 0 dJ6_bitCount_0f7a4_1 rfl ?_
  refine r_iconst (v := 1) dJ6_bitCount_0f7a4_2 rfl rfl ?_
  refine r_iushr dJ6_bitCount_0f7a4_3 ?_
  refine r_ldcIW (z := 1431655765) wd_1218 (by decide +kernel) dJ6_bitCount_0f7a4_4 ?_
  refine r_iand dJ6_bitCount_0f7a4_7 ?_
  refine r_isub dJ6_bitCount_0f7a4_8 ?_
  refine r_istore_n (L' := [(0, (0, (w32 (a0 - (zand (zush a0 1) 1431655765)))))]) dJ6_bitCount_0f7a4_9 (by decide) rfl ?_
  refine r_iload_n 0 dJ6_bitCount_0f7a4_10 rfl ?_
  refine r_ldcIW (z := 858993459) wd_1219 (by decide +kernel) dJ6_bitCount_0f7a4_11 ?_
  refine r_iand dJ6_bitCount_0f7a4_14 ?_
  refine r_iload_n 0 dJ6_bitCount_0f7a4_15 rfl ?_
  refine r_iconst (v := 2) dJ6_bitCount_0f7a4_16 rfl rfl ?_
  refine r_iushr dJ6_bitCount_0f7a4_17 ?_
  refine r_ldcIW (z := 858993459) wd_1219 (by decide +kernel) dJ6_bitCount_0f7a4_18 ?_
  refine r_iand dJ6_bitCount_0f7a4_21 ?_
  refine r_iadd dJ6_bitCount_0f7a4_22 ?_
  refine r_istore_n (L' := [(0, (0, (w32 ((zand (w32 (a0 - (zand (zush a0 1) 1431655765))) 858993459) + (zand (zush (w32 (a0 - (zand (zush a0 1) 1431655765))) 2) 858993459)))))]) dJ6_bitCount_0f7a4_23 (by decide) rfl ?_
  refine r_iload_n 0 dJ6_bitCount_0f7a4_24 rfl ?_
  refine r_iload_n 0 dJ6_bitCount_0f7a4_25 rfl ?_
  refine r_iconst (v := 4) dJ6_bitCount_0f7a4_26 rfl rfl ?_
  refine r_iushr dJ6_bitCount_0f7a4_27 ?_
  refine r_iadd dJ6_bitCount_0f7a4_28 ?_
  refine r_ldcIW (z := 252645135) wd_1220 (by decide +kernel) dJ6_bitCount_0f7a4_29 ?_
  refine r_iand dJ6_bitCount_0f7a4_32 ?_
  refine r_istore_n (L' := [(0, (0, (zand (w32 ((w32 ((zand (w32 (a0 - (zand (zush a0 1) 1431655765))) 858993459) + (zand (zush (w32 (a0 - (zand (zush a0 1) 1431655765))) 2) 858993459))) + (zush (w32 ((zand (w32 (a0 - (zand (zush a0 1) 1431655765))) 858993459) + (zand (zush (w32 (a0 - (zand (zush a0 1) 1431655765))) 2) 858993459))) 4))) 252645135)))]) dJ6_bitCount_0f7a4_33 (by decide) rfl ?_
  refine r_iload_n 0 dJ6_bitCount_0f7a4_34 rfl ?_
  refine r_iload_n 0 dJ6_bitCount_0f7a4_35 rfl ?_
  refine r_bipush (v := 8) dJ6_bitCount_0f7a4_36 rfl rfl ?_
  refine r_iushr dJ6_bitCount_0f7a4_38 ?_
  refine r_iadd dJ6_bitCount_0f7a4_39 ?_
  refine r_istore_n (L' := [(0, (0, (w32 ((zand (w32 ((w32 ((zand (w32 (a0 - (zand (zush a0 1) 1431655765))) 858993459) + (zand (zush (w32 (a0 - (zand (zush a0 1) 1431655765))) 2) 858993459))) + (zush (w32 ((zand (w32 (a0 - (zand (zush a0 1) 1431655765))) 858993459) + (zand (zush (w32 (a0 - (zand (zush a0 1) 1431655765))) 2) 858993459))) 4))) 252645135) + (zush (zand (w32 ((w32 ((zand (w32 (a0 - (zand (zush a0 1) 1431655765))) 858993459) + (zand (zush (w32 (a0 - (zand (zush a0 1) 1431655765))) 2) 858993459))) + (zush (w32 ((zand (w32 (a0 - (zand (zush a0 1) 1431655765))) 858993459) + (zand (zush (w32 (a0 - (zand (zush a0 1) 1431655765))) 2) 858993459))) 4))) 252645135) 8)))))]) dJ6_bitCount_0f7a4_40 (by decide) rfl ?_
  refine r_iload_n 0 dJ6_bitCount_0f7a4_41 rfl ?_
  refine r_iload_n 0 dJ6_bitCount_0f7a4_42 rfl ?_
  refine r_bipush (v := 16) dJ6_bitCount_0f7a4_43 rfl rfl ?_
  refine r_iushr dJ6_bitCount_0f7a4_45 ?_
  refine r_iadd dJ6_bitCount_0f7a4_46 ?_
  refine r_istore_n (L' := [(0, (0, (w32 ((w32 ((zand (w32 ((w32 ((zand (w32 (a0 - (zand (zush a0 1) 1431655765))) 858993459) + (zand (zush (w32 (a0 - (zand (zush a0 1) 1431655765))) 2) 858993459))) + (zush (w32 ((zand (w32 (a0 - (zand (zush a0 1) 1431655765))) 858993459) + (zand (zush (w32 (a0 - (zand (zush a0 1) 1431655765))) 2) 858993459))) 4))) 252645135) + (zush (zand (w32 ((w32 ((zand (w32 (a0 - (zand (zush a0 1) 1431655765))) 858993459) + (zand (zush (w32 (a0 - (zand (zush a0 1) 1431655765))) 2) 858993459))) + (zush (w32 ((zand (w32 (a0 - (zand (zush a0 1) 1431655765))) 858993459) + (zand (zush (w32 (a0 - (zand (zush a0 1) 1431655765))) 2) 858993459))) 4))) 252645135) 8))) + (zush (w32 ((zand (w32 ((w32 ((zand (w32 (a0 - (zand (zush a0 1) 1431655765))) 858993459) + (zand (zush (w32 (a0 - (zand (zush a0 1) 1431655765))) 2) 858993459))) + (zush (w32 ((zand (w32 (a0 - (zand (zush a0 1) 1431655765))) 858993459) + (zand (zush (w32 (a0 - (zand (zush a0 1) 1431655765))) 2) 858993459))) 4))) 252645135) + (zush (zand (w32 ((w32 ((zand (w32 (a0 - (zand (zush a0 1) 1431655765))) 858993459) + (zand (zush (w32 (a0 - (zand (zush a0 1) 1431655765))) 2) 858993459))) + (zush (w32 ((zand (w32 (a0 - (zand (zush a0 1) 1431655765))) 858993459) + (zand (zush (w32 (a0 - (zand (zush a0 1) 1431655765))) 2) 858993459))) 4))) 252645135) 8))) 16)))))]) dJ6_bitCount_0f7a4_47 (by decide) rfl ?_
  refine r_iload_n 0 dJ6_bitCount_0f7a4_48 rfl ?_
  refine r_bipush (v := 63) dJ6_bitCount_0f7a4_49 rfl rfl ?_
  refine r_iand dJ6_bitCount_0f7a4_51 ?_
  exact r_iret rfl dJ6_bitCount_0f7a4_52 h
theorem m_J6_bitCount_0f7a4 {g : zF} (hl0 : g.2.2.2.1.stackTraces = false) {Q : zR × zS → Prop} {a0 : Int} {σ : zS} (h : zo (f_J6_bitCount_0f7a4 a0 σ) Q) : zm g Y_J6_bitCount_0f7a4 R_J6_bitCount_0f7a4 [(0, a0)] σ Q := zm_of (by decide) rfl (Nat.le_of_ble_eq_true rfl) (t_J6_bitCount_0f7a4 hl0 h)


/- X6_largestSet -/

set_option maxRecDepth 100000 in
set_option maxHeartbeats 4000000 in
theorem t_X6_largestSet_71 {g : zF} (hl0 : g.2.2.2.1.stackTraces = false) {Q : zR × zS → Prop} (r4 : Int → Int → Int → zS → zFn) (hr4 : ∀ b0 b1 b2 τ, zo (r4 b0 b1 b2 τ) Q → zw g Y_X6_largestSet R_X6_largestSet 4 [(0, (4, b0)), (1, (0, b1)), (2, (0, b2))] [] τ 0 0 Q) {a0 a1 a2 : Int} {σ : zS} (h : zo (f_X6_largestSet_71 r4 a0 a1 a2 σ) Q) : zw g Y_X6_largestSet R_X6_largestSet 71 [(0, (4, a0)), (1, (0, a1)), (2, (0, a2))] [] σ 0 0 Q := by
  unfold f_X6_largestSet_71 at h
  refine r_iinc (L' := [(2, (0, (w32 (a2 + 1)))), (0, (4, a0)), (1, (0, a1))]) 2 dX6_largestSet_71 rfl (by decide) rfl ?_
  refine r_goto 4 dX6_largestSet_74 (by decide) ?_
  refine r_weak (L' := [(0, (4, a0)), (1, (0, a1)), (2, (0, (w32 (a2 + 1))))]) [1, 2, 0] rfl ?_
  refine r_room (C' := 0) (D' := 0) (by omega) (by omega) ?_
  exact hr4 _ _ _ _ h

set_option maxRecDepth 100000 in
set_option maxHeartbeats 4000000 in
theorem t_X6_largestSet_69 {g : zF} (hl0 : g.2.2.2.1.stackTraces = false) {Q : zR × zS → Prop} (r4 : Int → Int → Int → zS → zFn) (hr4 : ∀ b0 b1 b2 τ, zo (r4 b0 b1 b2 τ) Q → zw g Y_X6_largestSet R_X6_largestSet 4 [(0, (4, b0)), (1, (0, b1)), (2, (0, b2))] [] τ 0 0 Q) {a0 a2 a3 : Int} {σ : zS} (h : zo (f_X6_largestSet_69 r4 a0 a2 a3 σ) Q) : zw g Y_X6_largestSet R_X6_largestSet 69 [(0, (4, a0)), (2, (0, a2)), (3, (0, a3))] [] σ 0 0 Q := by
  unfold f_X6_largestSet_69 at h
  refine r_iload_n 2 dX6_largestSet_69 rfl ?_
  refine r_istore_n (L' := [(1, (0, a3)), (0, (4, a0)), (2, (0, a2)), (3, (0, a3))]) dX6_largestSet_70 (by decide) rfl ?_
  refine r_weak (L' := [(0, (4, a0)), (1, (0, a3)), (2, (0, a2))]) [1, 0, 2] rfl ?_
  refine r_room (C' := 0) (D' := 0) (by omega) (by omega) ?_
  exact t_X6_largestSet_71 hl0  r4 hr4 h

set_option maxRecDepth 100000 in
set_option maxHeartbeats 4000000 in
theorem t_X6_largestSet_42 {g : zF} (hl0 : g.2.2.2.1.stackTraces = false) {Q : zR × zS → Prop} (r4 : Int → Int → Int → zS → zFn) (hr4 : ∀ b0 b1 b2 τ, zo (r4 b0 b1 b2 τ) Q → zw g Y_X6_largestSet R_X6_largestSet 4 [(0, (4, b0)), (1, (0, b1)), (2, (0, b2))] [] τ 0 0 Q) {a0 a1 a2 s0 : Int} {σ : zS} (h : zo (f_X6_largestSet_42 r4 a0 a1 a2 s0 σ) Q) : zw g Y_X6_largestSet R_X6_largestSet 42 [(0, (4, a0)), (1, (0, a1)), (2, (0, a2))] [(0, s0)] σ 0 0 Q := by
  unfold f_X6_largestSet_42 at h
  refine r_istore_n (L' := [(3, (0, s0)), (0, (4, a0)), (1, (0, a1)), (2, (0, a2))]) dX6_largestSet_42 (by decide) rfl ?_
  refine r_iload_n 0 dX6_largestSet_43 rfl ?_
  refine r_callS (K' := Y_J6_bitCount_0f7a4) (R' := R_J6_bitCount_0f7a4) (idx := 92) (n := 1) (as := [(0, s0)]) (rest := []) (C' := 0) (D' := 0) rfl k0_J6_bitCount_0f7a4 wd_1216 kl_X6_92 ⟨by decide, by decide⟩ dX6_largestSet_44 rfl rfl (Nat.le_of_ble_eq_true rfl) (by decide) (by decide) h (fun r hr => m_J6_bitCount_0f7a4 hl0 ⟨r, hr, hr⟩) (fun x1 τ2 _ h => ?_)
  refine r_iload_n 2 dX6_largestSet_47 rfl ?_
  refine r_callS (K' := Y_J6_bitCount_0f7a4) (R' := R_J6_bitCount_0f7a4) (idx := 92) (n := 1) (as := [(0, a1)]) (rest := [(0, x1)]) (C' := 0) (D' := 0) rfl k0_J6_bitCount_0f7a4 wd_1216 kl_X6_92 ⟨by decide, by decide⟩ dX6_largestSet_48 rfl rfl (Nat.le_of_ble_eq_true rfl) (by decide) (by decide) h (fun r hr => m_J6_bitCount_0f7a4 hl0 ⟨r, hr, hr⟩) (fun x3 τ4 _ h => ?_)
  refine r_isub dX6_largestSet_51 ?_
  refine r_istore (L' := [(4, (0, (w32 (x1 - x3)))), (3, (0, s0)), (0, (4, a0)), (1, (0, a1)), (2, (0, a2))]) dX6_largestSet_52 (by decide) rfl ?_
  refine r_iload 0 dX6_largestSet_54 rfl ?_
  refine r_if_gt 69 dX6_largestSet_56 (by decide) h (fun h => ?_) (fun h => ?_)
  · refine r_weak (L' := [(0, (4, a0)), (2, (0, a2)), (3, (0, s0))]) [2, 4, 1] rfl ?_
    refine r_room (C' := 0) (D' := 0) (by omega) (by omega) ?_
    exact t_X6_largestSet_69 hl0  r4 hr4 h
  · refine r_iload 0 dX6_largestSet_59 rfl ?_
    refine r_if_ne 71 dX6_largestSet_61 (by decide) h (fun h => ?_) (fun h => ?_)
    · refine r_weak (L' := [(0, (4, a0)), (1, (0, a1)), (2, (0, a2))]) [2, 3, 4] rfl ?_
      refine r_room (C' := 0) (D' := 0) (by omega) (by omega) ?_
      exact t_X6_largestSet_71 hl0  r4 hr4 h
    · refine r_iload_n 1 dX6_largestSet_64 rfl ?_
      refine r_iload_n 3 dX6_largestSet_65 rfl ?_
      refine r_icmp_ge 71 dX6_largestSet_66 (by decide) h (fun h => ?_) (fun h => ?_)
      · refine r_weak (L' := [(0, (4, a0)), (1, (0, a1)), (2, (0, a2))]) [2, 3, 4] rfl ?_
        refine r_room (C' := 0) (D' := 0) (by omega) (by omega) ?_
        exact t_X6_largestSet_71 hl0  r4 hr4 h
      · refine r_weak (L' := [(0, (4, a0)), (2, (0, a2)), (3, (0, s0))]) [2, 4, 1] rfl ?_
        refine r_room (C' := 0) (D' := 0) (by omega) (by omega) ?_
        exact t_X6_largestSet_69 hl0  r4 hr4 h

set_option maxRecDepth 100000 in
set_option maxHeartbeats 4000000 in
theorem t_X6_largestSet_4 {g : zF} (hl0 : g.2.2.2.1.stackTraces = false) {Q : zR × zS → Prop}   : ∀ (n : Nat) (a0 a1 a2 : Int) (σ : zS), zo (f_X6_largestSet_4  n a0 a1 a2 σ) Q → zw g Y_X6_largestSet R_X6_largestSet 4 [(0, (4, a0)), (1, (0, a1)), (2, (0, a2))] [] σ 0 0 Q := by
  intro n
  induction n with
  | zero => intro a0 a1 a2 σ h; obtain ⟨r, h, -⟩ := h; cases h
  | succ n ih =>
    intro a0 a1 a2 σ h
    unfold f_X6_largestSet_4 at h
    refine r_iload_n 2 dX6_largestSet_4 rfl ?_
    refine r_aload_n 0 dX6_largestSet_5 rfl ?_
    refine r_getf fd_X6_30 rfl dX6_largestSet_6 h (fun x1 h => ?_)
    refine r_icmp_ge 77 dX6_largestSet_9 (by decide) h (fun h => ?_) (fun h => ?_)
    · refine r_iload_n 1 dX6_largestSet_77 rfl ?_
      exact r_iret rfl dX6_largestSet_78 h
    · refine r_iload_n 2 dX6_largestSet_12 rfl ?_
      refine r_bipush (v := 6) dX6_largestSet_13 rfl rfl ?_
      refine r_icmp_ge 77 dX6_largestSet_15 (by decide) h (fun h => ?_) (fun h => ?_)
      · refine r_iload_n 1 dX6_largestSet_77 rfl ?_
        exact r_iret rfl dX6_largestSet_78 h
      · refine r_aload_n 0 dX6_largestSet_18 rfl ?_
        refine r_getr fd_X6_27 rfl dX6_largestSet_19 h (fun x2 h => ?_)
        refine r_iload_n 2 dX6_largestSet_22 rfl ?_
        refine r_iald dX6_largestSet_23 h (fun x3 h => ?_)
        refine r_iconst (v := 2) dX6_largestSet_24 rfl rfl ?_
        refine r_icmp_ne 32 dX6_largestSet_25 (by decide) h (fun h => ?_) (fun h => ?_)
        · refine r_aload_n 0 dX6_largestSet_32 rfl ?_
          refine r_aload_n 0 dX6_largestSet_33 rfl ?_
          refine r_getr fd_X6_21 rfl dX6_largestSet_34 h (fun x4 h => ?_)
          refine r_iload_n 2 dX6_largestSet_37 rfl ?_
          refine r_iald dX6_largestSet_38 h (fun x5 h => ?_)
          refine r_callV (K' := Y_X6_originsAround) (R' := R_X6_originsAround) (idx := 89) (n := 1) (b := a0) (as := [(0, x5)]) (rest := []) (C' := 0) (D' := 0) (cn := 6) rfl k0_X6_originsAround kV_X6_originsAround kl_X6_89 ⟨by decide, by decide⟩ dX6_largestSet_39 rfl rfl (Nat.le_of_ble_eq_true rfl) (by decide) (by decide) rfl h (fun r hr => m_X6_originsAround hl0 ⟨r, hr, hr⟩) (fun x6 τ7 _ h => ?_)
          refine r_room (C' := 0) (D' := 0) (by omega) (by omega) ?_
          exact t_X6_largestSet_42 hl0  (f_X6_largestSet_4  n) (fun b0 b1 b2 τ h => ih b0 b1 b2 τ h) h
        · refine r_iconst (v := 0) dX6_largestSet_28 rfl rfl ?_
          refine r_goto 42 dX6_largestSet_29 (by decide) ?_
          refine r_room (C' := 0) (D' := 0) (by omega) (by omega) ?_
          exact t_X6_largestSet_42 hl0  (f_X6_largestSet_4  n) (fun b0 b1 b2 τ h => ih b0 b1 b2 τ h) h

set_option maxRecDepth 100000 in
set_option maxHeartbeats 4000000 in
theorem t_X6_largestSet {g : zF} (hl0 : g.2.2.2.1.stackTraces = false) {Q : zR × zS → Prop}   {a0 : Int} {σ : zS} (h : zo (f_X6_largestSet  a0 σ) Q) : zw g Y_X6_largestSet R_X6_largestSet 0 [(0, (4, a0))] [] σ 0 0 Q := by
  unfold f_X6_largestSet at h
  refine r_iconst (v := 0) dX6_largestSet_0 rfl rfl ?_
  refine r_istore_n (L' := [(1, (0, 0)), (0, (4, a0))]) dX6_largestSet_1 (by decide) rfl ?_
  refine r_iconst (v := 0) dX6_largestSet_2 rfl rfl ?_
  refine r_istore_n (L' := [(2, (0, 0)), (1, (0, 0)), (0, (4, a0))]) dX6_largestSet_3 (by decide) rfl ?_
  refine r_weak (L' := [(0, (4, a0)), (1, (0, 0)), (2, (0, 0))]) [2, 1, 0] rfl ?_
  refine r_room (C' := 0) (D' := 0) (by omega) (by omega) ?_
  exact t_X6_largestSet_4 hl0    zFU _ _ _ _ h
theorem m_X6_largestSet {g : zF} (hl0 : g.2.2.2.1.stackTraces = false) {Q : zR × zS → Prop} {a0 : Int} {σ : zS} (h : zo (f_X6_largestSet a0 σ) Q) : zm g Y_X6_largestSet R_X6_largestSet [(4, a0)] σ Q := zm_of (by decide) rfl (Nat.le_of_ble_eq_true rfl) (t_X6_largestSet hl0 h)


/- X6_lowOf -/

set_option maxRecDepth 100000 in
set_option maxHeartbeats 4000000 in
theorem t_X6_lowOf_42 {g : zF} (hl0 : g.2.2.2.1.stackTraces = false) {Q : zR × zS → Prop} (r4 : Int → Int → Int → Int → zS → zFn) (hr4 : ∀ b0 b1 b2 b3 τ, zo (r4 b0 b1 b2 b3 τ) Q → zw g Y_X6_lowOf R_X6_lowOf 4 [(0, (4, b0)), (1, (0, b1)), (2, (0, b2)), (3, (0, b3))] [] τ 0 0 Q) {a0 a1 a2 a3 : Int} {σ : zS} (h : zo (f_X6_lowOf_42 r4 a0 a1 a2 a3 σ) Q) : zw g Y_X6_lowOf R_X6_lowOf 42 [(0, (4, a0)), (1, (0, a1)), (2, (0, a2)), (3, (0, a3))] [] σ 0 0 Q := by
  unfold f_X6_lowOf_42 at h
  refine r_iinc (L' := [(3, (0, (w32 (a3 + 1)))), (0, (4, a0)), (1, (0, a1)), (2, (0, a2))]) 3 dX6_lowOf_42 rfl (by decide) rfl ?_
  refine r_goto 4 dX6_lowOf_45 (by decide) ?_
  refine r_weak (L' := [(0, (4, a0)), (1, (0, a1)), (2, (0, a2)), (3, (0, (w32 (a3 + 1))))]) [1, 2, 3, 0] rfl ?_
  refine r_room (C' := 0) (D' := 0) (by omega) (by omega) ?_
  exact hr4 _ _ _ _ _ h

set_option maxRecDepth 100000 in
set_option maxHeartbeats 4000000 in
theorem t_X6_lowOf_4 {g : zF} (hl0 : g.2.2.2.1.stackTraces = false) {Q : zR × zS → Prop}   : ∀ (n : Nat) (a0 a1 a2 a3 : Int) (σ : zS), zo (f_X6_lowOf_4  n a0 a1 a2 a3 σ) Q → zw g Y_X6_lowOf R_X6_lowOf 4 [(0, (4, a0)), (1, (0, a1)), (2, (0, a2)), (3, (0, a3))] [] σ 0 0 Q := by
  intro n
  induction n with
  | zero => intro a0 a1 a2 a3 σ h; obtain ⟨r, h, -⟩ := h; cases h
  | succ n ih =>
    intro a0 a1 a2 a3 σ h
    unfold f_X6_lowOf_4 at h
    refine r_iload_n 3 dX6_lowOf_4 rfl ?_
    refine r_aload_n 0 dX6_lowOf_5 rfl ?_
    refine r_getf fd_X6_30 rfl dX6_lowOf_6 h (fun x1 h => ?_)
    refine r_icmp_ge 48 dX6_lowOf_9 (by decide) h (fun h => ?_) (fun h => ?_)
    · refine r_iload_n 2 dX6_lowOf_48 rfl ?_
      exact r_iret rfl dX6_lowOf_49 h
    · refine r_iload_n 3 dX6_lowOf_12 rfl ?_
      refine r_bipush (v := 6) dX6_lowOf_13 rfl rfl ?_
      refine r_icmp_ge 48 dX6_lowOf_15 (by decide) h (fun h => ?_) (fun h => ?_)
      · refine r_iload_n 2 dX6_lowOf_48 rfl ?_
        exact r_iret rfl dX6_lowOf_49 h
      · refine r_iload_n 1 dX6_lowOf_18 rfl ?_
        refine r_aload_n 0 dX6_lowOf_19 rfl ?_
        refine r_getr fd_X6_15 rfl dX6_lowOf_20 h (fun x2 h => ?_)
        refine r_iload_n 3 dX6_lowOf_23 rfl ?_
        refine r_iald dX6_lowOf_24 h (fun x3 h => ?_)
        refine r_callS (K' := Y_X7_contains) (R' := R_X7_contains) (idx := 97) (n := 2) (as := [(0, a1), (0, x3)]) (rest := []) (C' := 0) (D' := 0) rfl k0_X7_contains wd_1126 kl_X6_97 ⟨by decide, by decide⟩ dX6_lowOf_25 rfl rfl (Nat.le_of_ble_eq_true rfl) (by decide) (by decide) h (fun r hr => m_X7_contains hl0 ⟨r, hr, hr⟩) (fun x4 τ5 _ h => ?_)
        refine r_if_eq 42 dX6_lowOf_28 (by decide) h (fun h => ?_) (fun h => ?_)
        · refine r_room (C' := 0) (D' := 0) (by omega) (by omega) ?_
          exact t_X6_lowOf_42 hl0  (f_X6_lowOf_4  n) (fun b0 b1 b2 b3 τ h => ih b0 b1 b2 b3 τ h) h
        · refine r_iload_n 2 dX6_lowOf_31 rfl ?_
          refine r_aload_n 0 dX6_lowOf_32 rfl ?_
          refine r_getr fd_X6_21 rfl dX6_lowOf_33 h (fun x6 h => ?_)
          refine r_iload_n 3 dX6_lowOf_36 rfl ?_
          refine r_iald dX6_lowOf_37 h (fun x7 h => ?_)
          refine r_mmax mq_X6_81 ⟨by decide, Nat.le_of_ble_eq_true rfl⟩ rfl dX6_lowOf_38 ?_
          refine r_istore_n (L' := [(2, (0, (max a2 x7))), (0, (4, a0)), (1, (0, a1)), (3, (0, a3))]) dX6_lowOf_41 (by decide) rfl ?_
          refine r_weak (L' := [(0, (4, a0)), (1, (0, a1)), (2, (0, (max a2 x7))), (3, (0, a3))]) [1, 2, 0, 3] rfl ?_
          refine r_room (C' := 0) (D' := 0) (by omega) (by omega) ?_
          exact t_X6_lowOf_42 hl0  (f_X6_lowOf_4  n) (fun b0 b1 b2 b3 τ h => ih b0 b1 b2 b3 τ h) h

set_option maxRecDepth 100000 in
set_option maxHeartbeats 4000000 in
theorem t_X6_lowOf {g : zF} (hl0 : g.2.2.2.1.stackTraces = false) {Q : zR × zS → Prop}   {a0 a1 : Int} {σ : zS} (h : zo (f_X6_lowOf  a0 a1 σ) Q) : zw g Y_X6_lowOf R_X6_lowOf 0 [(0, (4, a0)), (1, (0, a1))] [] σ 0 0 Q := by
  unfold f_X6_lowOf at h
  refine r_iconst (v := 0) dX6_lowOf_0 rfl rfl ?_
  refine r_istore_n (L' := [(2, (0, 0)), (0, (4, a0)), (1, (0, a1))]) dX6_lowOf_1 (by decide) rfl ?_
  refine r_iconst (v := 0) dX6_lowOf_2 rfl rfl ?_
  refine r_istore_n (L' := [(3, (0, 0)), (2, (0, 0)), (0, (4, a0)), (1, (0, a1))]) dX6_lowOf_3 (by decide) rfl ?_
  refine r_weak (L' := [(0, (4, a0)), (1, (0, a1)), (2, (0, 0)), (3, (0, 0))]) [2, 3, 1, 0] rfl ?_
  refine r_room (C' := 0) (D' := 0) (by omega) (by omega) ?_
  exact t_X6_lowOf_4 hl0    zFU _ _ _ _ _ h
theorem m_X6_lowOf {g : zF} (hl0 : g.2.2.2.1.stackTraces = false) {Q : zR × zS → Prop} {a0 a1 : Int} {σ : zS} (h : zo (f_X6_lowOf a0 a1 σ) Q) : zm g Y_X6_lowOf R_X6_lowOf [(4, a0), (0, a1)] σ Q := zm_of (by decide) rfl (Nat.le_of_ble_eq_true rfl) (t_X6_lowOf hl0 h)


/- X6_highOf -/

set_option maxRecDepth 100000 in
set_option maxHeartbeats 4000000 in
theorem t_X6_highOf_44 {g : zF} (hl0 : g.2.2.2.1.stackTraces = false) {Q : zR × zS → Prop} (r6 : Int → Int → Int → Int → zS → zFn) (hr6 : ∀ b0 b1 b2 b3 τ, zo (r6 b0 b1 b2 b3 τ) Q → zw g Y_X6_highOf R_X6_highOf 6 [(0, (4, b0)), (1, (0, b1)), (2, (0, b2)), (3, (0, b3))] [] τ 0 0 Q) {a0 a1 a2 a3 : Int} {σ : zS} (h : zo (f_X6_highOf_44 r6 a0 a1 a2 a3 σ) Q) : zw g Y_X6_highOf R_X6_highOf 44 [(0, (4, a0)), (1, (0, a1)), (2, (0, a2)), (3, (0, a3))] [] σ 0 0 Q := by
  unfold f_X6_highOf_44 at h
  refine r_iinc (L' := [(3, (0, (w32 (a3 + 1)))), (0, (4, a0)), (1, (0, a1)), (2, (0, a2))]) 3 dX6_highOf_44 rfl (by decide) rfl ?_
  refine r_goto 6 dX6_highOf_47 (by decide) ?_
  refine r_weak (L' := [(0, (4, a0)), (1, (0, a1)), (2, (0, a2)), (3, (0, (w32 (a3 + 1))))]) [1, 2, 3, 0] rfl ?_
  refine r_room (C' := 0) (D' := 0) (by omega) (by omega) ?_
  exact hr6 _ _ _ _ _ h

set_option maxRecDepth 100000 in
set_option maxHeartbeats 4000000 in
theorem t_X6_highOf_6 {g : zF} (hl0 : g.2.2.2.1.stackTraces = false) {Q : zR × zS → Prop}   : ∀ (n : Nat) (a0 a1 a2 a3 : Int) (σ : zS), zo (f_X6_highOf_6  n a0 a1 a2 a3 σ) Q → zw g Y_X6_highOf R_X6_highOf 6 [(0, (4, a0)), (1, (0, a1)), (2, (0, a2)), (3, (0, a3))] [] σ 0 0 Q := by
  intro n
  induction n with
  | zero => intro a0 a1 a2 a3 σ h; obtain ⟨r, h, -⟩ := h; cases h
  | succ n ih =>
    intro a0 a1 a2 a3 σ h
    unfold f_X6_highOf_6 at h
    refine r_iload_n 3 dX6_highOf_6 rfl ?_
    refine r_aload_n 0 dX6_highOf_7 rfl ?_
    refine r_getf fd_X6_30 rfl dX6_highOf_8 h (fun x1 h => ?_)
    refine r_icmp_ge 50 dX6_highOf_11 (by decide) h (fun h => ?_) (fun h => ?_)
    · refine r_iload_n 2 dX6_highOf_50 rfl ?_
      exact r_iret rfl dX6_highOf_51 h
    · refine r_iload_n 3 dX6_highOf_14 rfl ?_
      refine r_bipush (v := 6) dX6_highOf_15 rfl rfl ?_
      refine r_icmp_ge 50 dX6_highOf_17 (by decide) h (fun h => ?_) (fun h => ?_)
      · refine r_iload_n 2 dX6_highOf_50 rfl ?_
        exact r_iret rfl dX6_highOf_51 h
      · refine r_iload_n 1 dX6_highOf_20 rfl ?_
        refine r_aload_n 0 dX6_highOf_21 rfl ?_
        refine r_getr fd_X6_15 rfl dX6_highOf_22 h (fun x2 h => ?_)
        refine r_iload_n 3 dX6_highOf_25 rfl ?_
        refine r_iald dX6_highOf_26 h (fun x3 h => ?_)
        refine r_callS (K' := Y_X7_contains) (R' := R_X7_contains) (idx := 97) (n := 2) (as := [(0, a1), (0, x3)]) (rest := []) (C' := 0) (D' := 0) rfl k0_X7_contains wd_1126 kl_X6_97 ⟨by decide, by decide⟩ dX6_highOf_27 rfl rfl (Nat.le_of_ble_eq_true rfl) (by decide) (by decide) h (fun r hr => m_X7_contains hl0 ⟨r, hr, hr⟩) (fun x4 τ5 _ h => ?_)
        refine r_if_eq 44 dX6_highOf_30 (by decide) h (fun h => ?_) (fun h => ?_)
        · refine r_room (C' := 0) (D' := 0) (by omega) (by omega) ?_
          exact t_X6_highOf_44 hl0  (f_X6_highOf_6  n) (fun b0 b1 b2 b3 τ h => ih b0 b1 b2 b3 τ h) h
        · refine r_iload_n 2 dX6_highOf_33 rfl ?_
          refine r_aload_n 0 dX6_highOf_34 rfl ?_
          refine r_getr fd_X6_24 rfl dX6_highOf_35 h (fun x6 h => ?_)
          refine r_iload_n 3 dX6_highOf_38 rfl ?_
          refine r_iald dX6_highOf_39 h (fun x7 h => ?_)
          refine r_mmin mq_X6_86 ⟨by decide, Nat.le_of_ble_eq_true rfl⟩ rfl dX6_highOf_40 ?_
          refine r_istore_n (L' := [(2, (0, (min a2 x7))), (0, (4, a0)), (1, (0, a1)), (3, (0, a3))]) dX6_highOf_43 (by decide) rfl ?_
          refine r_weak (L' := [(0, (4, a0)), (1, (0, a1)), (2, (0, (min a2 x7))), (3, (0, a3))]) [1, 2, 0, 3] rfl ?_
          refine r_room (C' := 0) (D' := 0) (by omega) (by omega) ?_
          exact t_X6_highOf_44 hl0  (f_X6_highOf_6  n) (fun b0 b1 b2 b3 τ h => ih b0 b1 b2 b3 τ h) h

set_option maxRecDepth 100000 in
set_option maxHeartbeats 4000000 in
theorem t_X6_highOf {g : zF} (hl0 : g.2.2.2.1.stackTraces = false) {Q : zR × zS → Prop}   {a0 a1 : Int} {σ : zS} (h : zo (f_X6_highOf  a0 a1 σ) Q) : zw g Y_X6_highOf R_X6_highOf 0 [(0, (4, a0)), (1, (0, a1))] [] σ 0 0 Q := by
  unfold f_X6_highOf at h
  refine r_sipush (v := 999) dX6_highOf_0 rfl rfl ?_
  refine r_istore_n (L' := [(2, (0, 999)), (0, (4, a0)), (1, (0, a1))]) dX6_highOf_3 (by decide) rfl ?_
  refine r_iconst (v := 0) dX6_highOf_4 rfl rfl ?_
  refine r_istore_n (L' := [(3, (0, 0)), (2, (0, 999)), (0, (4, a0)), (1, (0, a1))]) dX6_highOf_5 (by decide) rfl ?_
  refine r_weak (L' := [(0, (4, a0)), (1, (0, a1)), (2, (0, 999)), (3, (0, 0))]) [2, 3, 1, 0] rfl ?_
  refine r_room (C' := 0) (D' := 0) (by omega) (by omega) ?_
  exact t_X6_highOf_6 hl0    zFU _ _ _ _ _ h
theorem m_X6_highOf {g : zF} (hl0 : g.2.2.2.1.stackTraces = false) {Q : zR × zS → Prop} {a0 a1 : Int} {σ : zS} (h : zo (f_X6_highOf a0 a1 σ) Q) : zm g Y_X6_highOf R_X6_highOf [(4, a0), (0, a1)] σ Q := zm_of (by decide) rfl (Nat.le_of_ble_eq_true rfl) (t_X6_highOf hl0 h)


/- X7_init -/

set_option maxRecDepth 100000 in
set_option maxHeartbeats 4000000 in
theorem t_X7_init {g : zF} (hl0 : g.2.2.2.1.stackTraces = false) {Q : zR × zS → Prop}   {a0 : Int} {σ : zS} (h : zo (f_X7_init  a0 σ) Q) : zw g Y_X7_init R_X7_init 0 [(0, (4, a0))] [] σ 69 17155 Q := by
  unfold f_X7_init at h
  refine r_aload_n 0 dX7_init_0 rfl ?_
  refine r_objinit oi_X7_1 ⟨by decide, Nat.le_of_ble_eq_true rfl⟩ dX7_init_1 h (fun h => ?_)
  refine r_aload_n 0 dX7_init_4 rfl ?_
  refine r_new (C' := 68) (D' := 17153) nw_X7_7 dX7_init_5 (by decide) (by decide) h (fun x1 τ2 h => ?_)
  refine r_dup dX7_init_8 rfl ?_
  refine r_sipush (v := 600) dX7_init_9 rfl rfl ?_
  obtain ⟨h0, h⟩ := zite_o h
  refine r_callI (K' := Y_X0_init) (R' := R_X0_init) (idx := 11) (n := 1) (b := x1) (as := [(0, 600)]) (rest := [(4, x1), (4, a0)]) (C' := 67) (D' := 15929) rfl k0_X0_init kI_X0_init kl_X7_11 ⟨by decide, by decide⟩ dX7_init_12 rfl rfl (Nat.le_of_ble_eq_true rfl) (by decide) (by decide) h h0 (fun r hr => m_X0_init hl0 ⟨r, hr, hr⟩) (fun _ τ4 _ h => ?_)
  refine r_putr fd_X7_14 fp_X7_init_14 dX7_init_15 h (fun τ5 h => ?_)
  refine r_aload_n 0 dX7_init_18 rfl ?_
  refine r_new (C' := 66) (D' := 15927) nw_X7_7 dX7_init_19 (by decide) (by decide) h (fun x6 τ7 h => ?_)
  refine r_dup dX7_init_22 rfl ?_
  refine r_sipush (v := 1224) dX7_init_23 rfl rfl ?_
  obtain ⟨h0, h⟩ := zite_o h
  refine r_callI (K' := Y_X0_init) (R' := R_X0_init) (idx := 11) (n := 1) (b := x6) (as := [(0, 1224)]) (rest := [(4, x6), (4, a0)]) (C' := 65) (D' := 14703) rfl k0_X0_init kI_X0_init kl_X7_11 ⟨by decide, by decide⟩ dX7_init_26 rfl rfl (Nat.le_of_ble_eq_true rfl) (by decide) (by decide) h h0 (fun r hr => m_X0_init hl0 ⟨r, hr, hr⟩) (fun _ τ9 _ h => ?_)
  refine r_putr fd_X7_18 fp_X7_init_18 dX7_init_29 h (fun τ10 h => ?_)
  refine r_aload_n 0 dX7_init_32 rfl ?_
  refine r_new (C' := 64) (D' := 14694) nw_X7_21 dX7_init_33 (by decide) (by decide) h (fun x11 τ12 h => ?_)
  refine r_dup dX7_init_36 rfl ?_
  obtain ⟨h0, h⟩ := zite_o h
  refine r_callI (K' := Y_X6_init) (R' := R_X6_init) (idx := 23) (n := 0) (b := x11) (as := []) (rest := [(4, x11), (4, a0)]) (C' := 58) (D' := 14658) rfl k0_X6_init kI_X6_init kl_X7_23 ⟨by decide, by decide⟩ dX7_init_37 rfl rfl (Nat.le_of_ble_eq_true rfl) (by decide) (by decide) h h0 (fun r hr => m_X6_init hl0 ⟨r, hr, hr⟩) (fun _ τ14 _ h => ?_)
  refine r_putr fd_X7_24 fp_X7_init_24 dX7_init_40 h (fun τ15 h => ?_)
  refine r_aload_n 0 dX7_init_43 rfl ?_
  refine r_new (C' := 57) (D' := 14649) nw_X7_28 dX7_init_44 (by decide) (by decide) h (fun x16 τ17 h => ?_)
  refine r_dup dX7_init_47 rfl ?_
  obtain ⟨h0, h⟩ := zite_o h
  refine r_callI (K' := Y_X1_init) (R' := R_X1_init) (idx := 30) (n := 0) (b := x16) (as := []) (rest := [(4, x16), (4, a0)]) (C' := 31) (D' := 7338) rfl k0_X1_init kI_X1_init kl_X7_30 ⟨by decide, by decide⟩ dX7_init_48 rfl rfl (Nat.le_of_ble_eq_true rfl) (by decide) (by decide) h h0 (fun r hr => m_X1_init hl0 ⟨r, hr, hr⟩) (fun _ τ19 _ h => ?_)
  refine r_putr fd_X7_31 fp_X7_init_31 dX7_init_51 h (fun τ20 h => ?_)
  refine r_aload_n 0 dX7_init_54 rfl ?_
  refine r_new (C' := 30) (D' := 7329) nw_X7_28 dX7_init_55 (by decide) (by decide) h (fun x21 τ22 h => ?_)
  refine r_dup dX7_init_58 rfl ?_
  obtain ⟨h0, h⟩ := zite_o h
  refine r_callI (K' := Y_X1_init) (R' := R_X1_init) (idx := 30) (n := 0) (b := x21) (as := []) (rest := [(4, x21), (4, a0)]) (C' := 4) (D' := 18) rfl k0_X1_init kI_X1_init kl_X7_30 ⟨by decide, by decide⟩ dX7_init_59 rfl rfl (Nat.le_of_ble_eq_true rfl) (by decide) (by decide) h h0 (fun r hr => m_X1_init hl0 ⟨r, hr, hr⟩) (fun _ τ24 _ h => ?_)
  refine r_putr fd_X7_35 fp_X7_init_35 dX7_init_62 h (fun τ25 h => ?_)
  refine r_aload_n 0 dX7_init_65 rfl ?_
  refine r_new (C' := 3) (D' := 10) nw_X7_38 dX7_init_66 (by decide) (by decide) h (fun x26 τ27 h => ?_)
  refine r_dup dX7_init_69 rfl ?_
  refine r_aload_n 0 dX7_init_70 rfl ?_
  refine r_getr fd_X7_14 rfl dX7_init_71 h (fun x28 h => ?_)
  refine r_aload_n 0 dX7_init_74 rfl ?_
  refine r_getr fd_X7_35 rfl dX7_init_75 h (fun x29 h => ?_)
  obtain ⟨h0, h⟩ := zite_o h
  refine r_callI (K' := Y_X4_init) (R' := R_X4_init) (idx := 40) (n := 2) (b := x26) (as := [(4, x28), (4, x29)]) (rest := [(4, x26), (4, a0)]) (C' := 3) (D' := 10) rfl k0_X4_init kI_X4_init kl_X7_40 ⟨by decide, by decide⟩ dX7_init_78 rfl rfl (Nat.le_of_ble_eq_true rfl) (by decide) (by decide) h h0 (fun r hr => m_X4_init hl0 ⟨r, hr, hr⟩) (fun _ τ31 _ h => ?_)
  refine r_putr fd_X7_43 fp_X7_init_43 dX7_init_81 h (fun τ32 h => ?_)
  refine r_aload_n 0 dX7_init_84 rfl ?_
  refine r_new (C' := 2) (D' := 8) nw_X7_47 dX7_init_85 (by decide) (by decide) h (fun x33 τ34 h => ?_)
  refine r_dup dX7_init_88 rfl ?_
  obtain ⟨h0, h⟩ := zite_o h
  refine r_callI (K' := Y_X2_init) (R' := R_X2_init) (idx := 49) (n := 0) (b := x33) (as := []) (rest := [(4, x33), (4, a0)]) (C' := 1) (D' := 2) rfl k0_X2_init kI_X2_init kl_X7_49 ⟨by decide, by decide⟩ dX7_init_89 rfl rfl (Nat.le_of_ble_eq_true rfl) (by decide) (by decide) h h0 (fun r hr => m_X2_init hl0 ⟨r, hr, hr⟩) (fun _ τ36 _ h => ?_)
  refine r_putr fd_X7_50 fp_X7_init_50 dX7_init_92 h (fun τ37 h => ?_)
  refine r_aload_n 0 dX7_init_95 rfl ?_
  refine r_iconst (v := 2) dX7_init_96 rfl rfl ?_
  refine r_anew7 (C' := 0) (D' := 0) (N := 2) wd_166 wd_296 dX7_init_97 (by decide) (by decide) (by decide) h (fun x38 τ39 h => ?_)
  refine r_putr fd_X7_54 fp_X7_init_54 dX7_init_100 h (fun τ40 h => ?_)
  exact r_vret rfl dX7_init_103 h
theorem m_X7_init {g : zF} (hl0 : g.2.2.2.1.stackTraces = false) {Q : zR × zS → Prop} {a0 : Int} {σ : zS} (h : zo (f_X7_init a0 σ) Q) : zm g Y_X7_init R_X7_init [(4, a0)] σ Q := zm_of (by decide) rfl (Nat.le_of_ble_eq_true rfl) (t_X7_init hl0 h)


/- X7_append -/

set_option maxRecDepth 100000 in
set_option maxHeartbeats 4000000 in
theorem t_X7_append {g : zF} (hl0 : g.2.2.2.1.stackTraces = false) {Q : zR × zS → Prop}   {a0 a1 a2 a3 a4 a5 : Int} {σ : zS} (h : zo (f_X7_append  a0 a1 a2 a3 a4 a5 σ) Q) : zw g Y_X7_append R_X7_append 0 [(0, (4, a0)), (1, (0, a1)), (2, (0, a2)), (3, (0, a3)), (4, (0, a4)), (5, (0, a5))] [] σ 0 0 Q := by
  unfold f_X7_append at h
  refine r_aload_n 0 dX7_append_0 rfl ?_
  refine r_getr fd_X7_14 rfl dX7_append_1 h (fun x1 h => ?_)
  refine r_getf fd_X7_58 rfl dX7_append_4 h (fun x2 h => ?_)
  refine r_bipush (v := 20) dX7_append_7 rfl rfl ?_
  refine r_iadd dX7_append_9 ?_
  refine r_sipush (v := 600) dX7_append_10 rfl rfl ?_
  refine r_icmp_le 26 dX7_append_13 (by decide) h (fun h => ?_) (fun h => ?_)
  · refine r_aload_n 0 dX7_append_26 rfl ?_
    refine r_getr fd_X7_14 rfl dX7_append_27 h (fun x3 h => ?_)
    refine r_iload_n 1 dX7_append_30 rfl ?_
    refine r_callV (K' := Y_X0_addFour) (R' := R_X0_addFour) (idx := 69) (n := 1) (b := x3) (as := [(0, a1)]) (rest := []) (C' := 0) (D' := 0) (cn := 0) rfl k0_X0_addFour kV_X0_addFour kl_X7_69 ⟨by decide, by decide⟩ dX7_append_31 rfl rfl (Nat.le_of_ble_eq_true rfl) (by decide) (by decide) rfl h (fun r hr => m_X0_addFour hl0 ⟨r, hr, hr⟩) (fun _ τ5 _ h => ?_)
    refine r_aload_n 0 dX7_append_34 rfl ?_
    refine r_getr fd_X7_14 rfl dX7_append_35 h (fun x6 h => ?_)
    refine r_iload_n 2 dX7_append_38 rfl ?_
    refine r_callV (K' := Y_X0_addFour) (R' := R_X0_addFour) (idx := 69) (n := 1) (b := x6) (as := [(0, a2)]) (rest := []) (C' := 0) (D' := 0) (cn := 0) rfl k0_X0_addFour kV_X0_addFour kl_X7_69 ⟨by decide, by decide⟩ dX7_append_39 rfl rfl (Nat.le_of_ble_eq_true rfl) (by decide) (by decide) rfl h (fun r hr => m_X0_addFour hl0 ⟨r, hr, hr⟩) (fun _ τ8 _ h => ?_)
    refine r_aload_n 0 dX7_append_42 rfl ?_
    refine r_getr fd_X7_14 rfl dX7_append_43 h (fun x9 h => ?_)
    refine r_iload_n 3 dX7_append_46 rfl ?_
    refine r_callV (K' := Y_X0_addFour) (R' := R_X0_addFour) (idx := 69) (n := 1) (b := x9) (as := [(0, a3)]) (rest := []) (C' := 0) (D' := 0) (cn := 0) rfl k0_X0_addFour kV_X0_addFour kl_X7_69 ⟨by decide, by decide⟩ dX7_append_47 rfl rfl (Nat.le_of_ble_eq_true rfl) (by decide) (by decide) rfl h (fun r hr => m_X0_addFour hl0 ⟨r, hr, hr⟩) (fun _ τ11 _ h => ?_)
    refine r_aload_n 0 dX7_append_50 rfl ?_
    refine r_getr fd_X7_14 rfl dX7_append_51 h (fun x12 h => ?_)
    refine r_iload 4 dX7_append_54 rfl ?_
    refine r_callV (K' := Y_X0_addFour) (R' := R_X0_addFour) (idx := 69) (n := 1) (b := x12) (as := [(0, a4)]) (rest := []) (C' := 0) (D' := 0) (cn := 0) rfl k0_X0_addFour kV_X0_addFour kl_X7_69 ⟨by decide, by decide⟩ dX7_append_56 rfl rfl (Nat.le_of_ble_eq_true rfl) (by decide) (by decide) rfl h (fun r hr => m_X0_addFour hl0 ⟨r, hr, hr⟩) (fun _ τ14 _ h => ?_)
    refine r_aload_n 0 dX7_append_59 rfl ?_
    refine r_getr fd_X7_14 rfl dX7_append_60 h (fun x15 h => ?_)
    refine r_iload 5 dX7_append_63 rfl ?_
    refine r_callV (K' := Y_X0_addFour) (R' := R_X0_addFour) (idx := 69) (n := 1) (b := x15) (as := [(0, a5)]) (rest := []) (C' := 0) (D' := 0) (cn := 0) rfl k0_X0_addFour kV_X0_addFour kl_X7_69 ⟨by decide, by decide⟩ dX7_append_65 rfl rfl (Nat.le_of_ble_eq_true rfl) (by decide) (by decide) rfl h (fun r hr => m_X0_addFour hl0 ⟨r, hr, hr⟩) (fun _ τ17 _ h => ?_)
    refine r_aload_n 0 dX7_append_68 rfl ?_
    refine r_getr fd_X7_14 rfl dX7_append_69 h (fun x18 h => ?_)
    refine r_getf fd_X7_58 rfl dX7_append_72 h (fun x19 h => ?_)
    exact r_iret rfl dX7_append_75 h
  · obtain ⟨r, h, -⟩ := h
    cases h
theorem m_X7_append {g : zF} (hl0 : g.2.2.2.1.stackTraces = false) {Q : zR × zS → Prop} {a0 a1 a2 a3 a4 a5 : Int} {σ : zS} (h : zo (f_X7_append a0 a1 a2 a3 a4 a5 σ) Q) : zm g Y_X7_append R_X7_append [(4, a0), (0, a1), (0, a2), (0, a3), (0, a4), (0, a5)] σ Q := zm_of (by decide) rfl (Nat.le_of_ble_eq_true rfl) (t_X7_append hl0 h)


/- X7_checkRange -/

set_option maxRecDepth 100000 in
set_option maxHeartbeats 4000000 in
theorem t_X7_checkRange {g : zF} (hl0 : g.2.2.2.1.stackTraces = false) {Q : zR × zS → Prop}   {a0 a1 a2 : Int} {σ : zS} (h : zo (f_X7_checkRange  a0 a1 a2 σ) Q) : zw g Y_X7_checkRange R_X7_checkRange 0 [(0, (0, a0)), (1, (0, a1)), (2, (0, a2))] [] σ 0 0 Q := by
  unfold f_X7_checkRange at h
  refine r_iload_n 0 dX7_checkRange_0 rfl ?_
  refine r_iload_n 1 dX7_checkRange_1 rfl ?_
  refine r_icmp_lt 10 dX7_checkRange_2 (by decide) h (fun h => ?_) (fun h => ?_)
  · obtain ⟨r, h, -⟩ := h
    cases h
  · refine r_iload_n 0 dX7_checkRange_5 rfl ?_
    refine r_iload_n 2 dX7_checkRange_6 rfl ?_
    refine r_icmp_le 21 dX7_checkRange_7 (by decide) h (fun h => ?_) (fun h => ?_)
    · exact r_vret rfl dX7_checkRange_21 h
    · obtain ⟨r, h, -⟩ := h
      cases h
theorem m_X7_checkRange {g : zF} (hl0 : g.2.2.2.1.stackTraces = false) {Q : zR × zS → Prop} {a0 a1 a2 : Int} {σ : zS} (h : zo (f_X7_checkRange a0 a1 a2 σ) Q) : zm g Y_X7_checkRange R_X7_checkRange [(0, a0), (0, a1), (0, a2)] σ Q := zm_of (by decide) rfl (Nat.le_of_ble_eq_true rfl) (t_X7_checkRange hl0 h)


/- X7_truncate -/

set_option maxRecDepth 100000 in
set_option maxHeartbeats 4000000 in
theorem t_X7_truncate {g : zF} (hl0 : g.2.2.2.1.stackTraces = false) {Q : zR × zS → Prop}   {a0 a1 : Int} {σ : zS} (h : zo (f_X7_truncate  a0 a1 σ) Q) : zw g Y_X7_truncate R_X7_truncate 0 [(0, (4, a0)), (1, (0, a1))] [] σ 0 0 Q := by
  unfold f_X7_truncate at h
  refine r_iload_n 1 dX7_truncate_0 rfl ?_
  refine r_iconst (v := 0) dX7_truncate_1 rfl rfl ?_
  refine r_aload_n 0 dX7_truncate_2 rfl ?_
  refine r_getr fd_X7_14 rfl dX7_truncate_3 h (fun x1 h => ?_)
  refine r_getf fd_X7_58 rfl dX7_truncate_6 h (fun x2 h => ?_)
  refine r_callS (K' := Y_X7_checkRange) (R' := R_X7_checkRange) (idx := 72) (n := 3) (as := [(0, a1), (0, 0), (0, x2)]) (rest := []) (C' := 0) (D' := 0) rfl k0_X7_checkRange wd_722 kl_X7_72 ⟨by decide, by decide⟩ dX7_truncate_9 rfl rfl (Nat.le_of_ble_eq_true rfl) (by decide) (by decide) h (fun r hr => m_X7_checkRange hl0 ⟨r, hr, hr⟩) (fun _ τ4 _ h => ?_)
  refine r_aload_n 0 dX7_truncate_12 rfl ?_
  refine r_getr fd_X7_14 rfl dX7_truncate_13 h (fun x5 h => ?_)
  refine r_iload_n 1 dX7_truncate_16 rfl ?_
  refine r_putf fd_X7_58 fp_X7_truncate_58 dX7_truncate_17 h (fun τ6 h => ?_)
  exact r_vret rfl dX7_truncate_20 h
theorem m_X7_truncate {g : zF} (hl0 : g.2.2.2.1.stackTraces = false) {Q : zR × zS → Prop} {a0 a1 : Int} {σ : zS} (h : zo (f_X7_truncate a0 a1 σ) Q) : zm g Y_X7_truncate R_X7_truncate [(4, a0), (0, a1)] σ Q := zm_of (by decide) rfl (Nat.le_of_ble_eq_true rfl) (t_X7_truncate hl0 h)


/- X7_load -/

set_option maxRecDepth 100000 in
set_option maxHeartbeats 4000000 in
theorem t_X7_load {g : zF} (hl0 : g.2.2.2.1.stackTraces = false) {Q : zR × zS → Prop}   {a0 : Int} {σ : zS} (h : zo (f_X7_load  a0 σ) Q) : zw g Y_X7_load R_X7_load 0 [(0, (4, a0))] [] σ 27 7320 Q := by
  unfold f_X7_load at h
  refine r_aload_n 0 dX7_load_0 rfl ?_
  refine r_getr fd_X7_43 rfl dX7_load_1 h (fun x1 h => ?_)
  refine r_callV (K' := Y_X4_parse) (R' := R_X4_parse) (idx := 76) (n := 0) (b := x1) (as := []) (rest := []) (C' := 27) (D' := 7320) (cn := 4) rfl k0_X4_parse kV_X4_parse kl_X7_76 ⟨by decide, by decide⟩ dX7_load_4 rfl rfl (Nat.le_of_ble_eq_true rfl) (by decide) (by decide) rfl h (fun r hr => m_X4_parse hl0 ⟨r, hr, hr⟩) (fun x2 τ3 _ h => ?_)
  refine r_istore_n (L' := [(1, (0, x2)), (0, (4, a0))]) dX7_load_7 (by decide) rfl ?_
  refine r_aload_n 1 dX7_load_8 rfl ?_
  refine r_getr fd_X7_14 rfl dX7_load_9 h (fun x4 h => ?_)
  refine r_iconst (v := 0) dX7_load_12 rfl rfl ?_
  refine r_putf fd_X7_58 fp_X7_load_58 dX7_load_13 h (fun τ5 h => ?_)
  refine r_iload_n 0 dX7_load_16 rfl ?_
  refine r_if_ne 23 dX7_load_17 (by decide) h (fun h => ?_) (fun h => ?_)
  · refine r_aload_n 1 dX7_load_23 rfl ?_
    refine r_getr fd_X7_50 rfl dX7_load_24 h (fun x6 h => ?_)
    refine r_aload_n 1 dX7_load_27 rfl ?_
    refine r_getr fd_X7_31 rfl dX7_load_28 h (fun x7 h => ?_)
    refine r_callV (K' := Y_X2_push) (R' := R_X2_push) (idx := 80) (n := 1) (b := x6) (as := [(4, x7)]) (rest := []) (C' := 0) (D' := 0) (cn := 2) rfl k0_X2_push kV_X2_push kl_X7_80 ⟨by decide, by decide⟩ dX7_load_31 rfl rfl (Nat.le_of_ble_eq_true rfl) (by decide) (by decide) rfl h (fun r hr => m_X2_push hl0 ⟨r, hr, hr⟩) (fun _ τ9 _ h => ?_)
    refine r_aload_n 1 dX7_load_34 rfl ?_
    refine r_getr fd_X7_31 rfl dX7_load_35 h (fun x10 h => ?_)
    refine r_aload_n 1 dX7_load_38 rfl ?_
    refine r_getr fd_X7_35 rfl dX7_load_39 h (fun x11 h => ?_)
    refine r_callV (K' := Y_X1_become) (R' := R_X1_become) (idx := 84) (n := 1) (b := x10) (as := [(4, x11)]) (rest := []) (C' := 0) (D' := 0) (cn := 1) rfl k0_X1_become kV_X1_become kl_X7_84 ⟨by decide, by decide⟩ dX7_load_42 rfl rfl (Nat.le_of_ble_eq_true rfl) (by decide) (by decide) rfl h (fun r hr => m_X1_become hl0 ⟨r, hr, hr⟩) (fun _ τ13 _ h => ?_)
    refine r_aload_n 1 dX7_load_45 rfl ?_
    refine r_getr fd_X7_31 rfl dX7_load_46 h (fun x14 h => ?_)
    refine r_getr fd_X7_87 rfl dX7_load_49 h (fun x15 h => ?_)
    refine r_getf fd_X7_91 rfl dX7_load_52 h (fun x16 h => ?_)
    exact r_iret rfl dX7_load_55 h
  · refine r_room (C' := 0) (D' := 0) (by omega) (by omega) ?_
    refine r_bipush (v := (-4)) dX7_load_20 rfl rfl ?_
    exact r_iret rfl dX7_load_22 h
theorem m_X7_load {g : zF} (hl0 : g.2.2.2.1.stackTraces = false) {Q : zR × zS → Prop} {a0 : Int} {σ : zS} (h : zo (f_X7_load a0 σ) Q) : zm g Y_X7_load R_X7_load [(4, a0)] σ Q := zm_of (by decide) rfl (Nat.le_of_ble_eq_true rfl) (t_X7_load hl0 h)


/- X7_errorCode -/

set_option maxRecDepth 100000 in
set_option maxHeartbeats 4000000 in
theorem t_X7_errorCode {g : zF} (hl0 : g.2.2.2.1.stackTraces = false) {Q : zR × zS → Prop}   {a0 : Int} {σ : zS} (h : zo (f_X7_errorCode  a0 σ) Q) : zw g Y_X7_errorCode R_X7_errorCode 0 [(0, (4, a0))] [] σ 0 0 Q := by
  unfold f_X7_errorCode at h
  refine r_aload_n 0 dX7_errorCode_0 rfl ?_
  refine r_getr fd_X7_43 rfl dX7_errorCode_1 h (fun x1 h => ?_)
  refine r_getf fd_X7_96 rfl dX7_errorCode_4 h (fun x2 h => ?_)
  exact r_iret rfl dX7_errorCode_7 h
theorem m_X7_errorCode {g : zF} (hl0 : g.2.2.2.1.stackTraces = false) {Q : zR × zS → Prop} {a0 : Int} {σ : zS} (h : zo (f_X7_errorCode a0 σ) Q) : zm g Y_X7_errorCode R_X7_errorCode [(4, a0)] σ Q := zm_of (by decide) rfl (Nat.le_of_ble_eq_true rfl) (t_X7_errorCode hl0 h)


/- X7_errorPosition -/

set_option maxRecDepth 100000 in
set_option maxHeartbeats 4000000 in
theorem t_X7_errorPosition {g : zF} (hl0 : g.2.2.2.1.stackTraces = false) {Q : zR × zS → Prop}   {a0 : Int} {σ : zS} (h : zo (f_X7_errorPosition  a0 σ) Q) : zw g Y_X7_errorPosition R_X7_errorPosition 0 [(0, (4, a0))] [] σ 0 0 Q := by
  unfold f_X7_errorPosition at h
  refine r_aload_n 0 dX7_errorPosition_0 rfl ?_
  refine r_getr fd_X7_43 rfl dX7_errorPosition_1 h (fun x1 h => ?_)
  refine r_getf fd_X7_99 rfl dX7_errorPosition_4 h (fun x2 h => ?_)
  exact r_iret rfl dX7_errorPosition_7 h
theorem m_X7_errorPosition {g : zF} (hl0 : g.2.2.2.1.stackTraces = false) {Q : zR × zS → Prop} {a0 : Int} {σ : zS} (h : zo (f_X7_errorPosition a0 σ) Q) : zm g Y_X7_errorPosition R_X7_errorPosition [(4, a0)] σ Q := zm_of (by decide) rfl (Nat.le_of_ble_eq_true rfl) (t_X7_errorPosition hl0 h)


/- X7_property -/

set_option maxRecDepth 100000 in
set_option maxHeartbeats 4000000 in
theorem t_X7_property {g : zF} (hl0 : g.2.2.2.1.stackTraces = false) {Q : zR × zS → Prop}   {a0 a1 : Int} {σ : zS} (h : zo (f_X7_property  a0 a1 σ) Q) : zw g Y_X7_property R_X7_property 0 [(0, (4, a0)), (1, (0, a1))] [] σ 0 0 Q := by
  unfold f_X7_property at h
  refine r_iload_n 1 dX7_property_0 rfl ?_
  refine r_iconst (v := 0) dX7_property_1 rfl rfl ?_
  refine r_bipush (v := 9) dX7_property_2 rfl rfl ?_
  refine r_callS (K' := Y_X7_checkRange) (R' := R_X7_checkRange) (idx := 72) (n := 3) (as := [(0, a1), (0, 0), (0, 9)]) (rest := []) (C' := 0) (D' := 0) rfl k0_X7_checkRange wd_722 kl_X7_72 ⟨by decide, by decide⟩ dX7_property_4 rfl rfl (Nat.le_of_ble_eq_true rfl) (by decide) (by decide) h (fun r hr => m_X7_checkRange hl0 ⟨r, hr, hr⟩) (fun _ τ2 _ h => ?_)
  refine r_iload_n 1 dX7_property_7 rfl ?_
  refine r_switch [64, 75, 86, 113, 113, 113, 113, 113, 94, 105] 113 dX7_property_8 (by decide) (by decide) (by decide) (by decide) h (fun h => ?_) ⟨fun h => ?_, fun h => ?_, fun h => ?_, fun h => ?_, fun h => ?_, fun h => ?_, fun h => ?_, fun h => ?_, fun h => ?_, fun h => ?_, trivial⟩
  · refine r_aload_n 0 dX7_property_113 rfl ?_
    refine r_getr fd_X7_31 rfl dX7_property_114 h (fun x3 h => ?_)
    refine r_iload_n 1 dX7_property_117 rfl ?_
    refine r_iconst (v := 3) dX7_property_118 rfl rfl ?_
    refine r_isub dX7_property_119 ?_
    refine r_callV (K' := Y_X1_rule) (R' := R_X1_rule) (idx := 123) (n := 1) (b := x3) (as := [(0, (w32 (a1 - 3)))]) (rest := []) (C' := 0) (D' := 0) (cn := 1) rfl k0_X1_rule kV_X1_rule kl_X7_123 ⟨by decide, by decide⟩ dX7_property_120 rfl rfl (Nat.le_of_ble_eq_true rfl) (by decide) (by decide) rfl h (fun r hr => m_X1_rule hl0 ⟨r, hr, hr⟩) (fun x4 τ5 _ h => ?_)
    exact r_iret rfl dX7_property_123 h
  · refine r_aload_n 0 dX7_property_64 rfl ?_
    refine r_getr fd_X7_31 rfl dX7_property_65 h (fun x6 h => ?_)
    refine r_getr fd_X7_87 rfl dX7_property_68 h (fun x7 h => ?_)
    refine r_getf fd_X7_91 rfl dX7_property_71 h (fun x8 h => ?_)
    exact r_iret rfl dX7_property_74 h
  · refine r_aload_n 0 dX7_property_75 rfl ?_
    refine r_getr fd_X7_31 rfl dX7_property_76 h (fun x9 h => ?_)
    refine r_getr fd_X7_106 rfl dX7_property_79 h (fun x10 h => ?_)
    refine r_getf fd_X7_91 rfl dX7_property_82 h (fun x11 h => ?_)
    exact r_iret rfl dX7_property_85 h
  · refine r_aload_n 0 dX7_property_86 rfl ?_
    refine r_getr fd_X7_31 rfl dX7_property_87 h (fun x12 h => ?_)
    refine r_getf fd_X7_109 rfl dX7_property_90 h (fun x13 h => ?_)
    exact r_iret rfl dX7_property_93 h
  · refine r_aload_n 0 dX7_property_113 rfl ?_
    refine r_getr fd_X7_31 rfl dX7_property_114 h (fun x14 h => ?_)
    refine r_iload_n 1 dX7_property_117 rfl ?_
    refine r_iconst (v := 3) dX7_property_118 rfl rfl ?_
    refine r_isub dX7_property_119 ?_
    refine r_callV (K' := Y_X1_rule) (R' := R_X1_rule) (idx := 123) (n := 1) (b := x14) (as := [(0, (w32 (a1 - 3)))]) (rest := []) (C' := 0) (D' := 0) (cn := 1) rfl k0_X1_rule kV_X1_rule kl_X7_123 ⟨by decide, by decide⟩ dX7_property_120 rfl rfl (Nat.le_of_ble_eq_true rfl) (by decide) (by decide) rfl h (fun r hr => m_X1_rule hl0 ⟨r, hr, hr⟩) (fun x15 τ16 _ h => ?_)
    exact r_iret rfl dX7_property_123 h
  · refine r_aload_n 0 dX7_property_113 rfl ?_
    refine r_getr fd_X7_31 rfl dX7_property_114 h (fun x17 h => ?_)
    refine r_iload_n 1 dX7_property_117 rfl ?_
    refine r_iconst (v := 3) dX7_property_118 rfl rfl ?_
    refine r_isub dX7_property_119 ?_
    refine r_callV (K' := Y_X1_rule) (R' := R_X1_rule) (idx := 123) (n := 1) (b := x17) (as := [(0, (w32 (a1 - 3)))]) (rest := []) (C' := 0) (D' := 0) (cn := 1) rfl k0_X1_rule kV_X1_rule kl_X7_123 ⟨by decide, by decide⟩ dX7_property_120 rfl rfl (Nat.le_of_ble_eq_true rfl) (by decide) (by decide) rfl h (fun r hr => m_X1_rule hl0 ⟨r, hr, hr⟩) (fun x18 τ19 _ h => ?_)
    exact r_iret rfl dX7_property_123 h
  · refine r_aload_n 0 dX7_property_113 rfl ?_
    refine r_getr fd_X7_31 rfl dX7_property_114 h (fun x20 h => ?_)
    refine r_iload_n 1 dX7_property_117 rfl ?_
    refine r_iconst (v := 3) dX7_property_118 rfl rfl ?_
    refine r_isub dX7_property_119 ?_
    refine r_callV (K' := Y_X1_rule) (R' := R_X1_rule) (idx := 123) (n := 1) (b := x20) (as := [(0, (w32 (a1 - 3)))]) (rest := []) (C' := 0) (D' := 0) (cn := 1) rfl k0_X1_rule kV_X1_rule kl_X7_123 ⟨by decide, by decide⟩ dX7_property_120 rfl rfl (Nat.le_of_ble_eq_true rfl) (by decide) (by decide) rfl h (fun r hr => m_X1_rule hl0 ⟨r, hr, hr⟩) (fun x21 τ22 _ h => ?_)
    exact r_iret rfl dX7_property_123 h
  · refine r_aload_n 0 dX7_property_113 rfl ?_
    refine r_getr fd_X7_31 rfl dX7_property_114 h (fun x23 h => ?_)
    refine r_iload_n 1 dX7_property_117 rfl ?_
    refine r_iconst (v := 3) dX7_property_118 rfl rfl ?_
    refine r_isub dX7_property_119 ?_
    refine r_callV (K' := Y_X1_rule) (R' := R_X1_rule) (idx := 123) (n := 1) (b := x23) (as := [(0, (w32 (a1 - 3)))]) (rest := []) (C' := 0) (D' := 0) (cn := 1) rfl k0_X1_rule kV_X1_rule kl_X7_123 ⟨by decide, by decide⟩ dX7_property_120 rfl rfl (Nat.le_of_ble_eq_true rfl) (by decide) (by decide) rfl h (fun r hr => m_X1_rule hl0 ⟨r, hr, hr⟩) (fun x24 τ25 _ h => ?_)
    exact r_iret rfl dX7_property_123 h
  · refine r_aload_n 0 dX7_property_113 rfl ?_
    refine r_getr fd_X7_31 rfl dX7_property_114 h (fun x26 h => ?_)
    refine r_iload_n 1 dX7_property_117 rfl ?_
    refine r_iconst (v := 3) dX7_property_118 rfl rfl ?_
    refine r_isub dX7_property_119 ?_
    refine r_callV (K' := Y_X1_rule) (R' := R_X1_rule) (idx := 123) (n := 1) (b := x26) (as := [(0, (w32 (a1 - 3)))]) (rest := []) (C' := 0) (D' := 0) (cn := 1) rfl k0_X1_rule kV_X1_rule kl_X7_123 ⟨by decide, by decide⟩ dX7_property_120 rfl rfl (Nat.le_of_ble_eq_true rfl) (by decide) (by decide) rfl h (fun r hr => m_X1_rule hl0 ⟨r, hr, hr⟩) (fun x27 τ28 _ h => ?_)
    exact r_iret rfl dX7_property_123 h
  · refine r_aload_n 0 dX7_property_94 rfl ?_
    refine r_getr fd_X7_31 rfl dX7_property_95 h (fun x29 h => ?_)
    refine r_getr fd_X7_112 rfl dX7_property_98 h (fun x30 h => ?_)
    refine r_getf fd_X7_116 rfl dX7_property_101 h (fun x31 h => ?_)
    exact r_iret rfl dX7_property_104 h
  · refine r_aload_n 0 dX7_property_105 rfl ?_
    refine r_getr fd_X7_31 rfl dX7_property_106 h (fun x32 h => ?_)
    refine r_callV (K' := Y_X1_linkCount) (R' := R_X1_linkCount) (idx := 119) (n := 0) (b := x32) (as := []) (rest := []) (C' := 0) (D' := 0) (cn := 1) rfl k0_X1_linkCount kV_X1_linkCount kl_X7_119 ⟨by decide, by decide⟩ dX7_property_109 rfl rfl (Nat.le_of_ble_eq_true rfl) (by decide) (by decide) rfl h (fun r hr => m_X1_linkCount hl0 ⟨r, hr, hr⟩) (fun x33 τ34 _ h => ?_)
    exact r_iret rfl dX7_property_112 h
theorem m_X7_property {g : zF} (hl0 : g.2.2.2.1.stackTraces = false) {Q : zR × zS → Prop} {a0 a1 : Int} {σ : zS} (h : zo (f_X7_property a0 a1 σ) Q) : zm g Y_X7_property R_X7_property [(4, a0), (0, a1)] σ Q := zm_of (by decide) rfl (Nat.le_of_ble_eq_true rfl) (t_X7_property hl0 h)

