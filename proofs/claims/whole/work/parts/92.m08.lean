/- X7_checkSlot -/

set_option maxRecDepth 100000 in
set_option maxHeartbeats 4000000 in
theorem t_X7_checkSlot {g : zF} (hl0 : g.2.2.2.1.stackTraces = false) {Q : zR × zS → Prop}   {a0 a1 : Int} {σ : zS} (h : zo (f_X7_checkSlot  a0 a1 σ) Q) : zw g Y_X7_checkSlot R_X7_checkSlot 0 [(0, (4, a0)), (1, (0, a1))] [] σ 1 6 Q := by
  unfold f_X7_checkSlot at h
  refine r_iload_n 1 dX7_checkSlot_0 rfl ?_
  refine r_if_lt 13 dX7_checkSlot_1 (by decide) h (fun h => ?_) (fun h => ?_)
  · exact r_throwW hl0 rfl (th_X7_309_323_313 _ rfl) dX7_checkSlot_13 dX7_checkSlot_16 dX7_checkSlot_17 dX7_checkSlot_20 dX7_checkSlot_23 (by decide) (Nat.le_of_ble_eq_true rfl) (by decide) (by decide) h
  · refine r_iload_n 1 dX7_checkSlot_4 rfl ?_
    refine r_aload_n 0 dX7_checkSlot_5 rfl ?_
    refine r_getr fd_X7_54 rfl dX7_checkSlot_6 h (fun x1 h => ?_)
    refine r_alen dX7_checkSlot_9 h (fun x2 h => ?_)
    refine r_icmp_lt 24 dX7_checkSlot_10 (by decide) h (fun h => ?_) (fun h => ?_)
    · refine r_room (C' := 0) (D' := 0) (by omega) (by omega) ?_
      exact r_vret rfl dX7_checkSlot_24 h
    · exact r_throwW hl0 rfl (th_X7_309_323_313 _ rfl) dX7_checkSlot_13 dX7_checkSlot_16 dX7_checkSlot_17 dX7_checkSlot_20 dX7_checkSlot_23 (by decide) (Nat.le_of_ble_eq_true rfl) (by decide) (by decide) h
theorem m_X7_checkSlot {g : zF} (hl0 : g.2.2.2.1.stackTraces = false) {Q : zR × zS → Prop} {a0 a1 : Int} {σ : zS} (h : zo (f_X7_checkSlot a0 a1 σ) Q) : zm g Y_X7_checkSlot R_X7_checkSlot [(4, a0), (0, a1)] σ Q := zm_of (by decide) rfl (Nat.le_of_ble_eq_true rfl) (t_X7_checkSlot hl0 h)


/- X7_keep -/

set_option maxRecDepth 100000 in
set_option maxHeartbeats 4000000 in
theorem t_X7_keep_31 {g : zF} (hl0 : g.2.2.2.1.stackTraces = false) {Q : zR × zS → Prop}   {a0 a2 : Int} {σ : zS} (h : zo (f_X7_keep_31  a0 a2 σ) Q) : zw g Y_X7_keep R_X7_keep 31 [(0, (4, a0)), (2, (4, a2))] [] σ 0 0 Q := by
  unfold f_X7_keep_31 at h
  refine r_aload_n 1 dX7_keep_31 rfl ?_
  refine r_aload_n 0 dX7_keep_32 rfl ?_
  refine r_getr fd_X7_31 rfl dX7_keep_33 h (fun x1 h => ?_)
  refine r_callV (K' := Y_X1_become) (R' := R_X1_become) (idx := 84) (n := 1) (b := a2) (as := [(4, x1)]) (rest := []) (C' := 0) (D' := 0) (cn := 1) rfl k0_X1_become kV_X1_become kl_X7_84 ⟨by decide, by decide⟩ dX7_keep_36 rfl rfl (Nat.le_of_ble_eq_true rfl) (by decide) (by decide) rfl h (fun r hr => m_X1_become hl0 ⟨r, hr, hr⟩) (fun _ τ3 _ h => ?_)
  refine r_aload_n 0 dX7_keep_39 rfl ?_
  refine r_getr fd_X7_31 rfl dX7_keep_40 h (fun x4 h => ?_)
  refine r_getf fd_X7_109 rfl dX7_keep_43 h (fun x5 h => ?_)
  exact r_iret rfl dX7_keep_46 h

set_option maxRecDepth 100000 in
set_option maxHeartbeats 4000000 in
theorem t_X7_keep {g : zF} (hl0 : g.2.2.2.1.stackTraces = false) {Q : zR × zS → Prop}   {a0 a1 : Int} {σ : zS} (h : zo (f_X7_keep  a0 a1 σ) Q) : zw g Y_X7_keep R_X7_keep 0 [(0, (4, a0)), (1, (0, a1))] [] σ 28 7326 Q := by
  unfold f_X7_keep at h
  refine r_aload_n 0 dX7_keep_0 rfl ?_
  refine r_iload_n 1 dX7_keep_1 rfl ?_
  refine r_callV (K' := Y_X7_checkSlot) (R' := R_X7_checkSlot) (idx := 275) (n := 1) (b := a0) (as := [(0, a1)]) (rest := []) (C' := 27) (D' := 7320) (cn := 7) rfl k0_X7_checkSlot kV_X7_checkSlot kl_X7_275 ⟨by decide, by decide⟩ dX7_keep_2 rfl rfl (Nat.le_of_ble_eq_true rfl) (by decide) (by decide) rfl h (fun r hr => m_X7_checkSlot hl0 ⟨r, hr, hr⟩) (fun _ τ2 _ h => ?_)
  refine r_aload_n 0 dX7_keep_5 rfl ?_
  refine r_getr fd_X7_54 rfl dX7_keep_6 h (fun x3 h => ?_)
  refine r_iload_n 1 dX7_keep_9 rfl ?_
  refine r_aald7 dX7_keep_10 h (fun x4 h => ?_)
  refine r_astore_n (L' := [(2, (4, x4)), (0, (4, a0)), (1, (0, a1))]) dX7_keep_11 (by decide) rfl ?_
  refine r_aload_n 0 dX7_keep_12 rfl ?_
  refine r_ifnonnull 31 dX7_keep_13 (by decide) h (fun h => ?_) (fun h => ?_)
  · refine r_room (C' := 0) (D' := 0) (by omega) (by omega) ?_
    refine r_weak (L' := [(0, (4, a0)), (2, (4, x4))]) [1, 0] rfl ?_
    exact t_X7_keep_31 hl0   h
  · refine r_new (C' := 26) (D' := 7311) nw_X7_28 dX7_keep_16 (by decide) (by decide) h (fun x5 τ6 h => ?_)
    refine r_dup dX7_keep_19 rfl ?_
    obtain ⟨h0, h⟩ := zite_o h
    refine r_callI (K' := Y_X1_init) (R' := R_X1_init) (idx := 30) (n := 0) (b := x5) (as := []) (rest := [(4, x5)]) (C' := 0) (D' := 0) rfl k0_X1_init kI_X1_init kl_X7_30 ⟨by decide, by decide⟩ dX7_keep_20 rfl rfl (Nat.le_of_ble_eq_true rfl) (by decide) (by decide) h h0 (fun r hr => m_X1_init hl0 ⟨r, hr, hr⟩) (fun _ τ8 _ h => ?_)
    refine r_astore_n (L' := [(2, (4, x5)), (0, (4, a0)), (1, (0, a1))]) dX7_keep_23 (by decide) rfl ?_
    refine r_aload_n 1 dX7_keep_24 rfl ?_
    refine r_getr fd_X7_54 rfl dX7_keep_25 h (fun x9 h => ?_)
    refine r_iload_n 2 dX7_keep_28 rfl ?_
    refine r_aload_n 0 dX7_keep_29 rfl ?_
    refine r_aast7 dX7_keep_30 h (fun τ10 h => ?_)
    refine r_weak (L' := [(0, (4, a0)), (2, (4, x5))]) [1, 0] rfl ?_
    exact t_X7_keep_31 hl0   h
theorem m_X7_keep {g : zF} (hl0 : g.2.2.2.1.stackTraces = false) {Q : zR × zS → Prop} {a0 a1 : Int} {σ : zS} (h : zo (f_X7_keep a0 a1 σ) Q) : zm g Y_X7_keep R_X7_keep [(4, a0), (0, a1)] σ Q := zm_of (by decide) rfl (Nat.le_of_ble_eq_true rfl) (t_X7_keep hl0 h)


/- X7_restore -/

set_option maxRecDepth 100000 in
set_option maxHeartbeats 4000000 in
theorem t_X7_restore {g : zF} (hl0 : g.2.2.2.1.stackTraces = false) {Q : zR × zS → Prop}   {a0 a1 : Int} {σ : zS} (h : zo (f_X7_restore  a0 a1 σ) Q) : zw g Y_X7_restore R_X7_restore 0 [(0, (4, a0)), (1, (0, a1))] [] σ 28 7326 Q := by
  unfold f_X7_restore at h
  refine r_aload_n 0 dX7_restore_0 rfl ?_
  refine r_iload_n 1 dX7_restore_1 rfl ?_
  refine r_callV (K' := Y_X7_checkSlot) (R' := R_X7_checkSlot) (idx := 275) (n := 1) (b := a0) (as := [(0, a1)]) (rest := []) (C' := 27) (D' := 7320) (cn := 7) rfl k0_X7_checkSlot kV_X7_checkSlot kl_X7_275 ⟨by decide, by decide⟩ dX7_restore_2 rfl rfl (Nat.le_of_ble_eq_true rfl) (by decide) (by decide) rfl h (fun r hr => m_X7_checkSlot hl0 ⟨r, hr, hr⟩) (fun _ τ2 _ h => ?_)
  refine r_aload_n 0 dX7_restore_5 rfl ?_
  refine r_getr fd_X7_54 rfl dX7_restore_6 h (fun x3 h => ?_)
  refine r_iload_n 1 dX7_restore_9 rfl ?_
  refine r_aald7 dX7_restore_10 h (fun x4 h => ?_)
  refine r_astore_n (L' := [(2, (4, x4)), (0, (4, a0)), (1, (0, a1))]) dX7_restore_11 (by decide) rfl ?_
  refine r_aload_n 0 dX7_restore_12 rfl ?_
  refine r_ifnonnull 27 dX7_restore_13 (by decide) h (fun h => ?_) (fun h => ?_)
  · refine r_aload_n 1 dX7_restore_27 rfl ?_
    refine r_getr fd_X7_50 rfl dX7_restore_28 h (fun x5 h => ?_)
    refine r_aload_n 1 dX7_restore_31 rfl ?_
    refine r_getr fd_X7_31 rfl dX7_restore_32 h (fun x6 h => ?_)
    refine r_callV (K' := Y_X2_push) (R' := R_X2_push) (idx := 80) (n := 1) (b := x5) (as := [(4, x6)]) (rest := []) (C' := 0) (D' := 0) (cn := 2) rfl k0_X2_push kV_X2_push kl_X7_80 ⟨by decide, by decide⟩ dX7_restore_35 rfl rfl (Nat.le_of_ble_eq_true rfl) (by decide) (by decide) rfl h (fun r hr => m_X2_push hl0 ⟨r, hr, hr⟩) (fun _ τ8 _ h => ?_)
    refine r_aload_n 1 dX7_restore_38 rfl ?_
    refine r_getr fd_X7_31 rfl dX7_restore_39 h (fun x9 h => ?_)
    refine r_aload_n 0 dX7_restore_42 rfl ?_
    refine r_callV (K' := Y_X1_become) (R' := R_X1_become) (idx := 84) (n := 1) (b := x9) (as := [(4, x4)]) (rest := []) (C' := 0) (D' := 0) (cn := 1) rfl k0_X1_become kV_X1_become kl_X7_84 ⟨by decide, by decide⟩ dX7_restore_43 rfl rfl (Nat.le_of_ble_eq_true rfl) (by decide) (by decide) rfl h (fun r hr => m_X1_become hl0 ⟨r, hr, hr⟩) (fun _ τ11 _ h => ?_)
    refine r_aload_n 1 dX7_restore_46 rfl ?_
    refine r_getr fd_X7_31 rfl dX7_restore_47 h (fun x12 h => ?_)
    refine r_getf fd_X7_109 rfl dX7_restore_50 h (fun x13 h => ?_)
    exact r_iret rfl dX7_restore_53 h
  · refine r_room (C' := 1) (D' := 6) (by omega) (by omega) ?_
    exact r_throwW hl0 rfl (th_X7_62_278_66 _ rfl) dX7_restore_16 dX7_restore_19 dX7_restore_20 dX7_restore_23 dX7_restore_26 (by decide) (Nat.le_of_ble_eq_true rfl) (by decide) (by decide) h
theorem m_X7_restore {g : zF} (hl0 : g.2.2.2.1.stackTraces = false) {Q : zR × zS → Prop} {a0 a1 : Int} {σ : zS} (h : zo (f_X7_restore a0 a1 σ) Q) : zm g Y_X7_restore R_X7_restore [(4, a0), (0, a1)] σ Q := zm_of (by decide) rfl (Nat.le_of_ble_eq_true rfl) (t_X7_restore hl0 h)


/- X7_undo -/

set_option maxRecDepth 100000 in
set_option maxHeartbeats 4000000 in
theorem t_X7_undo {g : zF} (hl0 : g.2.2.2.1.stackTraces = false) {Q : zR × zS → Prop}   {a0 : Int} {σ : zS} (h : zo (f_X7_undo  a0 σ) Q) : zw g Y_X7_undo R_X7_undo 0 [(0, (4, a0))] [] σ 1 6 Q := by
  unfold f_X7_undo at h
  refine r_aload_n 0 dX7_undo_0 rfl ?_
  refine r_getr fd_X7_50 rfl dX7_undo_1 h (fun x1 h => ?_)
  refine r_getf fd_X7_280 rfl dX7_undo_4 h (fun x2 h => ?_)
  refine r_if_ne 21 dX7_undo_7 (by decide) h (fun h => ?_) (fun h => ?_)
  · refine r_room (C' := 0) (D' := 0) (by omega) (by omega) ?_
    refine r_aload_n 0 dX7_undo_21 rfl ?_
    refine r_getr fd_X7_50 rfl dX7_undo_22 h (fun x3 h => ?_)
    refine r_aload_n 0 dX7_undo_25 rfl ?_
    refine r_getr fd_X7_31 rfl dX7_undo_26 h (fun x4 h => ?_)
    refine r_callV (K' := Y_X2_pop) (R' := R_X2_pop) (idx := 283) (n := 1) (b := x3) (as := [(4, x4)]) (rest := []) (C' := 0) (D' := 0) (cn := 2) rfl k0_X2_pop kV_X2_pop kl_X7_283 ⟨by decide, by decide⟩ dX7_undo_29 rfl rfl (Nat.le_of_ble_eq_true rfl) (by decide) (by decide) rfl h (fun r hr => m_X2_pop hl0 ⟨r, hr, hr⟩) (fun _ τ6 _ h => ?_)
    refine r_aload_n 0 dX7_undo_32 rfl ?_
    refine r_getr fd_X7_50 rfl dX7_undo_33 h (fun x7 h => ?_)
    refine r_getf fd_X7_280 rfl dX7_undo_36 h (fun x8 h => ?_)
    exact r_iret rfl dX7_undo_39 h
  · exact r_throwW hl0 rfl (th_X7_62_281_66 _ rfl) dX7_undo_10 dX7_undo_13 dX7_undo_14 dX7_undo_17 dX7_undo_20 (by decide) (Nat.le_of_ble_eq_true rfl) (by decide) (by decide) h
theorem m_X7_undo {g : zF} (hl0 : g.2.2.2.1.stackTraces = false) {Q : zR × zS → Prop} {a0 : Int} {σ : zS} (h : zo (f_X7_undo a0 σ) Q) : zm g Y_X7_undo R_X7_undo [(4, a0)] σ Q := zm_of (by decide) rfl (Nat.le_of_ble_eq_true rfl) (t_X7_undo hl0 h)


/- X7_undoCount -/

set_option maxRecDepth 100000 in
set_option maxHeartbeats 4000000 in
theorem t_X7_undoCount {g : zF} (hl0 : g.2.2.2.1.stackTraces = false) {Q : zR × zS → Prop}   {a0 : Int} {σ : zS} (h : zo (f_X7_undoCount  a0 σ) Q) : zw g Y_X7_undoCount R_X7_undoCount 0 [(0, (4, a0))] [] σ 0 0 Q := by
  unfold f_X7_undoCount at h
  refine r_aload_n 0 dX7_undoCount_0 rfl ?_
  refine r_getr fd_X7_50 rfl dX7_undoCount_1 h (fun x1 h => ?_)
  refine r_getf fd_X7_280 rfl dX7_undoCount_4 h (fun x2 h => ?_)
  exact r_iret rfl dX7_undoCount_7 h
theorem m_X7_undoCount {g : zF} (hl0 : g.2.2.2.1.stackTraces = false) {Q : zR × zS → Prop} {a0 : Int} {σ : zS} (h : zo (f_X7_undoCount a0 σ) Q) : zm g Y_X7_undoCount R_X7_undoCount [(4, a0)] σ Q := zm_of (by decide) rfl (Nat.le_of_ble_eq_true rfl) (t_X7_undoCount hl0 h)


/- X7_writeBounds -/

set_option maxRecDepth 100000 in
set_option maxHeartbeats 4000000 in
theorem t_X7_writeBounds {g : zF} (hl0 : g.2.2.2.1.stackTraces = false) {Q : zR × zS → Prop}   {a0 a1 a2 : Int} {σ : zS} (h : zo (f_X7_writeBounds  a0 a1 a2 σ) Q) : zw g Y_X7_writeBounds R_X7_writeBounds 0 [(0, (4, a0)), (1, (0, a1)), (2, (0, a2))] [] σ 0 0 Q := by
  unfold f_X7_writeBounds at h
  refine r_aload_n 0 dX7_writeBounds_0 rfl ?_
  refine r_getr fd_X7_18 rfl dX7_writeBounds_1 h (fun x1 h => ?_)
  refine r_iload_n 1 dX7_writeBounds_4 rfl ?_
  refine r_callV (K' := Y_X0_addNumber) (R' := R_X0_addNumber) (idx := 303) (n := 1) (b := x1) (as := [(0, a1)]) (rest := []) (C' := 0) (D' := 0) (cn := 0) rfl k0_X0_addNumber kV_X0_addNumber kl_X7_303 ⟨by decide, by decide⟩ dX7_writeBounds_5 rfl rfl (Nat.le_of_ble_eq_true rfl) (by decide) (by decide) rfl h (fun r hr => m_X0_addNumber hl0 ⟨r, hr, hr⟩) (fun _ τ3 _ h => ?_)
  refine r_aload_n 0 dX7_writeBounds_8 rfl ?_
  refine r_getr fd_X7_18 rfl dX7_writeBounds_9 h (fun x4 h => ?_)
  refine r_bipush (v := 45) dX7_writeBounds_12 rfl rfl ?_
  refine r_callV (K' := Y_X0_add) (R' := R_X0_add) (idx := 286) (n := 1) (b := x4) (as := [(0, 45)]) (rest := []) (C' := 0) (D' := 0) (cn := 0) rfl k0_X0_add kV_X0_add kl_X7_286 ⟨by decide, by decide⟩ dX7_writeBounds_14 rfl rfl (Nat.le_of_ble_eq_true rfl) (by decide) (by decide) rfl h (fun r hr => m_X0_add hl0 ⟨r, hr, hr⟩) (fun _ τ6 _ h => ?_)
  refine r_aload_n 0 dX7_writeBounds_17 rfl ?_
  refine r_getr fd_X7_18 rfl dX7_writeBounds_18 h (fun x7 h => ?_)
  refine r_iload_n 2 dX7_writeBounds_21 rfl ?_
  refine r_callV (K' := Y_X0_addNumber) (R' := R_X0_addNumber) (idx := 303) (n := 1) (b := x7) (as := [(0, a2)]) (rest := []) (C' := 0) (D' := 0) (cn := 0) rfl k0_X0_addNumber kV_X0_addNumber kl_X7_303 ⟨by decide, by decide⟩ dX7_writeBounds_22 rfl rfl (Nat.le_of_ble_eq_true rfl) (by decide) (by decide) rfl h (fun r hr => m_X0_addNumber hl0 ⟨r, hr, hr⟩) (fun _ τ9 _ h => ?_)
  exact r_vret rfl dX7_writeBounds_25 h
theorem m_X7_writeBounds {g : zF} (hl0 : g.2.2.2.1.stackTraces = false) {Q : zR × zS → Prop} {a0 a1 a2 : Int} {σ : zS} (h : zo (f_X7_writeBounds a0 a1 a2 σ) Q) : zm g Y_X7_writeBounds R_X7_writeBounds [(4, a0), (0, a1), (0, a2)] σ Q := zm_of (by decide) rfl (Nat.le_of_ble_eq_true rfl) (t_X7_writeBounds hl0 h)


/- X7_writeBeliefs -/

set_option maxRecDepth 100000 in
set_option maxHeartbeats 4000000 in
theorem t_X7_writeBeliefs_42 {g : zF} (hl0 : g.2.2.2.1.stackTraces = false) {Q : zR × zS → Prop} (r15 : Int → Int → Int → zS → zFn) (hr15 : ∀ b0 b1 b2 τ, zo (r15 b0 b1 b2 τ) Q → zw g Y_X7_writeBeliefs R_X7_writeBeliefs 15 [(0, (4, b0)), (1, (0, b1)), (2, (0, b2))] [] τ 0 0 Q) {a0 a1 a2 : Int} {σ : zS} (h : zo (f_X7_writeBeliefs_42 r15 a0 a1 a2 σ) Q) : zw g Y_X7_writeBeliefs R_X7_writeBeliefs 42 [(0, (4, a0)), (1, (0, a1)), (2, (0, a2))] [] σ 0 0 Q := by
  unfold f_X7_writeBeliefs_42 at h
  refine r_aload_n 0 dX7_writeBeliefs_42 rfl ?_
  refine r_getr fd_X7_18 rfl dX7_writeBeliefs_43 h (fun x1 h => ?_)
  refine r_aload_n 0 dX7_writeBeliefs_46 rfl ?_
  refine r_getr fd_X7_31 rfl dX7_writeBeliefs_47 h (fun x2 h => ?_)
  refine r_getr fd_X7_106 rfl dX7_writeBeliefs_50 h (fun x3 h => ?_)
  refine r_iload_n 2 dX7_writeBeliefs_53 rfl ?_
  refine r_callV (K' := Y_X3_get) (R' := R_X3_get) (idx := 289) (n := 1) (b := x3) (as := [(0, a2)]) (rest := [(4, x1)]) (C' := 0) (D' := 0) (cn := 3) rfl k0_X3_get kV_X3_get kl_X7_289 ⟨by decide, by decide⟩ dX7_writeBeliefs_54 rfl rfl (Nat.le_of_ble_eq_true rfl) (by decide) (by decide) rfl h (fun r hr => m_X3_get hl0 ⟨r, hr, hr⟩) (fun x4 τ5 _ h => ?_)
  refine r_callV (K' := Y_X0_addName) (R' := R_X0_addName) (idx := 291) (n := 1) (b := x1) (as := [(0, x4)]) (rest := []) (C' := 0) (D' := 0) (cn := 0) rfl k0_X0_addName kV_X0_addName kl_X7_291 ⟨by decide, by decide⟩ dX7_writeBeliefs_57 rfl rfl (Nat.le_of_ble_eq_true rfl) (by decide) (by decide) rfl h (fun r hr => m_X0_addName hl0 ⟨r, hr, hr⟩) (fun _ τ7 _ h => ?_)
  refine r_aload_n 0 dX7_writeBeliefs_60 rfl ?_
  refine r_getr fd_X7_18 rfl dX7_writeBeliefs_61 h (fun x8 h => ?_)
  refine r_bipush (v := 58) dX7_writeBeliefs_64 rfl rfl ?_
  refine r_callV (K' := Y_X0_add) (R' := R_X0_add) (idx := 286) (n := 1) (b := x8) (as := [(0, 58)]) (rest := []) (C' := 0) (D' := 0) (cn := 0) rfl k0_X0_add kV_X0_add kl_X7_286 ⟨by decide, by decide⟩ dX7_writeBeliefs_66 rfl rfl (Nat.le_of_ble_eq_true rfl) (by decide) (by decide) rfl h (fun r hr => m_X0_add hl0 ⟨r, hr, hr⟩) (fun _ τ10 _ h => ?_)
  refine r_aload_n 0 dX7_writeBeliefs_69 rfl ?_
  refine r_getr fd_X7_24 rfl dX7_writeBeliefs_70 h (fun x11 h => ?_)
  refine r_aload_n 0 dX7_writeBeliefs_73 rfl ?_
  refine r_getr fd_X7_31 rfl dX7_writeBeliefs_74 h (fun x12 h => ?_)
  refine r_iload_n 1 dX7_writeBeliefs_77 rfl ?_
  refine r_iload_n 2 dX7_writeBeliefs_78 rfl ?_
  refine r_iconst (v := (-1)) dX7_writeBeliefs_79 rfl rfl ?_
  refine r_callV (K' := Y_X6_form) (R' := R_X6_form) (idx := 181) (n := 4) (b := x11) (as := [(4, x12), (0, a1), (0, a2), (0, (-1))]) (rest := []) (C' := 0) (D' := 0) (cn := 6) rfl k0_X6_form kV_X6_form kl_X7_181 ⟨by decide, by decide⟩ dX7_writeBeliefs_80 rfl rfl (Nat.le_of_ble_eq_true rfl) (by decide) (by decide) rfl h (fun r hr => m_X6_form hl0 ⟨r, hr, hr⟩) (fun _ τ14 _ h => ?_)
  refine r_aload_n 0 dX7_writeBeliefs_83 rfl ?_
  refine r_aload_n 0 dX7_writeBeliefs_84 rfl ?_
  refine r_getr fd_X7_24 rfl dX7_writeBeliefs_85 h (fun x15 h => ?_)
  refine r_getf fd_X7_294 rfl dX7_writeBeliefs_88 h (fun x16 h => ?_)
  refine r_aload_n 0 dX7_writeBeliefs_91 rfl ?_
  refine r_getr fd_X7_24 rfl dX7_writeBeliefs_92 h (fun x17 h => ?_)
  refine r_getf fd_X7_297 rfl dX7_writeBeliefs_95 h (fun x18 h => ?_)
  refine r_callV (K' := Y_X7_writeBounds) (R' := R_X7_writeBounds) (idx := 300) (n := 2) (b := a0) (as := [(0, x16), (0, x18)]) (rest := []) (C' := 0) (D' := 0) (cn := 7) rfl k0_X7_writeBounds kV_X7_writeBounds kl_X7_300 ⟨by decide, by decide⟩ dX7_writeBeliefs_98 rfl rfl (Nat.le_of_ble_eq_true rfl) (by decide) (by decide) rfl h (fun r hr => m_X7_writeBounds hl0 ⟨r, hr, hr⟩) (fun _ τ20 _ h => ?_)
  refine r_iinc (L' := [(2, (0, (w32 (a2 + 1)))), (0, (4, a0)), (1, (0, a1))]) 2 dX7_writeBeliefs_101 rfl (by decide) rfl ?_
  refine r_goto 15 dX7_writeBeliefs_104 (by decide) ?_
  refine r_weak (L' := [(0, (4, a0)), (1, (0, a1)), (2, (0, (w32 (a2 + 1))))]) [1, 2, 0] rfl ?_
  exact hr15 _ _ _ _ h

set_option maxRecDepth 100000 in
set_option maxHeartbeats 4000000 in
theorem t_X7_writeBeliefs_15 {g : zF} (hl0 : g.2.2.2.1.stackTraces = false) {Q : zR × zS → Prop}   : ∀ (n : Nat) (a0 a1 a2 : Int) (σ : zS), zo (f_X7_writeBeliefs_15  n a0 a1 a2 σ) Q → zw g Y_X7_writeBeliefs R_X7_writeBeliefs 15 [(0, (4, a0)), (1, (0, a1)), (2, (0, a2))] [] σ 0 0 Q := by
  intro n
  induction n with
  | zero => intro a0 a1 a2 σ h; obtain ⟨r, h, -⟩ := h; cases h
  | succ n ih =>
    intro a0 a1 a2 σ h
    unfold f_X7_writeBeliefs_15 at h
    refine r_iload_n 2 dX7_writeBeliefs_15 rfl ?_
    refine r_aload_n 0 dX7_writeBeliefs_16 rfl ?_
    refine r_getr fd_X7_31 rfl dX7_writeBeliefs_17 h (fun x1 h => ?_)
    refine r_getr fd_X7_106 rfl dX7_writeBeliefs_20 h (fun x2 h => ?_)
    refine r_getf fd_X7_91 rfl dX7_writeBeliefs_23 h (fun x3 h => ?_)
    refine r_icmp_ge 107 dX7_writeBeliefs_26 (by decide) h (fun h => ?_) (fun h => ?_)
    · refine r_aload_n 0 dX7_writeBeliefs_107 rfl ?_
      refine r_getr fd_X7_18 rfl dX7_writeBeliefs_108 h (fun x4 h => ?_)
      refine r_getf fd_X7_58 rfl dX7_writeBeliefs_111 h (fun x5 h => ?_)
      exact r_iret rfl dX7_writeBeliefs_114 h
    · refine r_iload_n 2 dX7_writeBeliefs_29 rfl ?_
      refine r_if_le 42 dX7_writeBeliefs_30 (by decide) h (fun h => ?_) (fun h => ?_)
      · exact t_X7_writeBeliefs_42 hl0 (f_X7_writeBeliefs_15  n) (fun b0 b1 b2 τ h => ih b0 b1 b2 τ h) h
      · refine r_aload_n 0 dX7_writeBeliefs_33 rfl ?_
        refine r_getr fd_X7_18 rfl dX7_writeBeliefs_34 h (fun x6 h => ?_)
        refine r_bipush (v := 32) dX7_writeBeliefs_37 rfl rfl ?_
        refine r_callV (K' := Y_X0_add) (R' := R_X0_add) (idx := 286) (n := 1) (b := x6) (as := [(0, 32)]) (rest := []) (C' := 0) (D' := 0) (cn := 0) rfl k0_X0_add kV_X0_add kl_X7_286 ⟨by decide, by decide⟩ dX7_writeBeliefs_39 rfl rfl (Nat.le_of_ble_eq_true rfl) (by decide) (by decide) rfl h (fun r hr => m_X0_add hl0 ⟨r, hr, hr⟩) (fun _ τ8 _ h => ?_)
        exact t_X7_writeBeliefs_42 hl0 (f_X7_writeBeliefs_15  n) (fun b0 b1 b2 τ h => ih b0 b1 b2 τ h) h

set_option maxRecDepth 100000 in
set_option maxHeartbeats 4000000 in
theorem t_X7_writeBeliefs {g : zF} (hl0 : g.2.2.2.1.stackTraces = false) {Q : zR × zS → Prop}   {a0 a1 : Int} {σ : zS} (h : zo (f_X7_writeBeliefs  a0 a1 σ) Q) : zw g Y_X7_writeBeliefs R_X7_writeBeliefs 0 [(0, (4, a0)), (1, (0, a1))] [] σ 1 6 Q := by
  unfold f_X7_writeBeliefs at h
  refine r_aload_n 0 dX7_writeBeliefs_0 rfl ?_
  refine r_iload_n 1 dX7_writeBeliefs_1 rfl ?_
  refine r_callV (K' := Y_X7_checkAgent) (R' := R_X7_checkAgent) (idx := 127) (n := 1) (b := a0) (as := [(0, a1)]) (rest := []) (C' := 0) (D' := 0) (cn := 7) rfl k0_X7_checkAgent kV_X7_checkAgent kl_X7_127 ⟨by decide, by decide⟩ dX7_writeBeliefs_2 rfl rfl (Nat.le_of_ble_eq_true rfl) (by decide) (by decide) rfl h (fun r hr => m_X7_checkAgent hl0 ⟨r, hr, hr⟩) (fun _ τ2 _ h => ?_)
  refine r_aload_n 0 dX7_writeBeliefs_5 rfl ?_
  refine r_getr fd_X7_18 rfl dX7_writeBeliefs_6 h (fun x3 h => ?_)
  refine r_iconst (v := 0) dX7_writeBeliefs_9 rfl rfl ?_
  refine r_putf fd_X7_58 fp_X7_writeBeliefs_58 dX7_writeBeliefs_10 h (fun τ4 h => ?_)
  refine r_iconst (v := 0) dX7_writeBeliefs_13 rfl rfl ?_
  refine r_istore_n (L' := [(2, (0, 0)), (0, (4, a0)), (1, (0, a1))]) dX7_writeBeliefs_14 (by decide) rfl ?_
  refine r_weak (L' := [(0, (4, a0)), (1, (0, a1)), (2, (0, 0))]) [1, 2, 0] rfl ?_
  exact t_X7_writeBeliefs_15 hl0   zFU _ _ _ _ h
theorem m_X7_writeBeliefs {g : zF} (hl0 : g.2.2.2.1.stackTraces = false) {Q : zR × zS → Prop} {a0 a1 : Int} {σ : zS} (h : zo (f_X7_writeBeliefs a0 a1 σ) Q) : zm g Y_X7_writeBeliefs R_X7_writeBeliefs [(4, a0), (0, a1)] σ Q := zm_of (by decide) rfl (Nat.le_of_ble_eq_true rfl) (t_X7_writeBeliefs hl0 h)


/- X7_writeStatus -/

set_option maxRecDepth 100000 in
set_option maxHeartbeats 4000000 in
theorem t_X7_writeStatus {g : zF} (hl0 : g.2.2.2.1.stackTraces = false) {Q : zR × zS → Prop}   {a0 a1 : Int} {σ : zS} (h : zo (f_X7_writeStatus  a0 a1 σ) Q) : zw g Y_X7_writeStatus R_X7_writeStatus 0 [(0, (4, a0)), (1, (0, a1))] [] σ 0 0 Q := by
  unfold f_X7_writeStatus at h
  refine r_iload_n 1 dX7_writeStatus_0 rfl ?_
  refine r_iconst (v := 1) dX7_writeStatus_1 rfl rfl ?_
  refine r_icmp_ne 17 dX7_writeStatus_2 (by decide) h (fun h => ?_) (fun h => ?_)
  · refine r_iload_n 1 dX7_writeStatus_17 rfl ?_
    refine r_iconst (v := 2) dX7_writeStatus_18 rfl rfl ?_
    refine r_icmp_ne 31 dX7_writeStatus_19 (by decide) h (fun h => ?_) (fun h => ?_)
    · exact r_vret rfl dX7_writeStatus_31 h
    · refine r_aload_n 0 dX7_writeStatus_22 rfl ?_
      refine r_getr fd_X7_18 rfl dX7_writeStatus_23 h (fun x1 h => ?_)
      refine r_bipush (v := 63) dX7_writeStatus_26 rfl rfl ?_
      refine r_callV (K' := Y_X0_add) (R' := R_X0_add) (idx := 286) (n := 1) (b := x1) (as := [(0, 63)]) (rest := []) (C' := 0) (D' := 0) (cn := 0) rfl k0_X0_add kV_X0_add kl_X7_286 ⟨by decide, by decide⟩ dX7_writeStatus_28 rfl rfl (Nat.le_of_ble_eq_true rfl) (by decide) (by decide) rfl h (fun r hr => m_X0_add hl0 ⟨r, hr, hr⟩) (fun _ τ3 _ h => ?_)
      exact r_vret rfl dX7_writeStatus_31 h
  · refine r_aload_n 0 dX7_writeStatus_5 rfl ?_
    refine r_getr fd_X7_18 rfl dX7_writeStatus_6 h (fun x4 h => ?_)
    refine r_bipush (v := 33) dX7_writeStatus_9 rfl rfl ?_
    refine r_callV (K' := Y_X0_add) (R' := R_X0_add) (idx := 286) (n := 1) (b := x4) (as := [(0, 33)]) (rest := []) (C' := 0) (D' := 0) (cn := 0) rfl k0_X0_add kV_X0_add kl_X7_286 ⟨by decide, by decide⟩ dX7_writeStatus_11 rfl rfl (Nat.le_of_ble_eq_true rfl) (by decide) (by decide) rfl h (fun r hr => m_X0_add hl0 ⟨r, hr, hr⟩) (fun _ τ6 _ h => ?_)
    refine r_goto 31 dX7_writeStatus_14 (by decide) ?_
    exact r_vret rfl dX7_writeStatus_31 h
theorem m_X7_writeStatus {g : zF} (hl0 : g.2.2.2.1.stackTraces = false) {Q : zR × zS → Prop} {a0 a1 : Int} {σ : zS} (h : zo (f_X7_writeStatus a0 a1 σ) Q) : zm g Y_X7_writeStatus R_X7_writeStatus [(4, a0), (0, a1)] σ Q := zm_of (by decide) rfl (Nat.le_of_ble_eq_true rfl) (t_X7_writeStatus hl0 h)


/- X7_writeReports -/

set_option maxRecDepth 100000 in
set_option maxHeartbeats 4000000 in
theorem t_X7_writeReports_24 {g : zF} (hl0 : g.2.2.2.1.stackTraces = false) {Q : zR × zS → Prop}   : ∀ (n : Nat) (a0 a1 a2 a3 : Int) (σ : zS), zo (f_X7_writeReports_24  n a0 a1 a2 a3 σ) Q → zw g Y_X7_writeReports R_X7_writeReports 24 [(0, (4, a0)), (1, (0, a1)), (2, (4, a2)), (3, (0, a3))] [] σ 0 0 Q := by
  intro n
  induction n with
  | zero => intro a0 a1 a2 a3 σ h; obtain ⟨r, h, -⟩ := h; cases h
  | succ n ih =>
    intro a0 a1 a2 a3 σ h
    unfold f_X7_writeReports_24 at h
    refine r_iload_n 3 dX7_writeReports_24 rfl ?_
    refine r_aload_n 2 dX7_writeReports_25 rfl ?_
    refine r_getf fd_X7_116 rfl dX7_writeReports_26 h (fun x1 h => ?_)
    refine r_icmp_ge 160 dX7_writeReports_29 (by decide) h (fun h => ?_) (fun h => ?_)
    · refine r_aload_n 0 dX7_writeReports_160 rfl ?_
      refine r_getr fd_X7_18 rfl dX7_writeReports_161 h (fun x2 h => ?_)
      refine r_getf fd_X7_58 rfl dX7_writeReports_164 h (fun x3 h => ?_)
      exact r_iret rfl dX7_writeReports_167 h
    · refine r_aload_n 0 dX7_writeReports_32 rfl ?_
      refine r_getr fd_X7_18 rfl dX7_writeReports_33 h (fun x4 h => ?_)
      refine r_aload_n 0 dX7_writeReports_36 rfl ?_
      refine r_getr fd_X7_31 rfl dX7_writeReports_37 h (fun x5 h => ?_)
      refine r_getr fd_X7_87 rfl dX7_writeReports_40 h (fun x6 h => ?_)
      refine r_aload_n 2 dX7_writeReports_43 rfl ?_
      refine r_iload_n 3 dX7_writeReports_44 rfl ?_
      refine r_iconst (v := 0) dX7_writeReports_45 rfl rfl ?_
      refine r_callV (K' := Y_X5_get) (R' := R_X5_get) (idx := 152) (n := 2) (b := a2) (as := [(0, a3), (0, 0)]) (rest := [(4, x6), (4, x4)]) (C' := 0) (D' := 0) (cn := 5) rfl k0_X5_get kV_X5_get kl_X7_152 ⟨by decide, by decide⟩ dX7_writeReports_46 rfl rfl (Nat.le_of_ble_eq_true rfl) (by decide) (by decide) rfl h (fun r hr => m_X5_get hl0 ⟨r, hr, hr⟩) (fun x7 τ8 _ h => ?_)
      refine r_callV (K' := Y_X3_get) (R' := R_X3_get) (idx := 289) (n := 1) (b := x6) (as := [(0, x7)]) (rest := [(4, x4)]) (C' := 0) (D' := 0) (cn := 3) rfl k0_X3_get kV_X3_get kl_X7_289 ⟨by decide, by decide⟩ dX7_writeReports_49 rfl rfl (Nat.le_of_ble_eq_true rfl) (by decide) (by decide) rfl h (fun r hr => m_X3_get hl0 ⟨r, hr, hr⟩) (fun x9 τ10 _ h => ?_)
      refine r_callV (K' := Y_X0_addName) (R' := R_X0_addName) (idx := 291) (n := 1) (b := x4) (as := [(0, x9)]) (rest := []) (C' := 0) (D' := 0) (cn := 0) rfl k0_X0_addName kV_X0_addName kl_X7_291 ⟨by decide, by decide⟩ dX7_writeReports_52 rfl rfl (Nat.le_of_ble_eq_true rfl) (by decide) (by decide) rfl h (fun r hr => m_X0_addName hl0 ⟨r, hr, hr⟩) (fun _ τ12 _ h => ?_)
      refine r_aload_n 0 dX7_writeReports_55 rfl ?_
      refine r_getr fd_X7_18 rfl dX7_writeReports_56 h (fun x13 h => ?_)
      refine r_bipush (v := 47) dX7_writeReports_59 rfl rfl ?_
      refine r_callV (K' := Y_X0_add) (R' := R_X0_add) (idx := 286) (n := 1) (b := x13) (as := [(0, 47)]) (rest := []) (C' := 0) (D' := 0) (cn := 0) rfl k0_X0_add kV_X0_add kl_X7_286 ⟨by decide, by decide⟩ dX7_writeReports_61 rfl rfl (Nat.le_of_ble_eq_true rfl) (by decide) (by decide) rfl h (fun r hr => m_X0_add hl0 ⟨r, hr, hr⟩) (fun _ τ15 _ h => ?_)
      refine r_aload_n 0 dX7_writeReports_64 rfl ?_
      refine r_getr fd_X7_18 rfl dX7_writeReports_65 h (fun x16 h => ?_)
      refine r_aload_n 0 dX7_writeReports_68 rfl ?_
      refine r_getr fd_X7_31 rfl dX7_writeReports_69 h (fun x17 h => ?_)
      refine r_getr fd_X7_106 rfl dX7_writeReports_72 h (fun x18 h => ?_)
      refine r_aload_n 2 dX7_writeReports_75 rfl ?_
      refine r_iload_n 3 dX7_writeReports_76 rfl ?_
      refine r_iconst (v := 3) dX7_writeReports_77 rfl rfl ?_
      refine r_callV (K' := Y_X5_get) (R' := R_X5_get) (idx := 152) (n := 2) (b := a2) (as := [(0, a3), (0, 3)]) (rest := [(4, x18), (4, x16)]) (C' := 0) (D' := 0) (cn := 5) rfl k0_X5_get kV_X5_get kl_X7_152 ⟨by decide, by decide⟩ dX7_writeReports_78 rfl rfl (Nat.le_of_ble_eq_true rfl) (by decide) (by decide) rfl h (fun r hr => m_X5_get hl0 ⟨r, hr, hr⟩) (fun x19 τ20 _ h => ?_)
      refine r_callV (K' := Y_X3_get) (R' := R_X3_get) (idx := 289) (n := 1) (b := x18) (as := [(0, x19)]) (rest := [(4, x16)]) (C' := 0) (D' := 0) (cn := 3) rfl k0_X3_get kV_X3_get kl_X7_289 ⟨by decide, by decide⟩ dX7_writeReports_81 rfl rfl (Nat.le_of_ble_eq_true rfl) (by decide) (by decide) rfl h (fun r hr => m_X3_get hl0 ⟨r, hr, hr⟩) (fun x21 τ22 _ h => ?_)
      refine r_callV (K' := Y_X0_addName) (R' := R_X0_addName) (idx := 291) (n := 1) (b := x16) (as := [(0, x21)]) (rest := []) (C' := 0) (D' := 0) (cn := 0) rfl k0_X0_addName kV_X0_addName kl_X7_291 ⟨by decide, by decide⟩ dX7_writeReports_84 rfl rfl (Nat.le_of_ble_eq_true rfl) (by decide) (by decide) rfl h (fun r hr => m_X0_addName hl0 ⟨r, hr, hr⟩) (fun _ τ24 _ h => ?_)
      refine r_aload_n 0 dX7_writeReports_87 rfl ?_
      refine r_getr fd_X7_18 rfl dX7_writeReports_88 h (fun x25 h => ?_)
      refine r_bipush (v := 32) dX7_writeReports_91 rfl rfl ?_
      refine r_callV (K' := Y_X0_add) (R' := R_X0_add) (idx := 286) (n := 1) (b := x25) (as := [(0, 32)]) (rest := []) (C' := 0) (D' := 0) (cn := 0) rfl k0_X0_add kV_X0_add kl_X7_286 ⟨by decide, by decide⟩ dX7_writeReports_93 rfl rfl (Nat.le_of_ble_eq_true rfl) (by decide) (by decide) rfl h (fun r hr => m_X0_add hl0 ⟨r, hr, hr⟩) (fun _ τ27 _ h => ?_)
      refine r_aload_n 0 dX7_writeReports_96 rfl ?_
      refine r_aload_n 2 dX7_writeReports_97 rfl ?_
      refine r_iload_n 3 dX7_writeReports_98 rfl ?_
      refine r_iconst (v := 5) dX7_writeReports_99 rfl rfl ?_
      refine r_callV (K' := Y_X5_get) (R' := R_X5_get) (idx := 152) (n := 2) (b := a2) (as := [(0, a3), (0, 5)]) (rest := [(4, a0)]) (C' := 0) (D' := 0) (cn := 5) rfl k0_X5_get kV_X5_get kl_X7_152 ⟨by decide, by decide⟩ dX7_writeReports_100 rfl rfl (Nat.le_of_ble_eq_true rfl) (by decide) (by decide) rfl h (fun r hr => m_X5_get hl0 ⟨r, hr, hr⟩) (fun x28 τ29 _ h => ?_)
      refine r_aload_n 2 dX7_writeReports_103 rfl ?_
      refine r_iload_n 3 dX7_writeReports_104 rfl ?_
      refine r_bipush (v := 6) dX7_writeReports_105 rfl rfl ?_
      refine r_callV (K' := Y_X5_get) (R' := R_X5_get) (idx := 152) (n := 2) (b := a2) (as := [(0, a3), (0, 6)]) (rest := [(0, x28), (4, a0)]) (C' := 0) (D' := 0) (cn := 5) rfl k0_X5_get kV_X5_get kl_X7_152 ⟨by decide, by decide⟩ dX7_writeReports_107 rfl rfl (Nat.le_of_ble_eq_true rfl) (by decide) (by decide) rfl h (fun r hr => m_X5_get hl0 ⟨r, hr, hr⟩) (fun x30 τ31 _ h => ?_)
      refine r_callV (K' := Y_X7_writeBounds) (R' := R_X7_writeBounds) (idx := 300) (n := 2) (b := a0) (as := [(0, x28), (0, x30)]) (rest := []) (C' := 0) (D' := 0) (cn := 7) rfl k0_X7_writeBounds kV_X7_writeBounds kl_X7_300 ⟨by decide, by decide⟩ dX7_writeReports_110 rfl rfl (Nat.le_of_ble_eq_true rfl) (by decide) (by decide) rfl h (fun r hr => m_X7_writeBounds hl0 ⟨r, hr, hr⟩) (fun _ τ33 _ h => ?_)
      refine r_aload_n 0 dX7_writeReports_113 rfl ?_
      refine r_getr fd_X7_18 rfl dX7_writeReports_114 h (fun x34 h => ?_)
      refine r_bipush (v := 64) dX7_writeReports_117 rfl rfl ?_
      refine r_callV (K' := Y_X0_add) (R' := R_X0_add) (idx := 286) (n := 1) (b := x34) (as := [(0, 64)]) (rest := []) (C' := 0) (D' := 0) (cn := 0) rfl k0_X0_add kV_X0_add kl_X7_286 ⟨by decide, by decide⟩ dX7_writeReports_119 rfl rfl (Nat.le_of_ble_eq_true rfl) (by decide) (by decide) rfl h (fun r hr => m_X0_add hl0 ⟨r, hr, hr⟩) (fun _ τ36 _ h => ?_)
      refine r_aload_n 0 dX7_writeReports_122 rfl ?_
      refine r_getr fd_X7_18 rfl dX7_writeReports_123 h (fun x37 h => ?_)
      refine r_aload_n 2 dX7_writeReports_126 rfl ?_
      refine r_iload_n 3 dX7_writeReports_127 rfl ?_
      refine r_iconst (v := 4) dX7_writeReports_128 rfl rfl ?_
      refine r_callV (K' := Y_X5_get) (R' := R_X5_get) (idx := 152) (n := 2) (b := a2) (as := [(0, a3), (0, 4)]) (rest := [(4, x37)]) (C' := 0) (D' := 0) (cn := 5) rfl k0_X5_get kV_X5_get kl_X7_152 ⟨by decide, by decide⟩ dX7_writeReports_129 rfl rfl (Nat.le_of_ble_eq_true rfl) (by decide) (by decide) rfl h (fun r hr => m_X5_get hl0 ⟨r, hr, hr⟩) (fun x38 τ39 _ h => ?_)
      refine r_callV (K' := Y_X0_addNumber) (R' := R_X0_addNumber) (idx := 303) (n := 1) (b := x37) (as := [(0, x38)]) (rest := []) (C' := 0) (D' := 0) (cn := 0) rfl k0_X0_addNumber kV_X0_addNumber kl_X7_303 ⟨by decide, by decide⟩ dX7_writeReports_132 rfl rfl (Nat.le_of_ble_eq_true rfl) (by decide) (by decide) rfl h (fun r hr => m_X0_addNumber hl0 ⟨r, hr, hr⟩) (fun _ τ41 _ h => ?_)
      refine r_aload_n 0 dX7_writeReports_135 rfl ?_
      refine r_aload_n 0 dX7_writeReports_136 rfl ?_
      refine r_iload_n 1 dX7_writeReports_137 rfl ?_
      refine r_iload_n 3 dX7_writeReports_138 rfl ?_
      refine r_callV (K' := Y_X7_statusIn) (R' := R_X7_statusIn) (idx := 155) (n := 2) (b := a0) (as := [(0, a1), (0, a3)]) (rest := [(4, a0)]) (C' := 0) (D' := 0) (cn := 7) rfl k0_X7_statusIn kV_X7_statusIn kl_X7_155 ⟨by decide, by decide⟩ dX7_writeReports_139 rfl rfl (Nat.le_of_ble_eq_true rfl) (by decide) (by decide) rfl h (fun r hr => m_X7_statusIn hl0 ⟨r, hr, hr⟩) (fun x42 τ43 _ h => ?_)
      refine r_callV (K' := Y_X7_writeStatus) (R' := R_X7_writeStatus) (idx := 306) (n := 1) (b := a0) (as := [(0, x42)]) (rest := []) (C' := 0) (D' := 0) (cn := 7) rfl k0_X7_writeStatus kV_X7_writeStatus kl_X7_306 ⟨by decide, by decide⟩ dX7_writeReports_142 rfl rfl (Nat.le_of_ble_eq_true rfl) (by decide) (by decide) rfl h (fun r hr => m_X7_writeStatus hl0 ⟨r, hr, hr⟩) (fun _ τ45 _ h => ?_)
      refine r_aload_n 0 dX7_writeReports_145 rfl ?_
      refine r_getr fd_X7_18 rfl dX7_writeReports_146 h (fun x46 h => ?_)
      refine r_bipush (v := 10) dX7_writeReports_149 rfl rfl ?_
      refine r_callV (K' := Y_X0_add) (R' := R_X0_add) (idx := 286) (n := 1) (b := x46) (as := [(0, 10)]) (rest := []) (C' := 0) (D' := 0) (cn := 0) rfl k0_X0_add kV_X0_add kl_X7_286 ⟨by decide, by decide⟩ dX7_writeReports_151 rfl rfl (Nat.le_of_ble_eq_true rfl) (by decide) (by decide) rfl h (fun r hr => m_X0_add hl0 ⟨r, hr, hr⟩) (fun _ τ48 _ h => ?_)
      refine r_iinc (L' := [(3, (0, (w32 (a3 + 1)))), (0, (4, a0)), (1, (0, a1)), (2, (4, a2))]) 3 dX7_writeReports_154 rfl (by decide) rfl ?_
      refine r_goto 24 dX7_writeReports_157 (by decide) ?_
      refine r_weak (L' := [(0, (4, a0)), (1, (0, a1)), (2, (4, a2)), (3, (0, (w32 (a3 + 1))))]) [1, 2, 3, 0] rfl ?_
      exact ih _ _ _ _ _ h

set_option maxRecDepth 100000 in
set_option maxHeartbeats 4000000 in
theorem t_X7_writeReports {g : zF} (hl0 : g.2.2.2.1.stackTraces = false) {Q : zR × zS → Prop}   {a0 a1 : Int} {σ : zS} (h : zo (f_X7_writeReports  a0 a1 σ) Q) : zw g Y_X7_writeReports R_X7_writeReports 0 [(0, (4, a0)), (1, (0, a1))] [] σ 1 6 Q := by
  unfold f_X7_writeReports at h
  refine r_aload_n 0 dX7_writeReports_0 rfl ?_
  refine r_iload_n 1 dX7_writeReports_1 rfl ?_
  refine r_callV (K' := Y_X7_checkAgent) (R' := R_X7_checkAgent) (idx := 127) (n := 1) (b := a0) (as := [(0, a1)]) (rest := []) (C' := 0) (D' := 0) (cn := 7) rfl k0_X7_checkAgent kV_X7_checkAgent kl_X7_127 ⟨by decide, by decide⟩ dX7_writeReports_2 rfl rfl (Nat.le_of_ble_eq_true rfl) (by decide) (by decide) rfl h (fun r hr => m_X7_checkAgent hl0 ⟨r, hr, hr⟩) (fun _ τ2 _ h => ?_)
  refine r_aload_n 0 dX7_writeReports_5 rfl ?_
  refine r_getr fd_X7_18 rfl dX7_writeReports_6 h (fun x3 h => ?_)
  refine r_iconst (v := 0) dX7_writeReports_9 rfl rfl ?_
  refine r_putf fd_X7_58 fp_X7_writeReports_58 dX7_writeReports_10 h (fun τ4 h => ?_)
  refine r_aload_n 0 dX7_writeReports_13 rfl ?_
  refine r_getr fd_X7_31 rfl dX7_writeReports_14 h (fun x5 h => ?_)
  refine r_iload_n 1 dX7_writeReports_17 rfl ?_
  refine r_callV (K' := Y_X1_listOf) (R' := R_X1_listOf) (idx := 144) (n := 1) (b := x5) (as := [(0, a1)]) (rest := []) (C' := 0) (D' := 0) (cn := 1) rfl k0_X1_listOf kV_X1_listOf kl_X7_144 ⟨by decide, by decide⟩ dX7_writeReports_18 rfl rfl (Nat.le_of_ble_eq_true rfl) (by decide) (by decide) rfl h (fun r hr => m_X1_listOf hl0 ⟨r, hr, hr⟩) (fun x6 τ7 _ h => ?_)
  refine r_astore_n (L' := [(2, (4, x6)), (0, (4, a0)), (1, (0, a1))]) dX7_writeReports_21 (by decide) rfl ?_
  refine r_iconst (v := 0) dX7_writeReports_22 rfl rfl ?_
  refine r_istore_n (L' := [(3, (0, 0)), (2, (4, x6)), (0, (4, a0)), (1, (0, a1))]) dX7_writeReports_23 (by decide) rfl ?_
  refine r_weak (L' := [(0, (4, a0)), (1, (0, a1)), (2, (4, x6)), (3, (0, 0))]) [2, 3, 1, 0] rfl ?_
  exact t_X7_writeReports_24 hl0   zFU _ _ _ _ _ h
theorem m_X7_writeReports {g : zF} (hl0 : g.2.2.2.1.stackTraces = false) {Q : zR × zS → Prop} {a0 a1 : Int} {σ : zS} (h : zo (f_X7_writeReports a0 a1 σ) Q) : zm g Y_X7_writeReports R_X7_writeReports [(4, a0), (0, a1)] σ Q := zm_of (by decide) rfl (Nat.le_of_ble_eq_true rfl) (t_X7_writeReports hl0 h)


/- X7_outputByte -/

set_option maxRecDepth 100000 in
set_option maxHeartbeats 4000000 in
theorem t_X7_outputByte {g : zF} (hl0 : g.2.2.2.1.stackTraces = false) {Q : zR × zS → Prop}   {a0 a1 : Int} {σ : zS} (h : zo (f_X7_outputByte  a0 a1 σ) Q) : zw g Y_X7_outputByte R_X7_outputByte 0 [(0, (4, a0)), (1, (0, a1))] [] σ 1 6 Q := by
  unfold f_X7_outputByte at h
  refine r_iload_n 1 dX7_outputByte_0 rfl ?_
  refine r_if_lt 15 dX7_outputByte_1 (by decide) h (fun h => ?_) (fun h => ?_)
  · exact r_throwW hl0 rfl (th_X7_309_311_313 _ rfl) dX7_outputByte_15 dX7_outputByte_18 dX7_outputByte_19 dX7_outputByte_22 dX7_outputByte_25 (by decide) (Nat.le_of_ble_eq_true rfl) (by decide) (by decide) h
  · refine r_iload_n 1 dX7_outputByte_4 rfl ?_
    refine r_aload_n 0 dX7_outputByte_5 rfl ?_
    refine r_getr fd_X7_18 rfl dX7_outputByte_6 h (fun x1 h => ?_)
    refine r_getf fd_X7_58 rfl dX7_outputByte_9 h (fun x2 h => ?_)
    refine r_icmp_lt 26 dX7_outputByte_12 (by decide) h (fun h => ?_) (fun h => ?_)
    · refine r_room (C' := 0) (D' := 0) (by omega) (by omega) ?_
      refine r_aload_n 0 dX7_outputByte_26 rfl ?_
      refine r_getr fd_X7_18 rfl dX7_outputByte_27 h (fun x3 h => ?_)
      refine r_iload_n 1 dX7_outputByte_30 rfl ?_
      refine r_callV (K' := Y_X0_at) (R' := R_X0_at) (idx := 314) (n := 1) (b := x3) (as := [(0, a1)]) (rest := []) (C' := 0) (D' := 0) (cn := 0) rfl k0_X0_at kV_X0_at kl_X7_314 ⟨by decide, by decide⟩ dX7_outputByte_31 rfl rfl (Nat.le_of_ble_eq_true rfl) (by decide) (by decide) rfl h (fun r hr => m_X0_at hl0 ⟨r, hr, hr⟩) (fun x4 τ5 _ h => ?_)
      exact r_iret rfl dX7_outputByte_34 h
    · exact r_throwW hl0 rfl (th_X7_309_311_313 _ rfl) dX7_outputByte_15 dX7_outputByte_18 dX7_outputByte_19 dX7_outputByte_22 dX7_outputByte_25 (by decide) (Nat.le_of_ble_eq_true rfl) (by decide) (by decide) h
theorem m_X7_outputByte {g : zF} (hl0 : g.2.2.2.1.stackTraces = false) {Q : zR × zS → Prop} {a0 a1 : Int} {σ : zS} (h : zo (f_X7_outputByte a0 a1 σ) Q) : zm g Y_X7_outputByte R_X7_outputByte [(4, a0), (0, a1)] σ Q := zm_of (by decide) rfl (Nat.le_of_ble_eq_true rfl) (t_X7_outputByte hl0 h)


/- X8_thrown -/

set_option maxRecDepth 100000 in
set_option maxHeartbeats 4000000 in
theorem t_X8_thrown {g : zF} (hl0 : g.2.2.2.1.stackTraces = false) {Q : zR × zS → Prop}   {a0 : Int} {σ : zS} (h : zo (f_X8_thrown  a0 σ) Q) : zw g Y_X8_thrown R_X8_thrown 0 [(0, (4, a0))] [] σ 0 0 Q := by
  unfold f_X8_thrown at h
  refine r_aload_n 0 dX8_thrown_0 rfl ?_
  refine r_getf fd_X8_3 rfl dX8_thrown_1 h (fun x1 h => ?_)
  exact r_iret rfl dX8_thrown_4 h
theorem m_X8_thrown {g : zF} (hl0 : g.2.2.2.1.stackTraces = false) {Q : zR × zS → Prop} {a0 : Int} {σ : zS} (h : zo (f_X8_thrown a0 σ) Q) : zm g Y_X8_thrown R_X8_thrown [(4, a0)] σ Q := zm_of (by decide) rfl (Nat.le_of_ble_eq_true rfl) (t_X8_thrown hl0 h)


/- X8_in -/

set_option maxRecDepth 100000 in
set_option maxHeartbeats 4000000 in
theorem t_X8_in {g : zF} (hl0 : g.2.2.2.1.stackTraces = false) {Q : zR × zS → Prop}   {a0 a2 a4 : Int} {σ : zS} (h : zo (f_X8_in  a0 a2 a4 σ) Q) : zw g Y_X8_in R_X8_in 0 [(0, (1, a0)), (2, (1, a2)), (4, (1, a4))] [] σ 0 0 Q := by
  unfold f_X8_in at h
  refine r_lload_n 0 dX8_in_0 rfl ?_
  refine r_lload_n 1 dX8_in_1 rfl ?_
  refine r_lcmp dX8_in_2 ?_
  refine r_if_lt 17 dX8_in_3 (by decide) h (fun h => ?_) (fun h => ?_)
  · refine r_iconst (v := 0) dX8_in_17 rfl rfl ?_
    exact r_zretc (by decide) rfl dX8_in_18 h
  · refine r_lload_n 0 dX8_in_6 rfl ?_
    refine r_lload 2 dX8_in_7 rfl ?_
    refine r_lcmp dX8_in_9 ?_
    refine r_if_gt 17 dX8_in_10 (by decide) h (fun h => ?_) (fun h => ?_)
    · refine r_iconst (v := 0) dX8_in_17 rfl rfl ?_
      exact r_zretc (by decide) rfl dX8_in_18 h
    · refine r_iconst (v := 1) dX8_in_13 rfl rfl ?_
      refine r_goto 18 dX8_in_14 (by decide) ?_
      exact r_zretc (by decide) rfl dX8_in_18 h
theorem m_X8_in {g : zF} (hl0 : g.2.2.2.1.stackTraces = false) {Q : zR × zS → Prop} {a0 a2 a4 : Int} {σ : zS} (h : zo (f_X8_in a0 a2 a4 σ) Q) : zm g Y_X8_in R_X8_in [(1, a0), (1, a2), (1, a4)] σ Q := zm_of (by decide) rfl (Nat.le_of_ble_eq_true rfl) (t_X8_in hl0 h)


/- X8_passes3 -/

set_option maxRecDepth 100000 in
set_option maxHeartbeats 4000000 in
theorem t_X8_passes3_26 {g : zF} (hl0 : g.2.2.2.1.stackTraces = false) {Q : zR × zS → Prop}   {a0 s0 s1 : Int} {σ : zS} (h : zo (f_X8_passes3_26  a0 s0 s1 σ) Q) : zw g Y_X8_passes3 R_X8_passes3 26 [(0, (4, a0))] [(0, s1), (4, s0)] σ 0 0 Q := by
  unfold f_X8_passes3_26 at h
  refine r_putf fd_X8_3 fp_X8_passes3_3 dX8_passes3_26 h (fun τ1 h => ?_)
  refine r_aload_n 0 dX8_passes3_29 rfl ?_
  refine r_getf fd_X8_3 rfl dX8_passes3_30 h (fun x2 h => ?_)
  refine r_if_ne 40 dX8_passes3_33 (by decide) h (fun h => ?_) (fun h => ?_)
  · refine r_iconst (v := 0) dX8_passes3_40 rfl rfl ?_
    exact r_zretc (by decide) rfl dX8_passes3_41 h
  · refine r_iconst (v := 1) dX8_passes3_36 rfl rfl ?_
    refine r_goto 41 dX8_passes3_37 (by decide) ?_
    exact r_zretc (by decide) rfl dX8_passes3_41 h

set_option maxRecDepth 100000 in
set_option maxHeartbeats 4000000 in
theorem t_X8_passes3 {g : zF} (hl0 : g.2.2.2.1.stackTraces = false) {Q : zR × zS → Prop}   {a0 a1 a2 a3 : Int} {σ : zS} (h : zo (f_X8_passes3  a0 a1 a2 a3 σ) Q) : zw g Y_X8_passes3 R_X8_passes3 0 [(0, (4, a0)), (1, (0, a1)), (2, (0, a2)), (3, (0, a3))] [] σ 0 0 Q := by
  unfold f_X8_passes3 at h
  refine r_aload_n 0 dX8_passes3_0 rfl ?_
  refine r_iload_n 1 dX8_passes3_1 rfl ?_
  refine r_if_ne 9 dX8_passes3_2 (by decide) h (fun h => ?_) (fun h => ?_)
  · refine r_iload_n 2 dX8_passes3_9 rfl ?_
    refine r_if_ne 17 dX8_passes3_10 (by decide) h (fun h => ?_) (fun h => ?_)
    · refine r_iload_n 3 dX8_passes3_17 rfl ?_
      refine r_if_ne 25 dX8_passes3_18 (by decide) h (fun h => ?_) (fun h => ?_)
      · refine r_iconst (v := 0) dX8_passes3_25 rfl rfl ?_
        refine r_weak (L' := [(0, (4, a0))]) [0] rfl ?_
        exact t_X8_passes3_26 hl0   h
      · refine r_iconst (v := 3) dX8_passes3_21 rfl rfl ?_
        refine r_goto 26 dX8_passes3_22 (by decide) ?_
        refine r_weak (L' := [(0, (4, a0))]) [0] rfl ?_
        exact t_X8_passes3_26 hl0   h
    · refine r_iconst (v := 2) dX8_passes3_13 rfl rfl ?_
      refine r_goto 26 dX8_passes3_14 (by decide) ?_
      refine r_weak (L' := [(0, (4, a0))]) [0] rfl ?_
      exact t_X8_passes3_26 hl0   h
  · refine r_iconst (v := 1) dX8_passes3_5 rfl rfl ?_
    refine r_goto 26 dX8_passes3_6 (by decide) ?_
    refine r_weak (L' := [(0, (4, a0))]) [0] rfl ?_
    exact t_X8_passes3_26 hl0   h
theorem m_X8_passes3 {g : zF} (hl0 : g.2.2.2.1.stackTraces = false) {Q : zR × zS → Prop} {a0 a1 a2 a3 : Int} {σ : zS} (h : zo (f_X8_passes3 a0 a1 a2 a3 σ) Q) : zm g Y_X8_passes3 R_X8_passes3 [(4, a0), (0, a1), (0, a2), (0, a3)] σ Q := zm_of (by decide) rfl (Nat.le_of_ble_eq_true rfl) (t_X8_passes3 hl0 h)


/- X8_passes2 -/

set_option maxRecDepth 100000 in
set_option maxHeartbeats 4000000 in
theorem t_X8_passes2 {g : zF} (hl0 : g.2.2.2.1.stackTraces = false) {Q : zR × zS → Prop}   {a0 a1 a2 : Int} {σ : zS} (h : zo (f_X8_passes2  a0 a1 a2 σ) Q) : zw g Y_X8_passes2 R_X8_passes2 0 [(0, (4, a0)), (1, (0, a1)), (2, (0, a2))] [] σ 0 0 Q := by
  unfold f_X8_passes2 at h
  refine r_aload_n 0 dX8_passes2_0 rfl ?_
  refine r_iload_n 1 dX8_passes2_1 rfl ?_
  refine r_iload_n 2 dX8_passes2_2 rfl ?_
  refine r_iconst (v := 1) dX8_passes2_3 rfl rfl ?_
  refine r_callV (K' := Y_X8_passes3) (R' := R_X8_passes3) (idx := 7) (n := 3) (b := a0) (as := [(0, a1), (0, a2), (0, 1)]) (rest := []) (C' := 0) (D' := 0) (cn := 8) rfl k0_X8_passes3 kV_X8_passes3 kl_X8_7 ⟨by decide, by decide⟩ dX8_passes2_4 rfl rfl (Nat.le_of_ble_eq_true rfl) (by decide) (by decide) rfl h (fun r hr => m_X8_passes3 hl0 ⟨r, hr, hr⟩) (fun x1 τ2 _ h => ?_)
  exact r_zret rfl dX8_passes2_7 h
theorem m_X8_passes2 {g : zF} (hl0 : g.2.2.2.1.stackTraces = false) {Q : zR × zS → Prop} {a0 a1 a2 : Int} {σ : zS} (h : zo (f_X8_passes2 a0 a1 a2 σ) Q) : zm g Y_X8_passes2 R_X8_passes2 [(4, a0), (0, a1), (0, a2)] σ Q := zm_of (by decide) rfl (Nat.le_of_ble_eq_true rfl) (t_X8_passes2 hl0 h)


/- X8_passes -/

set_option maxRecDepth 100000 in
set_option maxHeartbeats 4000000 in
theorem t_X8_passes {g : zF} (hl0 : g.2.2.2.1.stackTraces = false) {Q : zR × zS → Prop}   {a0 a1 : Int} {σ : zS} (h : zo (f_X8_passes  a0 a1 σ) Q) : zw g Y_X8_passes R_X8_passes 0 [(0, (4, a0)), (1, (0, a1))] [] σ 0 0 Q := by
  unfold f_X8_passes at h
  refine r_aload_n 0 dX8_passes_0 rfl ?_
  refine r_iload_n 1 dX8_passes_1 rfl ?_
  refine r_iconst (v := 1) dX8_passes_2 rfl rfl ?_
  refine r_iconst (v := 1) dX8_passes_3 rfl rfl ?_
  refine r_callV (K' := Y_X8_passes3) (R' := R_X8_passes3) (idx := 7) (n := 3) (b := a0) (as := [(0, a1), (0, 1), (0, 1)]) (rest := []) (C' := 0) (D' := 0) (cn := 8) rfl k0_X8_passes3 kV_X8_passes3 kl_X8_7 ⟨by decide, by decide⟩ dX8_passes_4 rfl rfl (Nat.le_of_ble_eq_true rfl) (by decide) (by decide) rfl h (fun r hr => m_X8_passes3 hl0 ⟨r, hr, hr⟩) (fun x1 τ2 _ h => ?_)
  exact r_zret rfl dX8_passes_7 h
theorem m_X8_passes {g : zF} (hl0 : g.2.2.2.1.stackTraces = false) {Q : zR × zS → Prop} {a0 a1 : Int} {σ : zS} (h : zo (f_X8_passes a0 a1 σ) Q) : zm g Y_X8_passes R_X8_passes [(4, a0), (0, a1)] σ Q := zm_of (by decide) rfl (Nat.le_of_ble_eq_true rfl) (t_X8_passes hl0 h)


/- X8_clear -/

set_option maxRecDepth 100000 in
set_option maxHeartbeats 4000000 in
theorem t_X8_clear_21 {g : zF} (hl0 : g.2.2.2.1.stackTraces = false) {Q : zR × zS → Prop}   : ∀ (n : Nat) (a0 a1 : Int) (σ : zS), zo (f_X8_clear_21  n a0 a1 σ) Q → zw g Y_X8_clear R_X8_clear 21 [(0, (4, a0)), (1, (0, a1))] [] σ 0 0 Q := by
  intro n
  induction n with
  | zero => intro a0 a1 σ h; obtain ⟨r, h, -⟩ := h; cases h
  | succ n ih =>
    intro a0 a1 σ h
    unfold f_X8_clear_21 at h
    refine r_iload_n 1 dX8_clear_21 rfl ?_
    refine r_bipush (v := 36) dX8_clear_22 rfl rfl ?_
    refine r_icmp_ge 40 dX8_clear_24 (by decide) h (fun h => ?_) (fun h => ?_)
    · exact r_vret rfl dX8_clear_40 h
    · refine r_aload_n 0 dX8_clear_27 rfl ?_
      refine r_bipush (v := 21) dX8_clear_28 rfl rfl ?_
      refine r_iload_n 1 dX8_clear_30 rfl ?_
      refine r_iadd dX8_clear_31 ?_
      refine r_iconst (v := (-1)) dX8_clear_32 rfl rfl ?_
      refine r_iast dX8_clear_33 h (fun τ1 h => ?_)
      refine r_iinc (L' := [(1, (0, (w32 (a1 + 1)))), (0, (4, a0))]) 1 dX8_clear_34 rfl (by decide) rfl ?_
      refine r_goto 21 dX8_clear_37 (by decide) ?_
      refine r_weak (L' := [(0, (4, a0)), (1, (0, (w32 (a1 + 1))))]) [1, 0] rfl ?_
      exact ih _ _ _ h

set_option maxRecDepth 100000 in
set_option maxHeartbeats 4000000 in
theorem t_X8_clear_19 {g : zF} (hl0 : g.2.2.2.1.stackTraces = false) {Q : zR × zS → Prop}   {a0 : Int} {σ : zS} (h : zo (f_X8_clear_19  a0 σ) Q) : zw g Y_X8_clear R_X8_clear 19 [(0, (4, a0))] [] σ 0 0 Q := by
  unfold f_X8_clear_19 at h
  refine r_iconst (v := 0) dX8_clear_19 rfl rfl ?_
  refine r_istore_n (L' := [(1, (0, 0)), (0, (4, a0))]) dX8_clear_20 (by decide) rfl ?_
  refine r_weak (L' := [(0, (4, a0)), (1, (0, 0))]) [1, 0] rfl ?_
  exact t_X8_clear_21 hl0   zFU _ _ _ h

set_option maxRecDepth 100000 in
set_option maxHeartbeats 4000000 in
theorem t_X8_clear_2 {g : zF} (hl0 : g.2.2.2.1.stackTraces = false) {Q : zR × zS → Prop}   : ∀ (n : Nat) (a0 a1 : Int) (σ : zS), zo (f_X8_clear_2  n a0 a1 σ) Q → zw g Y_X8_clear R_X8_clear 2 [(0, (4, a0)), (1, (0, a1))] [] σ 0 0 Q := by
  intro n
  induction n with
  | zero => intro a0 a1 σ h; obtain ⟨r, h, -⟩ := h; cases h
  | succ n ih =>
    intro a0 a1 σ h
    unfold f_X8_clear_2 at h
    refine r_iload_n 1 dX8_clear_2 rfl ?_
    refine r_sipush (v := 2405) dX8_clear_3 rfl rfl ?_
    refine r_icmp_ge 19 dX8_clear_6 (by decide) h (fun h => ?_) (fun h => ?_)
    · refine r_weak (L' := [(0, (4, a0))]) [0] rfl ?_
      exact t_X8_clear_19 hl0   h
    · refine r_aload_n 0 dX8_clear_9 rfl ?_
      refine r_iload_n 1 dX8_clear_10 rfl ?_
      refine r_iconst (v := 0) dX8_clear_11 rfl rfl ?_
      refine r_iast dX8_clear_12 h (fun τ1 h => ?_)
      refine r_iinc (L' := [(1, (0, (w32 (a1 + 1)))), (0, (4, a0))]) 1 dX8_clear_13 rfl (by decide) rfl ?_
      refine r_goto 2 dX8_clear_16 (by decide) ?_
      refine r_weak (L' := [(0, (4, a0)), (1, (0, (w32 (a1 + 1))))]) [1, 0] rfl ?_
      exact ih _ _ _ h

set_option maxRecDepth 100000 in
set_option maxHeartbeats 4000000 in
theorem t_X8_clear {g : zF} (hl0 : g.2.2.2.1.stackTraces = false) {Q : zR × zS → Prop}   {a0 : Int} {σ : zS} (h : zo (f_X8_clear  a0 σ) Q) : zw g Y_X8_clear R_X8_clear 0 [(0, (4, a0))] [] σ 0 0 Q := by
  unfold f_X8_clear at h
  refine r_iconst (v := 0) dX8_clear_0 rfl rfl ?_
  refine r_istore_n (L' := [(1, (0, 0)), (0, (4, a0))]) dX8_clear_1 (by decide) rfl ?_
  refine r_weak (L' := [(0, (4, a0)), (1, (0, 0))]) [1, 0] rfl ?_
  exact t_X8_clear_2 hl0   zFU _ _ _ h
theorem m_X8_clear {g : zF} (hl0 : g.2.2.2.1.stackTraces = false) {Q : zR × zS → Prop} {a0 : Int} {σ : zS} (h : zo (f_X8_clear a0 σ) Q) : zm g Y_X8_clear R_X8_clear [(4, a0)] σ Q := zm_of (by decide) rfl (Nat.le_of_ble_eq_true rfl) (t_X8_clear hl0 h)


/- X8_init -/

set_option maxRecDepth 100000 in
set_option maxHeartbeats 4000000 in
theorem t_X8_init {g : zF} (hl0 : g.2.2.2.1.stackTraces = false) {Q : zR × zS → Prop}   {a0 : Int} {σ : zS} (h : zo (f_X8_init  a0 σ) Q) : zw g Y_X8_init R_X8_init 0 [(0, (4, a0))] [] σ 11 28965 Q := by
  unfold f_X8_init at h
  refine r_aload_n 0 dX8_init_0 rfl ?_
  refine r_objinit oi_X8_11 ⟨by decide, Nat.le_of_ble_eq_true rfl⟩ dX8_init_1 h (fun h => ?_)
  refine r_aload_n 0 dX8_init_4 rfl ?_
  refine r_sipush (v := 2405) dX8_init_5 rfl rfl ?_
  refine r_newa1 (C' := 10) (D' := 26560) (N := 2405) wd_261 dX8_init_8 (by decide) (by decide) (by decide) h (fun x1 τ2 h => ?_)
  refine r_putr fd_X8_17 fp_X8_init_17 dX8_init_10 h (fun τ3 h => ?_)
  refine r_aload_n 0 dX8_init_13 rfl ?_
  refine r_sipush (v := 2405) dX8_init_14 rfl rfl ?_
  refine r_newa1 (C' := 9) (D' := 24155) (N := 2405) wd_261 dX8_init_17 (by decide) (by decide) (by decide) h (fun x4 τ5 h => ?_)
  refine r_putr fd_X8_21 fp_X8_init_21 dX8_init_19 h (fun τ6 h => ?_)
  refine r_aload_n 0 dX8_init_22 rfl ?_
  refine r_aload_n 0 dX8_init_23 rfl ?_
  refine r_getr fd_X8_17 rfl dX8_init_24 h (fun x7 h => ?_)
  refine r_putr fd_X8_24 fp_X8_init_24 dX8_init_27 h (fun τ8 h => ?_)
  refine r_aload_n 0 dX8_init_30 rfl ?_
  refine r_iconst (v := (-1)) dX8_init_31 rfl rfl ?_
  refine r_putf fd_X8_27 fp_X8_init_27 dX8_init_32 h (fun τ9 h => ?_)
  refine r_aload_n 0 dX8_init_35 rfl ?_
  refine r_bipush (v := 36) dX8_init_36 rfl rfl ?_
  refine r_newa1 (C' := 8) (D' := 24119) (N := 36) wd_261 dX8_init_38 (by decide) (by decide) (by decide) h (fun x10 τ11 h => ?_)
  refine r_putr fd_X8_30 fp_X8_init_30 dX8_init_40 h (fun τ12 h => ?_)
  refine r_aload_n 0 dX8_init_43 rfl ?_
  refine r_bipush (v := 36) dX8_init_44 rfl rfl ?_
  refine r_newa3 (C' := 7) (D' := 24083) (N := 36) wd_1540 dX8_init_46 (by decide) (by decide) (by decide) h (fun x13 τ14 h => ?_)
  refine r_putr fd_X8_33 fp_X8_init_33 dX8_init_48 h (fun τ15 h => ?_)
  refine r_aload_n 0 dX8_init_51 rfl ?_
  refine r_sipush (v := 2405) dX8_init_52 rfl rfl ?_
  refine r_newa1 (C' := 6) (D' := 21678) (N := 2405) wd_261 dX8_init_55 (by decide) (by decide) (by decide) h (fun x16 τ17 h => ?_)
  refine r_putr fd_X8_37 fp_X8_init_37 dX8_init_57 h (fun τ18 h => ?_)
  refine r_aload_n 0 dX8_init_60 rfl ?_
  refine r_sipush (v := 600) dX8_init_61 rfl rfl ?_
  refine r_newa2 (C' := 5) (D' := 21078) (N := 600) wd_224 dX8_init_64 (by decide) (by decide) (by decide) h (fun x19 τ20 h => ?_)
  refine r_putr fd_X8_40 fp_X8_init_40 dX8_init_66 h (fun τ21 h => ?_)
  refine r_aload_n 0 dX8_init_69 rfl ?_
  refine r_iconst (v := (-1)) dX8_init_70 rfl rfl ?_
  refine r_putf fd_X8_44 fp_X8_init_44 dX8_init_71 h (fun τ22 h => ?_)
  refine r_aload_n 0 dX8_init_74 rfl ?_
  refine r_bipush (v := 36) dX8_init_75 rfl rfl ?_
  refine r_newa3 (C' := 4) (D' := 21042) (N := 36) wd_1540 dX8_init_77 (by decide) (by decide) (by decide) h (fun x23 τ24 h => ?_)
  refine r_putr fd_X8_47 fp_X8_init_47 dX8_init_79 h (fun τ25 h => ?_)
  refine r_aload_n 0 dX8_init_82 rfl ?_
  refine r_sipush (v := 4810) dX8_init_83 rfl rfl ?_
  refine r_newa1 (C' := 3) (D' := 16232) (N := 4810) wd_261 dX8_init_86 (by decide) (by decide) (by decide) h (fun x26 τ27 h => ?_)
  refine r_putr fd_X8_50 fp_X8_init_50 dX8_init_88 h (fun τ28 h => ?_)
  refine r_aload_n 0 dX8_init_91 rfl ?_
  refine r_iconst (v := 2) dX8_init_92 rfl rfl ?_
  refine r_newa3 (C' := 2) (D' := 16230) (N := 2) wd_1540 dX8_init_93 (by decide) (by decide) (by decide) h (fun x29 τ30 h => ?_)
  refine r_putr fd_X8_53 fp_X8_init_53 dX8_init_95 h (fun τ31 h => ?_)
  refine r_aload_n 0 dX8_init_98 rfl ?_
  refine r_sipush (v := 14430) dX8_init_99 rfl rfl ?_
  refine r_newa1 (C' := 1) (D' := 1800) (N := 14430) wd_261 dX8_init_102 (by decide) (by decide) (by decide) h (fun x32 τ33 h => ?_)
  refine r_putr fd_X8_56 fp_X8_init_56 dX8_init_104 h (fun τ34 h => ?_)
  refine r_aload_n 0 dX8_init_107 rfl ?_
  refine r_sipush (v := 1800) dX8_init_108 rfl rfl ?_
  refine r_newa2 (C' := 0) (D' := 0) (N := 1800) wd_224 dX8_init_111 (by decide) (by decide) (by decide) h (fun x35 τ36 h => ?_)
  refine r_putr fd_X8_59 fp_X8_init_59 dX8_init_113 h (fun τ37 h => ?_)
  refine r_aload_n 0 dX8_init_116 rfl ?_
  refine r_getr fd_X8_17 rfl dX8_init_117 h (fun x38 h => ?_)
  refine r_callS (K' := Y_X8_clear) (R' := R_X8_clear) (idx := 62) (n := 1) (as := [(4, x38)]) (rest := []) (C' := 0) (D' := 0) rfl k0_X8_clear wd_1453 kl_X8_62 ⟨by decide, by decide⟩ dX8_init_120 rfl rfl (Nat.le_of_ble_eq_true rfl) (by decide) (by decide) h (fun r hr => m_X8_clear hl0 ⟨r, hr, hr⟩) (fun _ τ40 _ h => ?_)
  refine r_aload_n 0 dX8_init_123 rfl ?_
  refine r_getr fd_X8_17 rfl dX8_init_124 h (fun x41 h => ?_)
  refine r_iconst (v := 3) dX8_init_127 rfl rfl ?_
  refine r_iconst (v := 1) dX8_init_128 rfl rfl ?_
  refine r_iast dX8_init_129 h (fun τ42 h => ?_)
  refine r_aload_n 0 dX8_init_130 rfl ?_
  refine r_getr fd_X8_17 rfl dX8_init_131 h (fun x43 h => ?_)
  refine r_iconst (v := 4) dX8_init_134 rfl rfl ?_
  refine r_iconst (v := 2) dX8_init_135 rfl rfl ?_
  refine r_iast dX8_init_136 h (fun τ44 h => ?_)
  refine r_aload_n 0 dX8_init_137 rfl ?_
  refine r_getr fd_X8_17 rfl dX8_init_138 h (fun x45 h => ?_)
  refine r_iconst (v := 5) dX8_init_141 rfl rfl ?_
  refine r_iconst (v := 3) dX8_init_142 rfl rfl ?_
  refine r_iast dX8_init_143 h (fun τ46 h => ?_)
  refine r_aload_n 0 dX8_init_144 rfl ?_
  refine r_getr fd_X8_17 rfl dX8_init_145 h (fun x47 h => ?_)
  refine r_bipush (v := 6) dX8_init_148 rfl rfl ?_
  refine r_bipush (v := 50) dX8_init_150 rfl rfl ?_
  refine r_iast dX8_init_152 h (fun τ48 h => ?_)
  refine r_aload_n 0 dX8_init_153 rfl ?_
  refine r_getr fd_X8_17 rfl dX8_init_154 h (fun x49 h => ?_)
  refine r_bipush (v := 7) dX8_init_157 rfl rfl ?_
  refine r_iconst (v := 2) dX8_init_159 rfl rfl ?_
  refine r_iast dX8_init_160 h (fun τ50 h => ?_)
  exact r_vret rfl dX8_init_161 h
theorem m_X8_init {g : zF} (hl0 : g.2.2.2.1.stackTraces = false) {Q : zR × zS → Prop} {a0 : Int} {σ : zS} (h : zo (f_X8_init a0 σ) Q) : zm g Y_X8_init R_X8_init [(4, a0)] σ Q := zm_of (by decide) rfl (Nat.le_of_ble_eq_true rfl) (t_X8_init hl0 h)


/- X8_agents -/

set_option maxRecDepth 100000 in
set_option maxHeartbeats 4000000 in
theorem t_X8_agents {g : zF} (hl0 : g.2.2.2.1.stackTraces = false) {Q : zR × zS → Prop}   {a0 : Int} {σ : zS} (h : zo (f_X8_agents  a0 σ) Q) : zw g Y_X8_agents R_X8_agents 0 [(0, (4, a0))] [] σ 0 0 Q := by
  unfold f_X8_agents at h
  refine r_aload_n 0 dX8_agents_0 rfl ?_
  refine r_getr fd_X8_24 rfl dX8_agents_1 h (fun x1 h => ?_)
  refine r_iconst (v := 0) dX8_agents_4 rfl rfl ?_
  refine r_iald dX8_agents_5 h (fun x2 h => ?_)
  exact r_iret rfl dX8_agents_6 h
theorem m_X8_agents {g : zF} (hl0 : g.2.2.2.1.stackTraces = false) {Q : zR × zS → Prop} {a0 : Int} {σ : zS} (h : zo (f_X8_agents a0 σ) Q) : zm g Y_X8_agents R_X8_agents [(4, a0)] σ Q := zm_of (by decide) rfl (Nat.le_of_ble_eq_true rfl) (t_X8_agents hl0 h)


/- X8_ways -/

set_option maxRecDepth 100000 in
set_option maxHeartbeats 4000000 in
theorem t_X8_ways {g : zF} (hl0 : g.2.2.2.1.stackTraces = false) {Q : zR × zS → Prop}   {a0 : Int} {σ : zS} (h : zo (f_X8_ways  a0 σ) Q) : zw g Y_X8_ways R_X8_ways 0 [(0, (4, a0))] [] σ 0 0 Q := by
  unfold f_X8_ways at h
  refine r_aload_n 0 dX8_ways_0 rfl ?_
  refine r_getr fd_X8_24 rfl dX8_ways_1 h (fun x1 h => ?_)
  refine r_iconst (v := 1) dX8_ways_4 rfl rfl ?_
  refine r_iald dX8_ways_5 h (fun x2 h => ?_)
  exact r_iret rfl dX8_ways_6 h
theorem m_X8_ways {g : zF} (hl0 : g.2.2.2.1.stackTraces = false) {Q : zR × zS → Prop} {a0 : Int} {σ : zS} (h : zo (f_X8_ways a0 σ) Q) : zm g Y_X8_ways R_X8_ways [(4, a0)] σ Q := zm_of (by decide) rfl (Nat.le_of_ble_eq_true rfl) (t_X8_ways hl0 h)


/- X8_rule -/

set_option maxRecDepth 100000 in
set_option maxHeartbeats 4000000 in
theorem t_X8_rule {g : zF} (hl0 : g.2.2.2.1.stackTraces = false) {Q : zR × zS → Prop}   {a0 a1 : Int} {σ : zS} (h : zo (f_X8_rule  a0 a1 σ) Q) : zw g Y_X8_rule R_X8_rule 0 [(0, (4, a0)), (1, (0, a1))] [] σ 0 0 Q := by
  unfold f_X8_rule at h
  refine r_aload_n 0 dX8_rule_0 rfl ?_
  refine r_getr fd_X8_24 rfl dX8_rule_1 h (fun x1 h => ?_)
  refine r_iconst (v := 3) dX8_rule_4 rfl rfl ?_
  refine r_iload_n 1 dX8_rule_5 rfl ?_
  refine r_iadd dX8_rule_6 ?_
  refine r_iald dX8_rule_7 h (fun x2 h => ?_)
  exact r_iret rfl dX8_rule_8 h
theorem m_X8_rule {g : zF} (hl0 : g.2.2.2.1.stackTraces = false) {Q : zR × zS → Prop} {a0 a1 : Int} {σ : zS} (h : zo (f_X8_rule a0 a1 σ) Q) : zm g Y_X8_rule R_X8_rule [(4, a0), (0, a1)] σ Q := zm_of (by decide) rfl (Nat.le_of_ble_eq_true rfl) (t_X8_rule hl0 h)


/- X8_isAgent -/

set_option maxRecDepth 100000 in
set_option maxHeartbeats 4000000 in
theorem t_X8_isAgent {g : zF} (hl0 : g.2.2.2.1.stackTraces = false) {Q : zR × zS → Prop}   {a0 a1 : Int} {σ : zS} (h : zo (f_X8_isAgent  a0 a1 σ) Q) : zw g Y_X8_isAgent R_X8_isAgent 0 [(0, (4, a0)), (1, (0, a1))] [] σ 0 0 Q := by
  unfold f_X8_isAgent at h
  refine r_iload_n 1 dX8_isAgent_0 rfl ?_
  refine r_i2l dX8_isAgent_1 ?_
  refine r_lconst dX8_isAgent_2 ?_
  refine r_aload_n 0 dX8_isAgent_3 rfl ?_
  refine r_callV (K' := Y_X8_agents) (R' := R_X8_agents) (idx := 66) (n := 0) (b := a0) (as := []) (rest := [(1, 0), (1, a1)]) (C' := 0) (D' := 0) (cn := 8) rfl k0_X8_agents kV_X8_agents kl_X8_66 ⟨by decide, by decide⟩ dX8_isAgent_4 rfl rfl (Nat.le_of_ble_eq_true rfl) (by decide) (by decide) rfl h (fun r hr => m_X8_agents hl0 ⟨r, hr, hr⟩) (fun x1 τ2 _ h => ?_)
  refine r_iconst (v := 1) dX8_isAgent_7 rfl rfl ?_
  refine r_isub dX8_isAgent_8 ?_
  refine r_i2l dX8_isAgent_9 ?_
  refine r_callS (K' := Y_X8_in) (R' := R_X8_in) (idx := 70) (n := 3) (as := [(1, a1), (1, 0), (1, (w32 (x1 - 1)))]) (rest := []) (C' := 0) (D' := 0) rfl k0_X8_in wd_1562 kl_X8_70 ⟨by decide, by decide⟩ dX8_isAgent_10 rfl rfl (Nat.le_of_ble_eq_true rfl) (by decide) (by decide) h (fun r hr => m_X8_in hl0 ⟨r, hr, hr⟩) (fun x3 τ4 _ h => ?_)
  exact r_zret rfl dX8_isAgent_13 h
theorem m_X8_isAgent {g : zF} (hl0 : g.2.2.2.1.stackTraces = false) {Q : zR × zS → Prop} {a0 a1 : Int} {σ : zS} (h : zo (f_X8_isAgent a0 a1 σ) Q) : zm g Y_X8_isAgent R_X8_isAgent [(4, a0), (0, a1)] σ Q := zm_of (by decide) rfl (Nat.le_of_ble_eq_true rfl) (t_X8_isAgent hl0 h)


/- X8_isWay -/

set_option maxRecDepth 100000 in
set_option maxHeartbeats 4000000 in
theorem t_X8_isWay {g : zF} (hl0 : g.2.2.2.1.stackTraces = false) {Q : zR × zS → Prop}   {a0 a1 : Int} {σ : zS} (h : zo (f_X8_isWay  a0 a1 σ) Q) : zw g Y_X8_isWay R_X8_isWay 0 [(0, (4, a0)), (1, (0, a1))] [] σ 0 0 Q := by
  unfold f_X8_isWay at h
  refine r_iload_n 1 dX8_isWay_0 rfl ?_
  refine r_i2l dX8_isWay_1 ?_
  refine r_lconst dX8_isWay_2 ?_
  refine r_aload_n 0 dX8_isWay_3 rfl ?_
  refine r_callV (K' := Y_X8_ways) (R' := R_X8_ways) (idx := 74) (n := 0) (b := a0) (as := []) (rest := [(1, 0), (1, a1)]) (C' := 0) (D' := 0) (cn := 8) rfl k0_X8_ways kV_X8_ways kl_X8_74 ⟨by decide, by decide⟩ dX8_isWay_4 rfl rfl (Nat.le_of_ble_eq_true rfl) (by decide) (by decide) rfl h (fun r hr => m_X8_ways hl0 ⟨r, hr, hr⟩) (fun x1 τ2 _ h => ?_)
  refine r_iconst (v := 1) dX8_isWay_7 rfl rfl ?_
  refine r_isub dX8_isWay_8 ?_
  refine r_i2l dX8_isWay_9 ?_
  refine r_callS (K' := Y_X8_in) (R' := R_X8_in) (idx := 70) (n := 3) (as := [(1, a1), (1, 0), (1, (w32 (x1 - 1)))]) (rest := []) (C' := 0) (D' := 0) rfl k0_X8_in wd_1562 kl_X8_70 ⟨by decide, by decide⟩ dX8_isWay_10 rfl rfl (Nat.le_of_ble_eq_true rfl) (by decide) (by decide) h (fun r hr => m_X8_in hl0 ⟨r, hr, hr⟩) (fun x3 τ4 _ h => ?_)
  exact r_zret rfl dX8_isWay_13 h
theorem m_X8_isWay {g : zF} (hl0 : g.2.2.2.1.stackTraces = false) {Q : zR × zS → Prop} {a0 a1 : Int} {σ : zS} (h : zo (f_X8_isWay a0 a1 σ) Q) : zm g Y_X8_isWay R_X8_isWay [(4, a0), (0, a1)] σ Q := zm_of (by decide) rfl (Nat.le_of_ble_eq_true rfl) (t_X8_isWay hl0 h)


/- X8_trustOf -/

set_option maxRecDepth 100000 in
set_option maxHeartbeats 4000000 in
theorem t_X8_trustOf {g : zF} (hl0 : g.2.2.2.1.stackTraces = false) {Q : zR × zS → Prop}   {a0 a1 a2 : Int} {σ : zS} (h : zo (f_X8_trustOf  a0 a1 a2 σ) Q) : zw g Y_X8_trustOf R_X8_trustOf 0 [(0, (4, a0)), (1, (0, a1)), (2, (0, a2))] [] σ 0 0 Q := by
  unfold f_X8_trustOf at h
  refine r_aload_n 0 dX8_trustOf_0 rfl ?_
  refine r_getr fd_X8_24 rfl dX8_trustOf_1 h (fun x1 h => ?_)
  refine r_bipush (v := 21) dX8_trustOf_4 rfl rfl ?_
  refine r_bipush (v := 6) dX8_trustOf_6 rfl rfl ?_
  refine r_iload_n 1 dX8_trustOf_8 rfl ?_
  refine r_imul dX8_trustOf_9 ?_
  refine r_iadd dX8_trustOf_10 ?_
  refine r_iload_n 2 dX8_trustOf_11 rfl ?_
  refine r_iadd dX8_trustOf_12 ?_
  refine r_iald dX8_trustOf_13 h (fun x2 h => ?_)
  exact r_iret rfl dX8_trustOf_14 h
theorem m_X8_trustOf {g : zF} (hl0 : g.2.2.2.1.stackTraces = false) {Q : zR × zS → Prop} {a0 a1 a2 : Int} {σ : zS} (h : zo (f_X8_trustOf a0 a1 a2 σ) Q) : zm g Y_X8_trustOf R_X8_trustOf [(4, a0), (0, a1), (0, a2)] σ Q := zm_of (by decide) rfl (Nat.le_of_ble_eq_true rfl) (t_X8_trustOf hl0 h)


/- X8_putTrust -/

set_option maxRecDepth 100000 in
set_option maxHeartbeats 4000000 in
theorem t_X8_putTrust {g : zF} (hl0 : g.2.2.2.1.stackTraces = false) {Q : zR × zS → Prop}   {a0 a1 a2 a3 : Int} {σ : zS} (h : zo (f_X8_putTrust  a0 a1 a2 a3 σ) Q) : zw g Y_X8_putTrust R_X8_putTrust 0 [(0, (4, a0)), (1, (0, a1)), (2, (0, a2)), (3, (0, a3))] [] σ 0 0 Q := by
  unfold f_X8_putTrust at h
  refine r_aload_n 0 dX8_putTrust_0 rfl ?_
  refine r_getr fd_X8_24 rfl dX8_putTrust_1 h (fun x1 h => ?_)
  refine r_bipush (v := 21) dX8_putTrust_4 rfl rfl ?_
  refine r_bipush (v := 6) dX8_putTrust_6 rfl rfl ?_
  refine r_iload_n 1 dX8_putTrust_8 rfl ?_
  refine r_imul dX8_putTrust_9 ?_
  refine r_iadd dX8_putTrust_10 ?_
  refine r_iload_n 2 dX8_putTrust_11 rfl ?_
  refine r_iadd dX8_putTrust_12 ?_
  refine r_iload_n 3 dX8_putTrust_13 rfl ?_
  refine r_iast dX8_putTrust_14 h (fun τ2 h => ?_)
  exact r_vret rfl dX8_putTrust_15 h
theorem m_X8_putTrust {g : zF} (hl0 : g.2.2.2.1.stackTraces = false) {Q : zR × zS → Prop} {a0 a1 a2 a3 : Int} {σ : zS} (h : zo (f_X8_putTrust a0 a1 a2 a3 σ) Q) : zm g Y_X8_putTrust R_X8_putTrust [(4, a0), (0, a1), (0, a2), (0, a3)] σ Q := zm_of (by decide) rfl (Nat.le_of_ble_eq_true rfl) (t_X8_putTrust hl0 h)


/- X8_areLinked -/

set_option maxRecDepth 100000 in
set_option maxHeartbeats 4000000 in
theorem t_X8_areLinked {g : zF} (hl0 : g.2.2.2.1.stackTraces = false) {Q : zR × zS → Prop}   {a0 a1 a2 : Int} {σ : zS} (h : zo (f_X8_areLinked  a0 a1 a2 σ) Q) : zw g Y_X8_areLinked R_X8_areLinked 0 [(0, (4, a0)), (1, (0, a1)), (2, (0, a2))] [] σ 0 0 Q := by
  unfold f_X8_areLinked at h
  refine r_aload_n 0 dX8_areLinked_0 rfl ?_
  refine r_iload_n 1 dX8_areLinked_1 rfl ?_
  refine r_iload_n 2 dX8_areLinked_2 rfl ?_
  refine r_callV (K' := Y_X8_trustOf) (R' := R_X8_trustOf) (idx := 77) (n := 2) (b := a0) (as := [(0, a1), (0, a2)]) (rest := []) (C' := 0) (D' := 0) (cn := 8) rfl k0_X8_trustOf kV_X8_trustOf kl_X8_77 ⟨by decide, by decide⟩ dX8_areLinked_3 rfl rfl (Nat.le_of_ble_eq_true rfl) (by decide) (by decide) rfl h (fun r hr => m_X8_trustOf hl0 ⟨r, hr, hr⟩) (fun x1 τ2 _ h => ?_)
  refine r_iconst (v := (-1)) dX8_areLinked_6 rfl rfl ?_
  refine r_icmp_eq 14 dX8_areLinked_7 (by decide) h (fun h => ?_) (fun h => ?_)
  · refine r_iconst (v := 0) dX8_areLinked_14 rfl rfl ?_
    exact r_zretc (by decide) rfl dX8_areLinked_15 h
  · refine r_iconst (v := 1) dX8_areLinked_10 rfl rfl ?_
    refine r_goto 15 dX8_areLinked_11 (by decide) ?_
    exact r_zretc (by decide) rfl dX8_areLinked_15 h
theorem m_X8_areLinked {g : zF} (hl0 : g.2.2.2.1.stackTraces = false) {Q : zR × zS → Prop} {a0 a1 a2 : Int} {σ : zS} (h : zo (f_X8_areLinked a0 a1 a2 σ) Q) : zm g Y_X8_areLinked R_X8_areLinked [(4, a0), (0, a1), (0, a2)] σ Q := zm_of (by decide) rfl (Nat.le_of_ble_eq_true rfl) (t_X8_areLinked hl0 h)


/- X8_listAt -/

set_option maxRecDepth 100000 in
set_option maxHeartbeats 4000000 in
theorem t_X8_listAt {g : zF} (hl0 : g.2.2.2.1.stackTraces = false) {Q : zR × zS → Prop}   {a0 : Int} {σ : zS} (h : zo (f_X8_listAt  a0 σ) Q) : zw g Y_X8_listAt R_X8_listAt 0 [(0, (0, a0))] [] σ 0 0 Q := by
  unfold f_X8_listAt at h
  refine r_bipush (v := 87) dX8_listAt_0 rfl rfl ?_
  refine r_sipush (v := 253) dX8_listAt_2 rfl rfl ?_
  refine r_iload_n 0 dX8_listAt_5 rfl ?_
  refine r_imul dX8_listAt_6 ?_
  refine r_iadd dX8_listAt_7 ?_
  exact r_iret rfl dX8_listAt_8 h
theorem m_X8_listAt {g : zF} (hl0 : g.2.2.2.1.stackTraces = false) {Q : zR × zS → Prop} {a0 : Int} {σ : zS} (h : zo (f_X8_listAt a0 σ) Q) : zm g Y_X8_listAt R_X8_listAt [(0, a0)] σ Q := zm_of (by decide) rfl (Nat.le_of_ble_eq_true rfl) (t_X8_listAt hl0 h)


/- X8_manyOf -/

set_option maxRecDepth 100000 in
set_option maxHeartbeats 4000000 in
theorem t_X8_manyOf {g : zF} (hl0 : g.2.2.2.1.stackTraces = false) {Q : zR × zS → Prop}   {a0 a1 : Int} {σ : zS} (h : zo (f_X8_manyOf  a0 a1 σ) Q) : zw g Y_X8_manyOf R_X8_manyOf 0 [(0, (4, a0)), (1, (0, a1))] [] σ 0 0 Q := by
  unfold f_X8_manyOf at h
  refine r_aload_n 0 dX8_manyOf_0 rfl ?_
  refine r_getr fd_X8_24 rfl dX8_manyOf_1 h (fun x1 h => ?_)
  refine r_iload_n 1 dX8_manyOf_4 rfl ?_
  refine r_callS (K' := Y_X8_listAt) (R' := R_X8_listAt) (idx := 81) (n := 1) (as := [(0, a1)]) (rest := [(4, x1)]) (C' := 0) (D' := 0) rfl k0_X8_listAt wd_1690 kl_X8_81 ⟨by decide, by decide⟩ dX8_manyOf_5 rfl rfl (Nat.le_of_ble_eq_true rfl) (by decide) (by decide) h (fun r hr => m_X8_listAt hl0 ⟨r, hr, hr⟩) (fun x2 τ3 _ h => ?_)
  refine r_iald dX8_manyOf_8 h (fun x4 h => ?_)
  exact r_iret rfl dX8_manyOf_9 h
theorem m_X8_manyOf {g : zF} (hl0 : g.2.2.2.1.stackTraces = false) {Q : zR × zS → Prop} {a0 a1 : Int} {σ : zS} (h : zo (f_X8_manyOf a0 a1 σ) Q) : zm g Y_X8_manyOf R_X8_manyOf [(4, a0), (0, a1)] σ Q := zm_of (by decide) rfl (Nat.le_of_ble_eq_true rfl) (t_X8_manyOf hl0 h)


/- X8_reportAt -/

set_option maxRecDepth 100000 in
set_option maxHeartbeats 4000000 in
theorem t_X8_reportAt {g : zF} (hl0 : g.2.2.2.1.stackTraces = false) {Q : zR × zS → Prop}   {a0 a1 : Int} {σ : zS} (h : zo (f_X8_reportAt  a0 a1 σ) Q) : zw g Y_X8_reportAt R_X8_reportAt 0 [(0, (0, a0)), (1, (0, a1))] [] σ 0 0 Q := by
  unfold f_X8_reportAt at h
  refine r_iload_n 0 dX8_reportAt_0 rfl ?_
  refine r_callS (K' := Y_X8_listAt) (R' := R_X8_listAt) (idx := 81) (n := 1) (as := [(0, a0)]) (rest := []) (C' := 0) (D' := 0) rfl k0_X8_listAt wd_1690 kl_X8_81 ⟨by decide, by decide⟩ dX8_reportAt_1 rfl rfl (Nat.le_of_ble_eq_true rfl) (by decide) (by decide) h (fun r hr => m_X8_listAt hl0 ⟨r, hr, hr⟩) (fun x1 τ2 _ h => ?_)
  refine r_iconst (v := 1) dX8_reportAt_4 rfl rfl ?_
  refine r_iadd dX8_reportAt_5 ?_
  refine r_bipush (v := 7) dX8_reportAt_6 rfl rfl ?_
  refine r_iload_n 1 dX8_reportAt_8 rfl ?_
  refine r_imul dX8_reportAt_9 ?_
  refine r_iadd dX8_reportAt_10 ?_
  exact r_iret rfl dX8_reportAt_11 h
theorem m_X8_reportAt {g : zF} (hl0 : g.2.2.2.1.stackTraces = false) {Q : zR × zS → Prop} {a0 a1 : Int} {σ : zS} (h : zo (f_X8_reportAt a0 a1 σ) Q) : zm g Y_X8_reportAt R_X8_reportAt [(0, a0), (0, a1)] σ Q := zm_of (by decide) rfl (Nat.le_of_ble_eq_true rfl) (t_X8_reportAt hl0 h)


/- X8_ofReport -/

set_option maxRecDepth 100000 in
set_option maxHeartbeats 4000000 in
theorem t_X8_ofReport {g : zF} (hl0 : g.2.2.2.1.stackTraces = false) {Q : zR × zS → Prop}   {a0 a1 a2 a3 : Int} {σ : zS} (h : zo (f_X8_ofReport  a0 a1 a2 a3 σ) Q) : zw g Y_X8_ofReport R_X8_ofReport 0 [(0, (4, a0)), (1, (0, a1)), (2, (0, a2)), (3, (0, a3))] [] σ 0 0 Q := by
  unfold f_X8_ofReport at h
  refine r_aload_n 0 dX8_ofReport_0 rfl ?_
  refine r_getr fd_X8_24 rfl dX8_ofReport_1 h (fun x1 h => ?_)
  refine r_iload_n 1 dX8_ofReport_4 rfl ?_
  refine r_iload_n 2 dX8_ofReport_5 rfl ?_
  refine r_callS (K' := Y_X8_reportAt) (R' := R_X8_reportAt) (idx := 85) (n := 2) (as := [(0, a1), (0, a2)]) (rest := [(4, x1)]) (C' := 0) (D' := 0) rfl k0_X8_reportAt wd_1697 kl_X8_85 ⟨by decide, by decide⟩ dX8_ofReport_6 rfl rfl (Nat.le_of_ble_eq_true rfl) (by decide) (by decide) h (fun r hr => m_X8_reportAt hl0 ⟨r, hr, hr⟩) (fun x2 τ3 _ h => ?_)
  refine r_iload_n 3 dX8_ofReport_9 rfl ?_
  refine r_iadd dX8_ofReport_10 ?_
  refine r_iald dX8_ofReport_11 h (fun x4 h => ?_)
  exact r_iret rfl dX8_ofReport_12 h
theorem m_X8_ofReport {g : zF} (hl0 : g.2.2.2.1.stackTraces = false) {Q : zR × zS → Prop} {a0 a1 a2 a3 : Int} {σ : zS} (h : zo (f_X8_ofReport a0 a1 a2 a3 σ) Q) : zm g Y_X8_ofReport R_X8_ofReport [(4, a0), (0, a1), (0, a2), (0, a3)] σ Q := zm_of (by decide) rfl (Nat.le_of_ble_eq_true rfl) (t_X8_ofReport hl0 h)


/- X8_isReport -/

set_option maxRecDepth 100000 in
set_option maxHeartbeats 4000000 in
theorem t_X8_isReport {g : zF} (hl0 : g.2.2.2.1.stackTraces = false) {Q : zR × zS → Prop}   {a0 a1 a2 : Int} {σ : zS} (h : zo (f_X8_isReport  a0 a1 a2 σ) Q) : zw g Y_X8_isReport R_X8_isReport 0 [(0, (4, a0)), (1, (0, a1)), (2, (0, a2))] [] σ 0 0 Q := by
  unfold f_X8_isReport at h
  refine r_aload_n 0 dX8_isReport_0 rfl ?_
  refine r_iload_n 1 dX8_isReport_1 rfl ?_
  refine r_callV (K' := Y_X8_isAgent) (R' := R_X8_isAgent) (idx := 88) (n := 1) (b := a0) (as := [(0, a1)]) (rest := []) (C' := 0) (D' := 0) (cn := 8) rfl k0_X8_isAgent kV_X8_isAgent kl_X8_88 ⟨by decide, by decide⟩ dX8_isReport_2 rfl rfl (Nat.le_of_ble_eq_true rfl) (by decide) (by decide) rfl h (fun r hr => m_X8_isAgent hl0 ⟨r, hr, hr⟩) (fun x1 τ2 _ h => ?_)
  refine r_if_eq 29 dX8_isReport_5 (by decide) h (fun h => ?_) (fun h => ?_)
  · refine r_iconst (v := 0) dX8_isReport_29 rfl rfl ?_
    exact r_zretc (by decide) rfl dX8_isReport_30 h
  · refine r_iload_n 2 dX8_isReport_8 rfl ?_
    refine r_i2l dX8_isReport_9 ?_
    refine r_lconst dX8_isReport_10 ?_
    refine r_aload_n 0 dX8_isReport_11 rfl ?_
    refine r_iload_n 1 dX8_isReport_12 rfl ?_
    refine r_callV (K' := Y_X8_manyOf) (R' := R_X8_manyOf) (idx := 92) (n := 1) (b := a0) (as := [(0, a1)]) (rest := [(1, 0), (1, a2)]) (C' := 0) (D' := 0) (cn := 8) rfl k0_X8_manyOf kV_X8_manyOf kl_X8_92 ⟨by decide, by decide⟩ dX8_isReport_13 rfl rfl (Nat.le_of_ble_eq_true rfl) (by decide) (by decide) rfl h (fun r hr => m_X8_manyOf hl0 ⟨r, hr, hr⟩) (fun x3 τ4 _ h => ?_)
    refine r_iconst (v := 1) dX8_isReport_16 rfl rfl ?_
    refine r_isub dX8_isReport_17 ?_
    refine r_i2l dX8_isReport_18 ?_
    refine r_callS (K' := Y_X8_in) (R' := R_X8_in) (idx := 70) (n := 3) (as := [(1, a2), (1, 0), (1, (w32 (x3 - 1)))]) (rest := []) (C' := 0) (D' := 0) rfl k0_X8_in wd_1562 kl_X8_70 ⟨by decide, by decide⟩ dX8_isReport_19 rfl rfl (Nat.le_of_ble_eq_true rfl) (by decide) (by decide) h (fun r hr => m_X8_in hl0 ⟨r, hr, hr⟩) (fun x5 τ6 _ h => ?_)
    refine r_if_eq 29 dX8_isReport_22 (by decide) h (fun h => ?_) (fun h => ?_)
    · refine r_iconst (v := 0) dX8_isReport_29 rfl rfl ?_
      exact r_zretc (by decide) rfl dX8_isReport_30 h
    · refine r_iconst (v := 1) dX8_isReport_25 rfl rfl ?_
      refine r_goto 30 dX8_isReport_26 (by decide) ?_
      exact r_zretc (by decide) rfl dX8_isReport_30 h
theorem m_X8_isReport {g : zF} (hl0 : g.2.2.2.1.stackTraces = false) {Q : zR × zS → Prop} {a0 a1 a2 : Int} {σ : zS} (h : zo (f_X8_isReport a0 a1 a2 σ) Q) : zm g Y_X8_isReport R_X8_isReport [(4, a0), (0, a1), (0, a2)] σ Q := zm_of (by decide) rfl (Nat.le_of_ble_eq_true rfl) (t_X8_isReport hl0 h)


/- X8_count -/

set_option maxRecDepth 100000 in
set_option maxHeartbeats 4000000 in
theorem t_X8_count {g : zF} (hl0 : g.2.2.2.1.stackTraces = false) {Q : zR × zS → Prop}   {a0 a1 a2 : Int} {σ : zS} (h : zo (f_X8_count  a0 a1 a2 σ) Q) : zw g Y_X8_count R_X8_count 0 [(0, (4, a0)), (1, (0, a1)), (2, (0, a2))] [] σ 0 0 Q := by
  unfold f_X8_count at h
  refine r_aload_n 0 dX8_count_0 rfl ?_
  refine r_getr fd_X8_24 rfl dX8_count_1 h (fun x1 h => ?_)
  refine r_bipush (v := 57) dX8_count_4 rfl rfl ?_
  refine r_iconst (v := 5) dX8_count_6 rfl rfl ?_
  refine r_iload_n 1 dX8_count_7 rfl ?_
  refine r_imul dX8_count_8 ?_
  refine r_iadd dX8_count_9 ?_
  refine r_iload_n 2 dX8_count_10 rfl ?_
  refine r_iadd dX8_count_11 ?_
  refine r_dup2 dX8_count_12 rfl rfl ?_
  refine r_iald dX8_count_13 h (fun x2 h => ?_)
  refine r_iconst (v := 1) dX8_count_14 rfl rfl ?_
  refine r_iadd dX8_count_15 ?_
  refine r_iast dX8_count_16 h (fun τ3 h => ?_)
  exact r_vret rfl dX8_count_17 h
theorem m_X8_count {g : zF} (hl0 : g.2.2.2.1.stackTraces = false) {Q : zR × zS → Prop} {a0 a1 a2 : Int} {σ : zS} (h : zo (f_X8_count a0 a1 a2 σ) Q) : zm g Y_X8_count R_X8_count [(4, a0), (0, a1), (0, a2)] σ Q := zm_of (by decide) rfl (Nat.le_of_ble_eq_true rfl) (t_X8_count hl0 h)


/- X8_reportOf -/

set_option maxRecDepth 100000 in
set_option maxHeartbeats 4000000 in
theorem t_X8_reportOf_40 {g : zF} (hl0 : g.2.2.2.1.stackTraces = false) {Q : zR × zS → Prop} (r3 : Int → Int → Int → Int → Int → zS → zFn) (hr3 : ∀ b0 b1 b2 b3 b4 τ, zo (r3 b0 b1 b2 b3 b4 τ) Q → zw g Y_X8_reportOf R_X8_reportOf 3 [(0, (4, b0)), (1, (0, b1)), (2, (0, b2)), (3, (0, b3)), (4, (0, b4))] [] τ 0 0 Q) {a0 a1 a2 a3 a4 : Int} {σ : zS} (h : zo (f_X8_reportOf_40 r3 a0 a1 a2 a3 a4 σ) Q) : zw g Y_X8_reportOf R_X8_reportOf 40 [(0, (4, a0)), (1, (0, a1)), (2, (0, a2)), (3, (0, a3)), (4, (0, a4))] [] σ 0 0 Q := by
  unfold f_X8_reportOf_40 at h
  refine r_iinc (L' := [(4, (0, (w32 (a4 + 1)))), (0, (4, a0)), (1, (0, a1)), (2, (0, a2)), (3, (0, a3))]) 4 dX8_reportOf_40 rfl (by decide) rfl ?_
  refine r_goto 3 dX8_reportOf_43 (by decide) ?_
  refine r_weak (L' := [(0, (4, a0)), (1, (0, a1)), (2, (0, a2)), (3, (0, a3)), (4, (0, (w32 (a4 + 1))))]) [1, 2, 3, 4, 0] rfl ?_
  exact hr3 _ _ _ _ _ _ h

set_option maxRecDepth 100000 in
set_option maxHeartbeats 4000000 in
theorem t_X8_reportOf_3 {g : zF} (hl0 : g.2.2.2.1.stackTraces = false) {Q : zR × zS → Prop}   : ∀ (n : Nat) (a0 a1 a2 a3 a4 : Int) (σ : zS), zo (f_X8_reportOf_3  n a0 a1 a2 a3 a4 σ) Q → zw g Y_X8_reportOf R_X8_reportOf 3 [(0, (4, a0)), (1, (0, a1)), (2, (0, a2)), (3, (0, a3)), (4, (0, a4))] [] σ 0 0 Q := by
  intro n
  induction n with
  | zero => intro a0 a1 a2 a3 a4 σ h; obtain ⟨r, h, -⟩ := h; cases h
  | succ n ih =>
    intro a0 a1 a2 a3 a4 σ h
    unfold f_X8_reportOf_3 at h
    refine r_iload 4 dX8_reportOf_3 rfl ?_
    refine r_aload_n 0 dX8_reportOf_5 rfl ?_
    refine r_iload_n 1 dX8_reportOf_6 rfl ?_
    refine r_callV (K' := Y_X8_manyOf) (R' := R_X8_manyOf) (idx := 92) (n := 1) (b := a0) (as := [(0, a1)]) (rest := [(0, a4)]) (C' := 0) (D' := 0) (cn := 8) rfl k0_X8_manyOf kV_X8_manyOf kl_X8_92 ⟨by decide, by decide⟩ dX8_reportOf_7 rfl rfl (Nat.le_of_ble_eq_true rfl) (by decide) (by decide) rfl h (fun r hr => m_X8_manyOf hl0 ⟨r, hr, hr⟩) (fun x1 τ2 _ h => ?_)
    refine r_icmp_ge 46 dX8_reportOf_10 (by decide) h (fun h => ?_) (fun h => ?_)
    · refine r_iconst (v := (-1)) dX8_reportOf_46 rfl rfl ?_
      exact r_iret rfl dX8_reportOf_47 h
    · refine r_aload_n 0 dX8_reportOf_13 rfl ?_
      refine r_iload_n 1 dX8_reportOf_14 rfl ?_
      refine r_iload 4 dX8_reportOf_15 rfl ?_
      refine r_iconst (v := 0) dX8_reportOf_17 rfl rfl ?_
      refine r_callV (K' := Y_X8_ofReport) (R' := R_X8_ofReport) (idx := 95) (n := 3) (b := a0) (as := [(0, a1), (0, a4), (0, 0)]) (rest := []) (C' := 0) (D' := 0) (cn := 8) rfl k0_X8_ofReport kV_X8_ofReport kl_X8_95 ⟨by decide, by decide⟩ dX8_reportOf_18 rfl rfl (Nat.le_of_ble_eq_true rfl) (by decide) (by decide) rfl h (fun r hr => m_X8_ofReport hl0 ⟨r, hr, hr⟩) (fun x3 τ4 _ h => ?_)
      refine r_iload_n 2 dX8_reportOf_21 rfl ?_
      refine r_icmp_ne 40 dX8_reportOf_22 (by decide) h (fun h => ?_) (fun h => ?_)
      · exact t_X8_reportOf_40 hl0 (f_X8_reportOf_3  n) (fun b0 b1 b2 b3 b4 τ h => ih b0 b1 b2 b3 b4 τ h) h
      · refine r_aload_n 0 dX8_reportOf_25 rfl ?_
        refine r_iload_n 1 dX8_reportOf_26 rfl ?_
        refine r_iload 4 dX8_reportOf_27 rfl ?_
        refine r_iconst (v := 3) dX8_reportOf_29 rfl rfl ?_
        refine r_callV (K' := Y_X8_ofReport) (R' := R_X8_ofReport) (idx := 95) (n := 3) (b := a0) (as := [(0, a1), (0, a4), (0, 3)]) (rest := []) (C' := 0) (D' := 0) (cn := 8) rfl k0_X8_ofReport kV_X8_ofReport kl_X8_95 ⟨by decide, by decide⟩ dX8_reportOf_30 rfl rfl (Nat.le_of_ble_eq_true rfl) (by decide) (by decide) rfl h (fun r hr => m_X8_ofReport hl0 ⟨r, hr, hr⟩) (fun x5 τ6 _ h => ?_)
        refine r_iload_n 3 dX8_reportOf_33 rfl ?_
        refine r_icmp_ne 40 dX8_reportOf_34 (by decide) h (fun h => ?_) (fun h => ?_)
        · exact t_X8_reportOf_40 hl0 (f_X8_reportOf_3  n) (fun b0 b1 b2 b3 b4 τ h => ih b0 b1 b2 b3 b4 τ h) h
        · refine r_iload 4 dX8_reportOf_37 rfl ?_
          exact r_iret rfl dX8_reportOf_39 h

set_option maxRecDepth 100000 in
set_option maxHeartbeats 4000000 in
theorem t_X8_reportOf {g : zF} (hl0 : g.2.2.2.1.stackTraces = false) {Q : zR × zS → Prop}   {a0 a1 a2 a3 : Int} {σ : zS} (h : zo (f_X8_reportOf  a0 a1 a2 a3 σ) Q) : zw g Y_X8_reportOf R_X8_reportOf 0 [(0, (4, a0)), (1, (0, a1)), (2, (0, a2)), (3, (0, a3))] [] σ 0 0 Q := by
  unfold f_X8_reportOf at h
  refine r_iconst (v := 0) dX8_reportOf_0 rfl rfl ?_
  refine r_istore (L' := [(4, (0, 0)), (0, (4, a0)), (1, (0, a1)), (2, (0, a2)), (3, (0, a3))]) dX8_reportOf_1 (by decide) rfl ?_
  refine r_weak (L' := [(0, (4, a0)), (1, (0, a1)), (2, (0, a2)), (3, (0, a3)), (4, (0, 0))]) [1, 2, 3, 4, 0] rfl ?_
  exact t_X8_reportOf_3 hl0   zFU _ _ _ _ _ _ h
theorem m_X8_reportOf {g : zF} (hl0 : g.2.2.2.1.stackTraces = false) {Q : zR × zS → Prop} {a0 a1 a2 a3 : Int} {σ : zS} (h : zo (f_X8_reportOf a0 a1 a2 a3 σ) Q) : zm g Y_X8_reportOf R_X8_reportOf [(4, a0), (0, a1), (0, a2), (0, a3)] σ Q := zm_of (by decide) rfl (Nat.le_of_ble_eq_true rfl) (t_X8_reportOf hl0 h)

