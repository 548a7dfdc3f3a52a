/- L_holds -/

set_option maxRecDepth 100000 in
set_option maxHeartbeats 4000000 in
theorem t_L_holds_55 {g : zF} (hl0 : g.2.2.2.1.stackTraces = false) {Q : zR × zS → Prop}   {a0 : Int} {σ : zS} (h : zo (f_L_holds_55  a0 σ) Q) : zw g Y_L_holds R_L_holds 55 [(0, (4, a0))] [] σ 0 0 Q := by
  unfold f_L_holds_55 at h
  refine r_aload_n 0 dL_holds_55 rfl ?_
  refine r_callS (K' := Y_L_commons) (R' := R_L_commons) (idx := 252) (n := 1) (as := [(4, a0)]) (rest := []) (C' := 0) (D' := 0) rfl k0_L_commons wd_1292 kl_L_252 ⟨by decide, by decide⟩ dL_holds_56 rfl rfl (Nat.le_of_ble_eq_true rfl) (by decide) (by decide) h (fun r hr => m_L_commons hl0 ⟨r, hr, hr⟩) (fun x1 τ2 _ h => ?_)
  exact r_zret rfl dL_holds_59 h

set_option maxRecDepth 100000 in
set_option maxHeartbeats 4000000 in
theorem t_L_holds_39 {g : zF} (hl0 : g.2.2.2.1.stackTraces = false) {Q : zR × zS → Prop} (r2 : Int → Int → zS → zFn) {C2 D2 : Nat} (hr2 : ∀ b0 b1 τ, zo (r2 b0 b1 τ) Q → zw g Y_L_holds R_L_holds 2 [(0, (4, b0)), (1, (0, b1))] [] τ C2 D2 Q) {a0 a1 : Int} {σ : zS} (h : zo (f_L_holds_39 r2 a0 a1 σ) Q) : zw g Y_L_holds R_L_holds 39 [(0, (4, a0)), (1, (0, a1))] [] σ (1 + C2) (3 + D2) Q := by
  unfold f_L_holds_39 at h
  refine r_aload_n 0 dL_holds_39 rfl ?_
  refine r_iload_n 1 dL_holds_40 rfl ?_
  refine r_callS (K' := Y_L_chooses) (R' := R_L_chooses) (idx := 248) (n := 2) (as := [(4, a0), (0, a1)]) (rest := []) (C' := C2) (D' := D2) rfl k0_L_chooses wd_1248 kl_L_248 ⟨by decide, by decide⟩ dL_holds_41 rfl rfl (Nat.le_of_ble_eq_true rfl) (by have e : R_L_chooses.cells = 1 := rfl; omega) (by have e : R_L_chooses.slots = 3 := rfl; omega) h (fun r hr => m_L_chooses hl0 ⟨r, hr, hr⟩) (fun x1 τ2 _ h => ?_)
  refine r_if_ne 49 dL_holds_44 (by decide) h (fun h => ?_) (fun h => ?_)
  · refine r_iinc (L' := [(1, (0, (w32 (a1 + 1)))), (0, (4, a0))]) 1 dL_holds_49 rfl (by decide) rfl ?_
    refine r_goto 2 dL_holds_52 (by decide) ?_
    refine r_weak (L' := [(0, (4, a0)), (1, (0, (w32 (a1 + 1))))]) [1, 0] rfl ?_
    refine r_room (C' := C2) (D' := D2) (by omega) (by omega) ?_
    exact hr2 _ _ _ h
  · refine r_room (C' := 0) (D' := 0) (by omega) (by omega) ?_
    refine r_iconst (v := 0) dL_holds_47 rfl rfl ?_
    exact r_zretc (by decide) rfl dL_holds_48 h

set_option maxRecDepth 100000 in
set_option maxHeartbeats 4000000 in
theorem t_L_holds_13 {g : zF} (hl0 : g.2.2.2.1.stackTraces = false) {Q : zR × zS → Prop} (r2 : Int → Int → zS → zFn) {C2 D2 : Nat} (hr2 : ∀ b0 b1 τ, zo (r2 b0 b1 τ) Q → zw g Y_L_holds R_L_holds 2 [(0, (4, b0)), (1, (0, b1))] [] τ C2 D2 Q) : ∀ (n : Nat) (a0 a1 a2 : Int) (σ : zS), zo (f_L_holds_13 r2 n a0 a1 a2 σ) Q → zw g Y_L_holds R_L_holds 13 [(0, (4, a0)), (1, (0, a1)), (2, (0, a2))] [] σ (C2 + n * 2) (D2 + n * 42) Q := by
  intro n
  induction n with
  | zero => intro a0 a1 a2 σ h; obtain ⟨r, h, -⟩ := h; cases h
  | succ n ih =>
    intro a0 a1 a2 σ h
    unfold f_L_holds_13 at h
    refine r_room (C' := (2 + C2 + n * 2)) (D' := (42 + D2 + n * 42)) (by omega) (by omega) ?_
    refine r_iload_n 2 dL_holds_13 rfl ?_
    refine r_aload_n 0 dL_holds_14 rfl ?_
    refine r_iconst (v := 1) dL_holds_15 rfl rfl ?_
    refine r_callV (K' := Y_X7_property) (R' := R_X7_property) (idx := 104) (n := 1) (b := a0) (as := [(0, 1)]) (rest := [(0, a2)]) (C' := (2 + C2 + n * 2)) (D' := (42 + D2 + n * 42)) (cn := 7) rfl k0_X7_property kV_X7_property kl_L_104 ⟨by decide, by decide⟩ dL_holds_16 rfl rfl (Nat.le_of_ble_eq_true rfl) (by have e : R_X7_property.cells = 0 := rfl; omega) (by have e : R_X7_property.slots = 0 := rfl; omega) rfl h (fun r hr => m_X7_property hl0 ⟨r, hr, hr⟩) (fun x1 τ2 _ h => ?_)
    refine r_icmp_ge 39 dL_holds_19 (by decide) h (fun h => ?_) (fun h => ?_)
    · refine r_room (C' := (1 + C2)) (D' := (3 + D2)) (by omega) (by omega) ?_
      refine r_weak (L' := [(0, (4, a0)), (1, (0, a1))]) [0, 1] rfl ?_
      refine r_room (C' := (1 + C2)) (D' := (3 + D2)) (by omega) (by omega) ?_
      exact t_L_holds_39 hl0 (C2 := C2) (D2 := D2) r2 hr2 h
    · refine r_aload_n 0 dL_holds_22 rfl ?_
      refine r_iload_n 1 dL_holds_23 rfl ?_
      refine r_iload_n 2 dL_holds_24 rfl ?_
      refine r_callS (K' := Y_L_believes) (R' := R_L_believes) (idx := 245) (n := 3) (as := [(4, a0), (0, a1), (0, a2)]) (rest := []) (C' := (C2 + n * 2)) (D' := (D2 + n * 42)) rfl k0_L_believes wd_1137 kl_L_245 ⟨by decide, by decide⟩ dL_holds_25 rfl rfl (Nat.le_of_ble_eq_true rfl) (by have e : R_L_believes.cells = 2 := rfl; omega) (by have e : R_L_believes.slots = 42 := rfl; omega) h (fun r hr => m_L_believes hl0 ⟨r, hr, hr⟩) (fun x3 τ4 _ h => ?_)
      refine r_if_ne 33 dL_holds_28 (by decide) h (fun h => ?_) (fun h => ?_)
      · refine r_iinc (L' := [(2, (0, (w32 (a2 + 1)))), (0, (4, a0)), (1, (0, a1))]) 2 dL_holds_33 rfl (by decide) rfl ?_
        refine r_goto 13 dL_holds_36 (by decide) ?_
        refine r_weak (L' := [(0, (4, a0)), (1, (0, a1)), (2, (0, (w32 (a2 + 1))))]) [1, 2, 0] rfl ?_
        refine r_room (C' := (C2 + n * 2)) (D' := (D2 + n * 42)) (by omega) (by omega) ?_
        exact ih _ _ _ _ h
      · refine r_room (C' := 0) (D' := 0) (by omega) (by omega) ?_
        refine r_iconst (v := 0) dL_holds_31 rfl rfl ?_
        exact r_zretc (by decide) rfl dL_holds_32 h

set_option maxRecDepth 100000 in
set_option maxHeartbeats 4000000 in
theorem t_L_holds_2 {g : zF} (hl0 : g.2.2.2.1.stackTraces = false) {Q : zR × zS → Prop}   : ∀ (n : Nat) (a0 a1 : Int) (σ : zS), zo (f_L_holds_2  n a0 a1 σ) Q → zw g Y_L_holds R_L_holds 2 [(0, (4, a0)), (1, (0, a1))] [] σ (n * 15) (n * 297) Q := by
  intro n
  induction n with
  | zero => intro a0 a1 σ h; obtain ⟨r, h, -⟩ := h; cases h
  | succ n ih =>
    intro a0 a1 σ h
    unfold f_L_holds_2 at h
    refine r_room (C' := (14 + n * 15)) (D' := (294 + n * 297)) (by omega) (by omega) ?_
    refine r_iload_n 1 dL_holds_2 rfl ?_
    refine r_aload_n 0 dL_holds_3 rfl ?_
    refine r_iconst (v := 0) dL_holds_4 rfl rfl ?_
    refine r_callV (K' := Y_X7_property) (R' := R_X7_property) (idx := 104) (n := 1) (b := a0) (as := [(0, 0)]) (rest := [(0, a1)]) (C' := (14 + n * 15)) (D' := (294 + n * 297)) (cn := 7) rfl k0_X7_property kV_X7_property kl_L_104 ⟨by decide, by decide⟩ dL_holds_5 rfl rfl (Nat.le_of_ble_eq_true rfl) (by have e : R_X7_property.cells = 0 := rfl; omega) (by have e : R_X7_property.slots = 0 := rfl; omega) rfl h (fun r hr => m_X7_property hl0 ⟨r, hr, hr⟩) (fun x1 τ2 _ h => ?_)
    refine r_icmp_ge 55 dL_holds_8 (by decide) h (fun h => ?_) (fun h => ?_)
    · refine r_room (C' := 0) (D' := 0) (by omega) (by omega) ?_
      refine r_weak (L' := [(0, (4, a0))]) [0] rfl ?_
      refine r_room (C' := 0) (D' := 0) (by omega) (by omega) ?_
      exact t_L_holds_55 hl0    h
    · refine r_iconst (v := 0) dL_holds_11 rfl rfl ?_
      refine r_istore_n (L' := [(2, (0, 0)), (0, (4, a0)), (1, (0, a1))]) dL_holds_12 (by decide) rfl ?_
      refine r_weak (L' := [(0, (4, a0)), (1, (0, a1)), (2, (0, 0))]) [1, 2, 0] rfl ?_
      refine r_room (C' := ((n * 15) + 7 * 2)) (D' := ((n * 297) + 7 * 42)) (by omega) (by omega) ?_
      exact t_L_holds_13 hl0 (C2 := (n * 15)) (D2 := (n * 297)) (f_L_holds_2  n) (fun b0 b1 τ h => ih b0 b1 τ h) 7 _ _ _ _ h

set_option maxRecDepth 100000 in
set_option maxHeartbeats 4000000 in
theorem t_L_holds {g : zF} (hl0 : g.2.2.2.1.stackTraces = false) {Q : zR × zS → Prop}   {a0 : Int} {σ : zS} (h : zo (f_L_holds  a0 σ) Q) : zw g Y_L_holds R_L_holds 0 [(0, (4, a0))] [] σ 105 2079 Q := by
  unfold f_L_holds at h
  refine r_iconst (v := 0) dL_holds_0 rfl rfl ?_
  refine r_istore_n (L' := [(1, (0, 0)), (0, (4, a0))]) dL_holds_1 (by decide) rfl ?_
  refine r_weak (L' := [(0, (4, a0)), (1, (0, 0))]) [1, 0] rfl ?_
  refine r_room (C' := (7 * 15)) (D' := (7 * 297)) (by omega) (by omega) ?_
  exact t_L_holds_2 hl0    7 _ _ _ h
theorem m_L_holds {g : zF} (hl0 : g.2.2.2.1.stackTraces = false) {Q : zR × zS → Prop} {a0 : Int} {σ : zS} (h : zo (f_L_holds a0 σ) Q) : zm g Y_L_holds R_L_holds [(4, a0)] σ Q := zm_of (by decide) rfl (Nat.le_of_ble_eq_true rfl) (t_L_holds hl0 h)


/- L_law -/

set_option maxRecDepth 100000 in
set_option maxHeartbeats 4000000 in
theorem t_L_law_28 {g : zF} (hl0 : g.2.2.2.1.stackTraces = false) {Q : zR × zS → Prop}   : ∀ (n : Nat) (a0 a1 a2 : Int) (σ : zS), zo (f_L_law_28 g  n a0 a1 a2 σ) Q → zw g Y_L_law R_L_law 28 [(0, (6, a0)), (1, (4, a1)), (2, (0, a2))] [] σ (n * 132) (n * 9399) Q := by
  intro n
  induction n with
  | zero => intro a0 a1 a2 σ h; obtain ⟨r, h, -⟩ := h; cases h
  | succ n ih =>
    intro a0 a1 a2 σ h
    unfold f_L_law_28 at h
    refine r_room (C' := (132 + n * 132)) (D' := (9399 + n * 9399)) (by omega) (by omega) ?_
    refine r_iload_n 2 dL_law_28 rfl ?_
    refine r_sipush (v := 164) dL_law_29 rfl rfl ?_
    refine r_icmp_ge 57 dL_law_32 (by decide) h (fun h => ?_) (fun h => ?_)
    · refine r_room (C' := 0) (D' := 0) (by omega) (by omega) ?_
      refine r_iconst (v := 1) dL_law_57 rfl rfl ?_
      exact r_zretc (by decide) rfl dL_law_58 h
    · refine r_aload_n 1 dL_law_35 rfl ?_
      refine r_aload_n 0 dL_law_36 rfl ?_
      refine r_iload_n 2 dL_law_37 rfl ?_
      refine r_callS (K' := Y_L_act) (R' := R_L_act) (idx := 263) (n := 3) (as := [(4, a1), (6, a0), (0, a2)]) (rest := []) (C' := (105 + n * 132)) (D' := (2079 + n * 9399)) rfl k0_L_act wd_962 kl_L_263 ⟨by decide, by decide⟩ dL_law_38 rfl rfl (Nat.le_of_ble_eq_true rfl) (by have e : R_L_act.cells = 27 := rfl; omega) (by have e : R_L_act.slots = 7320 := rfl; omega) h (fun r hr => m_L_act hl0 ⟨r, hr, hr⟩) (fun x1 τ2 _ h => ?_)
      refine r_istore_n (L' := [(3, (0, x1)), (0, (6, a0)), (1, (4, a1)), (2, (0, a2))]) dL_law_41 (by decide) rfl ?_
      refine r_aload_n 2 dL_law_42 rfl ?_
      refine r_callS (K' := Y_L_holds) (R' := R_L_holds) (idx := 260) (n := 1) (as := [(4, a1)]) (rest := []) (C' := (n * 132)) (D' := (n * 9399)) rfl k0_L_holds wd_1134 kl_L_260 ⟨by decide, by decide⟩ dL_law_43 rfl rfl (Nat.le_of_ble_eq_true rfl) (by have e : R_L_holds.cells = 105 := rfl; omega) (by have e : R_L_holds.slots = 2079 := rfl; omega) h (fun r hr => m_L_holds hl0 ⟨r, hr, hr⟩) (fun x3 τ4 _ h => ?_)
      refine r_if_ne 51 dL_law_46 (by decide) h (fun h => ?_) (fun h => ?_)
      · refine r_iinc (L' := [(2, (0, (w32 (a2 + 6)))), (3, (0, x1)), (0, (6, a0)), (1, (4, a1))]) 3 dL_law_51 rfl (by decide) rfl ?_
        refine r_goto 28 dL_law_54 (by decide) ?_
        refine r_weak (L' := [(0, (6, a0)), (1, (4, a1)), (2, (0, (w32 (a2 + 6))))]) [2, 3, 0] rfl ?_
        refine r_room (C' := (n * 132)) (D' := (n * 9399)) (by omega) (by omega) ?_
        exact ih _ _ _ _ h
      · refine r_room (C' := 0) (D' := 0) (by omega) (by omega) ?_
        refine r_iconst (v := 0) dL_law_49 rfl rfl ?_
        exact r_zretc (by decide) rfl dL_law_50 h

set_option maxRecDepth 100000 in
set_option maxHeartbeats 4000000 in
theorem t_L_law {g : zF} (hl0 : g.2.2.2.1.stackTraces = false) {Q : zR × zS → Prop}   {a0 : Int} {σ : zS} (h : zo (f_L_law g  a0 σ) Q) : zw g Y_L_law R_L_law 0 [(0, (6, a0))] [] σ 2494 484903 Q := by
  unfold f_L_law at h
  refine r_new (C' := 2493) (D' := 484895) nw_L_25 dL_law_0 (by decide) (by decide) h (fun x1 τ2 h => ?_)
  refine r_dup dL_law_3 rfl ?_
  obtain ⟨h0, h⟩ := zite_o h
  refine r_callI (K' := Y_X7_init) (R' := R_X7_init) (idx := 256) (n := 0) (b := x1) (as := []) (rest := [(4, x1)]) (C' := 2424) (D' := 467740) rfl k0_X7_init kI_X7_init kl_L_256 ⟨by decide, by decide⟩ dL_law_4 rfl rfl (Nat.le_of_ble_eq_true rfl) (by decide) (by decide) h h0 (fun r hr => m_X7_init hl0 ⟨r, hr, hr⟩) (fun _ τ4 _ h => ?_)
  refine r_astore_n (L' := [(1, (4, x1)), (0, (6, a0))]) dL_law_7 (by decide) rfl ?_
  refine r_aload_n 0 dL_law_8 rfl ?_
  refine r_aload_n 1 dL_law_9 rfl ?_
  refine r_callS (K' := Y_L_load) (R' := R_L_load) (idx := 257) (n := 2) (as := [(4, x1), (6, a0)]) (rest := []) (C' := 2085) (D' := 143064) rfl k0_L_load wd_330 kl_L_257 ⟨by decide, by decide⟩ dL_law_10 rfl rfl (Nat.le_of_ble_eq_true rfl) (by decide) (by decide) h (fun r hr => m_L_load hl0 ⟨r, hr, hr⟩) (fun x5 τ6 _ h => ?_)
  refine r_if_eq 23 dL_law_13 (by decide) h (fun h => ?_) (fun h => ?_)
  · refine r_room (C' := 0) (D' := 0) (by omega) (by omega) ?_
    refine r_iconst (v := 0) dL_law_23 rfl rfl ?_
    exact r_zretc (by decide) rfl dL_law_24 h
  · refine r_aload_n 0 dL_law_16 rfl ?_
    refine r_callS (K' := Y_L_holds) (R' := R_L_holds) (idx := 260) (n := 1) (as := [(4, x1)]) (rest := []) (C' := 1980) (D' := 140985) rfl k0_L_holds wd_1134 kl_L_260 ⟨by decide, by decide⟩ dL_law_17 rfl rfl (Nat.le_of_ble_eq_true rfl) (by decide) (by decide) h (fun r hr => m_L_holds hl0 ⟨r, hr, hr⟩) (fun x7 τ8 _ h => ?_)
    refine r_if_ne 25 dL_law_20 (by decide) h (fun h => ?_) (fun h => ?_)
    · refine r_bipush (v := 80) dL_law_25 rfl rfl ?_
      refine r_istore_n (L' := [(2, (0, 80)), (1, (4, x1)), (0, (6, a0))]) dL_law_27 (by decide) rfl ?_
      refine r_weak (L' := [(0, (6, a0)), (1, (4, x1)), (2, (0, 80))]) [2, 1, 0] rfl ?_
      refine r_room (C' := (15 * 132)) (D' := (15 * 9399)) (by omega) (by omega) ?_
      exact t_L_law_28 hl0    15 _ _ _ _ h
    · refine r_room (C' := 0) (D' := 0) (by omega) (by omega) ?_
      refine r_iconst (v := 0) dL_law_23 rfl rfl ?_
      exact r_zretc (by decide) rfl dL_law_24 h
