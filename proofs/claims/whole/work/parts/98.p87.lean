/-! C 87: the law, from its entry to its loop -/
theorem df_X7 : (∀ j, j < 8 → defaultValue (tyX7 j) = if zfe 7 j = 4 then .null else .int 0) ∧ ∀ j, j < 8 → zfe 7 j = 0 ∨ zfe 7 j = 4 := ⟨fun j hj => by
    rcases (show j = 0 ∨ j = 1 ∨ j = 2 ∨ j = 3 ∨ j = 4 ∨ j = 5 ∨ j = 6 ∨ j = 7 by omega) with rfl | rfl | rfl | rfl | rfl | rfl | rfl | rfl <;> rfl,
  by decide⟩
theorem df_X8 : (∀ j, j < 28 → defaultValue (tyX8 j) = if zfe 8 j = 4 then .null else .int 0) ∧ ∀ j, j < 28 → zfe 8 j = 0 ∨ zfe 8 j = 4 := ⟨fun j hj => by
    rcases (show j = 0 ∨ j = 1 ∨ j = 2 ∨ j = 3 ∨ j = 4 ∨ j = 5 ∨ j = 6 ∨ j = 7 ∨ j = 8 ∨ j = 9 ∨ j = 10 ∨ j = 11 ∨ j = 12 ∨ j = 13 ∨ j = 14 ∨ j = 15 ∨ j = 16 ∨ j = 17 ∨ j = 18 ∨ j = 19 ∨ j = 20 ∨ j = 21 ∨ j = 22 ∨ j = 23 ∨ j = 24 ∨ j = 25 ∨ j = 26 ∨ j = 27 by omega) with rfl | rfl | rfl | rfl | rfl | rfl | rfl | rfl | rfl | rfl | rfl | rfl | rfl | rfl | rfl | rfl | rfl | rfl | rfl | rfl | rfl | rfl | rfl | rfl | rfl | rfl | rfl | rfl <;> rfl,
  by decide⟩
theorem nw_L_8 : zNw RL 8 7 := ⟨(RX7, TX7, 8), tyX7, rfl, zu_X7, tyX7_ok, ⟨List.mem_of_getElem? (i := 201) (by decide +kernel), by decide +kernel⟩, ⟨List.mem_of_getElem? (i := 202) (by decide +kernel), by decide +kernel⟩, ⟨List.mem_of_getElem? (i := 177) (by decide +kernel), by decide +kernel⟩, df_X7.1, df_X7.2⟩
theorem nw_L_186 : zNw RL 186 8 := ⟨(RX8, TX8, 28), tyX8, rfl, zu_X8, tyX8_ok, ⟨List.mem_of_getElem? (i := 1446) (by decide +kernel), by decide +kernel⟩, ⟨List.mem_of_getElem? (i := 1447) (by decide +kernel), by decide +kernel⟩, ⟨List.mem_of_getElem? (i := 186) (by decide +kernel), by decide +kernel⟩, df_X8.1, df_X8.2⟩
theorem k0_X7_init : zk0 Y_X7_init 0 := ⟨⟨List.mem_of_getElem? (i := 205) (by decide +kernel), by decide +kernel⟩, ⟨List.mem_of_getElem? (i := 177) (by decide +kernel), by decide +kernel⟩, ⟨by decide, by decide, by decide +kernel⟩, rfl⟩
theorem k0_X8_init : zk0 Y_X8_init 0 := ⟨⟨List.mem_of_getElem? (i := 1450) (by decide +kernel), by decide +kernel⟩, ⟨List.mem_of_getElem? (i := 186) (by decide +kernel), by decide +kernel⟩, ⟨by decide, by decide, by decide +kernel⟩, rfl⟩
theorem kI_X7_init : (Y_X7_init).1.name = "<init>" ∧ zL (.instanceMethod (Y_X7_init).1) ∧ (Y_X7_init).2.2.2.1 = none := ⟨rfl, ⟨List.mem_of_getElem? (i := 204) (by decide +kernel), by decide +kernel⟩, rfl⟩
theorem kI_X8_init : (Y_X8_init).1.name = "<init>" ∧ zL (.instanceMethod (Y_X8_init).1) ∧ (Y_X8_init).2.2.2.1 = none := ⟨rfl, ⟨List.mem_of_getElem? (i := 1449) (by decide +kernel), by decide +kernel⟩, rfl⟩
theorem kl_L_185 : zkL RL 185 Y_X7_init := Or.inl ⟨List.mem_of_getElem? (i := 203) (by decide +kernel), by decide +kernel⟩
theorem kl_L_188 : zkL RL 188 Y_X8_init := Or.inl ⟨List.mem_of_getElem? (i := 1448) (by decide +kernel), by decide +kernel⟩
theorem wa_long : zL (.arrayClass .long) := ⟨List.mem_of_getElem? (i := 2189) (by decide +kernel), by decide +kernel⟩
theorem wa_double : zL (.arrayClass .double) := ⟨List.mem_of_getElem? (i := 2190) (by decide +kernel), by decide +kernel⟩
/-- the law's beginning: the class's object, the model's, two arrays -/
noncomputable def f_lw (g : zF) (σ : zS) : zFn := znw σ (0, 7) fun x τ1 => if 0 ≤ x then zbn (f_X7_init x τ1) fun _ τ2 => znw τ2 (0, 8) fun m τ3 => if 0 ≤ m then zbn (f_X8_init m τ3) fun _ τ4 => zna 4 1 1 τ4 fun o τ5 => zna 5 1 1 τ5 fun d τ6 => @ite _ (pLl g x m o d 513 0 τ6) (Classical.propDecidable _) (some (.inl 1, τ6)) none else none else none
theorem lw_init {g : zF} (hL9 : zsl9 g ≤ 3072) {x : Int} (hx : 0 ≤ x) {σ : zS} (hn : σ.1.2.2 = x) : zo (f_lw g σ) zQ1 := by
  unfold f_lw
  refine zo_nw2 (a := x) (c := x + 1) hn rfl ?_
  intro σ1 k1
  refine zo_pos hx ?_
  obtain ⟨σ2, e2, h2, n2⟩ := c_X7_init hx k1.sh0 k1.nx
  refine zo_bn e2 ?_
  refine zo_nw2 (a := x + 66) (c := x + 66 + 1) n2 rfl ?_
  intro σ3 k3
  refine zo_pos (by omega) ?_
  obtain ⟨σ4, e4, h4, n4, b4⟩ := c_X8_init (σ0 := σ3) (d := x + 66) (by omega) k3.sh0 k3.m0 k3.nx
  refine zo_bn e4 ?_
  have n4 : σ4.1.2.2 = x + 78 := n4.trans (by omega)
  have bb : BL (x + 66) σ2 σ4 := BL.tr (BL.mkn k3 (Int.le_refl _)) b4
  refine zo_na2 (a := x + 78) (c := x + 79) (by decide) n4 (by omega) ?_
  intro σ5 k5
  refine zo_na2 (a := x + 79) (c := x + 80) (by decide) k5.nx (by omega) ?_
  intro σ6 k6
  have hw := wd_first hx h2 bb h4 k5 k6
  obtain ⟨S, μ⟩ := σ6
  refine zo_pos ?_ (zo_rt rfl)
  exact run_all 513 0 0 S μ zD0 [] (fun _ => none) [] [] 0 (-1) (by omega) (by omega) (by omega) hw
set_option maxRecDepth 100000 in
set_option maxHeartbeats 4000000 in
theorem t_L_start {g : zF} (hl0 : g.2.2.2.1.stackTraces = false) (hL9 : zsl9 g ≤ 3072) {σ : zS} (h : zo (f_lw g σ) zQ1) : zw g Y_L_law room_1 0 [(0, (6, 200))] [] σ 164820 8601644 zQ1 := by
  unfold f_lw at h
  refine r_new (C' := 164819) (D' := 8601636) nw_L_8 dL_law_0 (by decide) (by decide) h (fun x τ1 h => ?_)
  refine r_dup dL_law_3 rfl ?_
  obtain ⟨h0, h⟩ := zite_o h
  refine r_callI (K' := Y_X7_init) (R' := R_X7_init) (idx := 185) (n := 0) (b := x) (as := []) (rest := [(4, x)]) (C' := 164750) (D' := 8584481) rfl k0_X7_init kI_X7_init kl_L_185 ⟨by decide, by decide⟩ dL_law_4 rfl rfl (Nat.le_of_ble_eq_true rfl) (by decide) (by decide) h h0 (fun r hr => m_X7_init hl0 ⟨r, hr, hr⟩) (fun _ τ2 _ h => ?_)
  refine r_astore_n (L' := [(1, (4, x)), (0, (6, 200))]) dL_law_7 (by decide) rfl ?_
  refine r_new (C' := 164749) (D' := 8584453) nw_L_186 dL_law_8 (by decide) (by decide) h (fun m τ3 h => ?_)
  refine r_dup dL_law_11 rfl ?_
  obtain ⟨h1, h⟩ := zite_o h
  refine r_callI (K' := Y_X8_init) (R' := R_X8_init) (idx := 188) (n := 0) (b := m) (as := []) (rest := [(4, m)]) (C' := 164738) (D' := 8555488) rfl k0_X8_init kI_X8_init kl_L_188 ⟨by decide, by decide⟩ dL_law_12 rfl rfl (Nat.le_of_ble_eq_true rfl) (by decide) (by decide) h h1 (fun r hr => m_X8_init hl0 ⟨r, hr, hr⟩) (fun _ τ4 _ h => ?_)
  refine r_astore_n (L' := [(2, (4, m)), (1, (4, x)), (0, (6, 200))]) dL_law_15 (by decide) rfl ?_
  refine r_iconst (v := 1) dL_law_16 rfl rfl ?_
  refine r_newa4 (N := 1) (C' := 164737) (D' := 8555487) wa_long dL_law_17 (by decide) (Nat.le_of_ble_eq_true rfl) (Nat.le_of_ble_eq_true rfl) h (fun o τ5 h => ?_)
  refine r_astore_n (L' := [(3, (4, o)), (2, (4, m)), (1, (4, x)), (0, (6, 200))]) dL_law_19 (by decide) rfl ?_
  refine r_iconst (v := 1) dL_law_20 rfl rfl ?_
  refine r_newa5 (N := 1) (C' := 164736) (D' := 8555486) wa_double dL_law_21 (by decide) (Nat.le_of_ble_eq_true rfl) (Nat.le_of_ble_eq_true rfl) h (fun d τ6 h => ?_)
  refine r_astore (L' := [(4, (4, d)), (3, (4, o)), (2, (4, m)), (1, (4, x)), (0, (6, 200))]) dL_law_23 (by decide) rfl ?_
  refine r_iconst (v := 0) dL_law_25 rfl rfl ?_
  refine r_istore (L' := [(5, (0, 0)), (4, (4, d)), (3, (4, o)), (2, (4, m)), (1, (4, x)), (0, (6, 200))]) dL_law_26 (by decide) rfl ?_
  refine r_weak (L' := [(0, (6, 200)), (1, (4, x)), (2, (4, m)), (3, (4, o)), (4, (4, d)), (5, (0, 0))]) [5, 4, 3, 2, 1, 0] rfl ?_
  refine r_room (C' := 31 * 513) (D' := 7344 * 513) (Nat.le_of_ble_eq_true rfl) (Nat.le_of_ble_eq_true rfl) ?_
  exact t_L_loop hl0 hL9 513 0 τ6 (by decide) (by decide) (zite_p h)
