set_option maxHeartbeats 4000000 in
theorem t_L_0 {g : zF} (hl0 : g.2.2.2.1.stackTraces = false) (hL9 : zsl9 g ≤ 3072) {x m o d i : Int} {σ : zS} {C' D' : Nat} {P : zS → Prop} (hi : 0 ≤ i) (hi6 : i + 6 ≤ (zsl9 g : Int)) (hx : σ.1.1 x = some (0, 7)) (h : q_L_0 x m o d (fun j => zscr g (i.toNat + j)) P σ) (kk : ∀ τ, P τ → zw g Y_L_law room_1 3919 [(0, (6, 200)), (1, (4, x)), (2, (4, m)), (3, (4, o)), (4, (4, d)), (5, (0, i))] [] τ C' D' zQ1) : zw g Y_L_law room_1 296 [(0, (6, 200)), (1, (4, x)), (2, (4, m)), (3, (4, o)), (4, (4, d)), (5, (0, i))] [] σ (C' + 31) (D' + 7344) zQ1 := by
  unfold q_L_0 at h
  refine r_aload_n 1 dL_law_296 rfl ?_
  refine r_scrk (k := 1) 0 5 hL9 hi (by omega) dL_law_297 rfl dL_law_298 rfl dL_law_300 dL_law_301 dL_law_302 ?_
  refine r_scrk (k := 2) 0 5 hL9 hi (by omega) dL_law_303 rfl dL_law_304 rfl dL_law_306 dL_law_307 dL_law_308 ?_
  refine r_scrk (k := 3) 0 5 hL9 hi (by omega) dL_law_309 rfl dL_law_310 rfl dL_law_312 dL_law_313 dL_law_314 ?_
  refine r_scrk (k := 4) 0 5 hL9 hi (by omega) dL_law_315 rfl dL_law_316 rfl dL_law_318 dL_law_319 dL_law_320 ?_
  refine r_scrk (k := 5) 0 5 hL9 hi (by omega) dL_law_321 rfl dL_law_322 rfl dL_law_324 dL_law_325 dL_law_326 ?_
  refine r_aload_n 3 dL_law_327 rfl ?_
  refine r_callSH (K' := Y_L_append) (R' := R_L_append) (idx := 189) (n := 7) (as := [(4, x), (0, (zscr g (i.toNat + 1))), (0, (zscr g (i.toNat + 2))), (0, (zscr g (i.toNat + 3))), (0, (zscr g (i.toNat + 4))), (0, (zscr g (i.toNat + 5))), (4, o)]) (rest := []) (C' := C') (D' := D') k0_L_append wl_709 wl_708 ⟨by decide, by decide⟩ dL_law_328 rfl rfl (Nat.le_of_ble_eq_true rfl) (by have e : R_L_append.cells = 1 := rfl; omega) (by have e : R_L_append.slots = 6 := rfl; omega) (m_L_append hl0 hx h) (fun e τ hq => by obtain ⟨c, τ', e0, -⟩ := hq; cases e0) (fun c9 τ9 hq => ?_)
  obtain ⟨c, τ, e0, hk⟩ := hq
  obtain ⟨e1, e2⟩ : c9 = c ∧ τ9 = τ := by cases e0; exact ⟨rfl, rfl⟩
  rw [e1, e2]
  obtain ⟨hm1, b, τ1, hb, hm2, t, τ2, ht, hc, hv, hP⟩ := hk
  refine r_istore (L' := [(6, (0, c)), (0, (6, 200)), (1, (4, x)), (2, (4, m)), (3, (4, o)), (4, (4, d)), (5, (0, i))]) dL_law_331 (by decide) rfl ?_
  refine r_aload_n 3 dL_law_333 rfl ?_
  refine r_scrk (k := 1) 1 6 hL9 hi (by omega) dL_law_334 rfl dL_law_335 rfl dL_law_337 dL_law_338 dL_law_339 ?_
  refine r_scrk (k := 2) 1 6 hL9 hi (by omega) dL_law_340 rfl dL_law_341 rfl dL_law_343 dL_law_344 dL_law_345 ?_
  refine r_scrk (k := 3) 1 6 hL9 hi (by omega) dL_law_346 rfl dL_law_347 rfl dL_law_349 dL_law_350 dL_law_351 ?_
  refine r_scrk (k := 4) 1 6 hL9 hi (by omega) dL_law_352 rfl dL_law_353 rfl dL_law_355 dL_law_356 dL_law_357 ?_
  refine r_scrk (k := 5) 1 6 hL9 hi (by omega) dL_law_358 rfl dL_law_359 rfl dL_law_361 dL_law_362 dL_law_363 ?_
  refine r_callVC (K' := Y_X8_append) (R' := R_X8_append) (idx := 194) (n := 5) (b := m) (as := [(0, (zscr g (i.toNat + 1))), (0, (zscr g (i.toNat + 2))), (0, (zscr g (i.toNat + 3))), (0, (zscr g (i.toNat + 4))), (0, (zscr g (i.toNat + 5)))]) (rest := []) (cn := 8) (C' := C') (D' := D') k0_X8_append kV_X8_append kl_L_194 ⟨by decide, by decide⟩ dL_law_364 rfl rfl (Nat.le_of_ble_eq_true rfl) (by have e : R_X8_append.cells = 0 := rfl; omega) (by have e : R_X8_append.slots = 0 := rfl; omega) rfl hm1 ⟨_, hb⟩ (fun r hr => m_X8_append hl0 ⟨r, hr, hr⟩) (fun ex τ n q hq hn => by rw [hb] at hq; cases hq) (fun v9 τ9 hq => ?_)
  obtain ⟨e1, e2⟩ : v9 = b ∧ τ9 = τ1 := by rw [hb] at hq; cases hq; exact ⟨rfl, rfl⟩
  rw [e1, e2]
  refine r_istore (L' := [(7, (0, b)), (6, (0, c)), (0, (6, 200)), (1, (4, x)), (2, (4, m)), (3, (4, o)), (4, (4, d)), (5, (0, i))]) dL_law_367 (by decide) rfl ?_
  refine r_aload_n 4 dL_law_369 rfl ?_
  refine r_callVC (K' := Y_X8_thrown) (R' := R_X8_thrown) (idx := 195) (n := 0) (b := m) (as := []) (rest := []) (cn := 8) (C' := C') (D' := D') k0_X8_thrown kV_X8_thrown kl_L_195 ⟨by decide, by decide⟩ dL_law_370 rfl rfl (Nat.le_of_ble_eq_true rfl) (by have e : R_X8_thrown.cells = 0 := rfl; omega) (by have e : R_X8_thrown.slots = 0 := rfl; omega) rfl hm2 ⟨_, ht⟩ (fun r hr => m_X8_thrown hl0 ⟨r, hr, hr⟩) (fun ex τ n q hq hn => by rw [ht] at hq; cases hq) (fun v9 τ9 hq => ?_)
  obtain ⟨e1, e2⟩ : v9 = t ∧ τ9 = τ2 := by rw [ht] at hq; cases hq; exact ⟨rfl, rfl⟩
  rw [e1, e2]
  refine r_iload 1 dL_law_373 rfl ?_
  refine r_icmp_eq 380 dL_law_375 (by decide) (z_yes (σ := σ) hc) (fun _ => ?_) (fun h => by obtain ⟨r, h, -⟩ := h; cases h)
  refine r_iload 1 dL_law_380 rfl ?_
  refine r_if_ne 397 dL_law_382 (by decide) (z_br (σ := σ)) (fun _ => ?_) (fun h => ?_)
  · refine r_goto 3919 dL_law_397 (by decide) ?_
    refine r_weak (L' := [(0, (6, 200)), (1, (4, x)), (2, (4, m)), (3, (4, o)), (4, (4, d)), (5, (0, i))]) [2, 3, 4, 5, 6, 7] rfl ?_
    exact kk _ hP
  · have hv := hv (zite_p h)
    refine r_aload_n 5 dL_law_385 rfl ?_
    refine r_iconst (v := 0) dL_law_386 rfl rfl ?_
    refine r_lald dL_law_387 hv (fun v h => ?_)
    refine r_iload 0 dL_law_388 rfl ?_
    refine r_i2l dL_law_390 ?_
    refine r_lcmp dL_law_391 ?_
    refine r_if_eq 397 dL_law_392 (by decide) (z_yes (σ := σ) (zlc_eq (zite_p h))) (fun _ => ?_) (fun h => by obtain ⟨r, h, -⟩ := h; cases h)
    refine r_goto 3919 dL_law_397 (by decide) ?_
    refine r_weak (L' := [(0, (6, 200)), (1, (4, x)), (2, (4, m)), (3, (4, o)), (4, (4, d)), (5, (0, i))]) [2, 3, 4, 5, 6, 7] rfl ?_
    exact kk _ hP
set_option maxHeartbeats 4000000 in
theorem t_L_1 {g : zF} (hl0 : g.2.2.2.1.stackTraces = false) (hL9 : zsl9 g ≤ 3072) {x m o d i : Int} {σ : zS} {C' D' : Nat} {P : zS → Prop} (hi : 0 ≤ i) (hi6 : i + 6 ≤ (zsl9 g : Int)) (hx : σ.1.1 x = some (0, 7)) (h : q_L_1 x m o d (fun j => zscr g (i.toNat + j)) P σ) (kk : ∀ τ, P τ → zw g Y_L_law room_1 3919 [(0, (6, 200)), (1, (4, x)), (2, (4, m)), (3, (4, o)), (4, (4, d)), (5, (0, i))] [] τ C' D' zQ1) : zw g Y_L_law room_1 400 [(0, (6, 200)), (1, (4, x)), (2, (4, m)), (3, (4, o)), (4, (4, d)), (5, (0, i))] [] σ (C' + 31) (D' + 7344) zQ1 := by
  unfold q_L_1 at h
  refine r_aload_n 1 dL_law_400 rfl ?_
  refine r_scrk (k := 1) 0 5 hL9 hi (by omega) dL_law_401 rfl dL_law_402 rfl dL_law_404 dL_law_405 dL_law_406 ?_
  refine r_callSH (K' := Y_L_truncate) (R' := R_L_truncate) (idx := 198) (n := 2) (as := [(4, x), (0, (zscr g (i.toNat + 1)))]) (rest := []) (C' := C') (D' := D') k0_L_truncate wl_793 wl_792 ⟨by decide, by decide⟩ dL_law_407 rfl rfl (Nat.le_of_ble_eq_true rfl) (by have e : R_L_truncate.cells = 1 := rfl; omega) (by have e : R_L_truncate.slots = 6 := rfl; omega) (m_L_truncate hl0 hx h) (fun e τ hq => by obtain ⟨c, τ', e0, -⟩ := hq; cases e0) (fun c9 τ9 hq => ?_)
  obtain ⟨c, τ, e0, hk⟩ := hq
  obtain ⟨e1, e2⟩ : c9 = c ∧ τ9 = τ := by cases e0; exact ⟨rfl, rfl⟩
  rw [e1, e2]
  obtain ⟨hm1, b, τ1, hb, hm2, t, τ2, ht, hc, hv, hP⟩ := hk
  refine r_istore (L' := [(6, (0, c)), (0, (6, 200)), (1, (4, x)), (2, (4, m)), (3, (4, o)), (4, (4, d)), (5, (0, i))]) dL_law_410 (by decide) rfl ?_
  refine r_aload_n 3 dL_law_412 rfl ?_
  refine r_scrk (k := 1) 1 6 hL9 hi (by omega) dL_law_413 rfl dL_law_414 rfl dL_law_416 dL_law_417 dL_law_418 ?_
  refine r_callVC (K' := Y_X8_truncate) (R' := R_X8_truncate) (idx := 201) (n := 1) (b := m) (as := [(0, (zscr g (i.toNat + 1)))]) (rest := []) (cn := 8) (C' := C') (D' := D') k0_X8_truncate kV_X8_truncate kl_L_201 ⟨by decide, by decide⟩ dL_law_419 rfl rfl (Nat.le_of_ble_eq_true rfl) (by have e : R_X8_truncate.cells = 0 := rfl; omega) (by have e : R_X8_truncate.slots = 0 := rfl; omega) rfl hm1 ⟨_, hb⟩ (fun r hr => m_X8_truncate hl0 ⟨r, hr, hr⟩) (fun ex τ n q hq hn => by rw [hb] at hq; cases hq) (fun v9 τ9 hq => ?_)
  obtain ⟨e1, e2⟩ : v9 = b ∧ τ9 = τ1 := by rw [hb] at hq; cases hq; exact ⟨rfl, rfl⟩
  rw [e1, e2]
  refine r_aload_n 3 dL_law_422 rfl ?_
  refine r_callVC (K' := Y_X8_thrown) (R' := R_X8_thrown) (idx := 195) (n := 0) (b := m) (as := []) (rest := []) (cn := 8) (C' := C') (D' := D') k0_X8_thrown kV_X8_thrown kl_L_195 ⟨by decide, by decide⟩ dL_law_423 rfl rfl (Nat.le_of_ble_eq_true rfl) (by have e : R_X8_thrown.cells = 0 := rfl; omega) (by have e : R_X8_thrown.slots = 0 := rfl; omega) rfl hm2 ⟨_, ht⟩ (fun r hr => m_X8_thrown hl0 ⟨r, hr, hr⟩) (fun ex τ n q hq hn => by rw [ht] at hq; cases hq) (fun v9 τ9 hq => ?_)
  obtain ⟨e1, e2⟩ : v9 = t ∧ τ9 = τ2 := by rw [ht] at hq; cases hq; exact ⟨rfl, rfl⟩
  rw [e1, e2]
  refine r_iload 0 dL_law_426 rfl ?_
  refine r_icmp_eq 433 dL_law_428 (by decide) (z_yes (σ := σ) hc) (fun _ => ?_) (fun h => by obtain ⟨r, h, -⟩ := h; cases h)
  refine r_goto 3919 dL_law_433 (by decide) ?_
  refine r_weak (L' := [(0, (6, 200)), (1, (4, x)), (2, (4, m)), (3, (4, o)), (4, (4, d)), (5, (0, i))]) [1, 2, 3, 4, 5, 6] rfl ?_
  exact kk _ hP
set_option maxHeartbeats 4000000 in
theorem t_L_2 {g : zF} (hl0 : g.2.2.2.1.stackTraces = false) (hL9 : zsl9 g ≤ 3072) {x m o d i : Int} {σ : zS} {C' D' : Nat} {P : zS → Prop} (hi : 0 ≤ i) (hi6 : i + 6 ≤ (zsl9 g : Int)) (hx : σ.1.1 x = some (0, 7)) (h : q_L_2 x m o d (fun j => zscr g (i.toNat + j)) P σ) (kk : ∀ τ, P τ → zw g Y_L_law room_1 3919 [(0, (6, 200)), (1, (4, x)), (2, (4, m)), (3, (4, o)), (4, (4, d)), (5, (0, i))] [] τ C' D' zQ1) : zw g Y_L_law room_1 436 [(0, (6, 200)), (1, (4, x)), (2, (4, m)), (3, (4, o)), (4, (4, d)), (5, (0, i))] [] σ (C' + 31) (D' + 7344) zQ1 := by
  unfold q_L_2 at h
  refine r_aload_n 1 dL_law_436 rfl ?_
  obtain ⟨v, τ, hf, hm1, b, τ1, hb, hc, hP⟩ := h
  refine r_callVC (K' := Y_X7_load) (R' := R_X7_load) (idx := 202) (n := 0) (b := x) (as := []) (rest := []) (cn := 7) (C' := C') (D' := D') k0_X7_load kV_X7_load kl_L_202 ⟨by decide, by decide⟩ dL_law_437 rfl rfl (Nat.le_of_ble_eq_true rfl) (by have e : R_X7_load.cells = 27 := rfl; omega) (by have e : R_X7_load.slots = 7320 := rfl; omega) rfl hx ⟨_, hf⟩ (fun r hr => m_X7_load hl0 ⟨r, hr, hr⟩) (fun ex τ n q hq hn => by rw [hf] at hq; cases hq) (fun v9 τ9 hq => ?_)
  obtain ⟨e1, e2⟩ : v9 = v ∧ τ9 = τ := by rw [hf] at hq; cases hq; exact ⟨rfl, rfl⟩
  rw [e1, e2]
  refine r_aload_n 2 dL_law_440 rfl ?_
  refine r_callVC (K' := Y_X8_load) (R' := R_X8_load) (idx := 205) (n := 0) (b := m) (as := []) (rest := [(0, v)]) (cn := 8) (C' := C') (D' := D') k0_X8_load kV_X8_load kl_L_205 ⟨by decide, by decide⟩ dL_law_441 rfl rfl (Nat.le_of_ble_eq_true rfl) (by have e : R_X8_load.cells = 0 := rfl; omega) (by have e : R_X8_load.slots = 0 := rfl; omega) rfl hm1 ⟨_, hb⟩ (fun r hr => m_X8_load hl0 ⟨r, hr, hr⟩) (fun ex τ n q hq hn => by rw [hb] at hq; cases hq) (fun v9 τ9 hq => ?_)
  obtain ⟨e1, e2⟩ : v9 = b ∧ τ9 = τ1 := by rw [hb] at hq; cases hq; exact ⟨rfl, rfl⟩
  rw [e1, e2]
  refine r_icmp_eq 3919 dL_law_444 (by decide) (z_yes (σ := σ) hc) (fun _ => ?_) (fun h => by obtain ⟨r, h, -⟩ := h; cases h)
  exact kk _ hP
set_option maxHeartbeats 4000000 in
theorem t_L_3 {g : zF} (hl0 : g.2.2.2.1.stackTraces = false) (hL9 : zsl9 g ≤ 3072) {x m o d i : Int} {σ : zS} {C' D' : Nat} {P : zS → Prop} (hi : 0 ≤ i) (hi6 : i + 6 ≤ (zsl9 g : Int)) (hx : σ.1.1 x = some (0, 7)) (h : q_L_3 x m o d (fun j => zscr g (i.toNat + j)) P σ) (kk : ∀ τ, P τ → zw g Y_L_law room_1 3919 [(0, (6, 200)), (1, (4, x)), (2, (4, m)), (3, (4, o)), (4, (4, d)), (5, (0, i))] [] τ C' D' zQ1) : zw g Y_L_law room_1 449 [(0, (6, 200)), (1, (4, x)), (2, (4, m)), (3, (4, o)), (4, (4, d)), (5, (0, i))] [] σ (C' + 31) (D' + 7344) zQ1 := by
  unfold q_L_3 at h
  refine r_aload_n 1 dL_law_449 rfl ?_
  obtain ⟨v, τ, hf, hm1, b, τ1, hb, hc, hP⟩ := h
  refine r_callVC (K' := Y_X7_errorCode) (R' := R_X7_errorCode) (idx := 206) (n := 0) (b := x) (as := []) (rest := []) (cn := 7) (C' := C') (D' := D') k0_X7_errorCode kV_X7_errorCode kl_L_206 ⟨by decide, by decide⟩ dL_law_450 rfl rfl (Nat.le_of_ble_eq_true rfl) (by have e : R_X7_errorCode.cells = 0 := rfl; omega) (by have e : R_X7_errorCode.slots = 0 := rfl; omega) rfl hx ⟨_, hf⟩ (fun r hr => m_X7_errorCode hl0 ⟨r, hr, hr⟩) (fun ex τ n q hq hn => by rw [hf] at hq; cases hq) (fun v9 τ9 hq => ?_)
  obtain ⟨e1, e2⟩ : v9 = v ∧ τ9 = τ := by rw [hf] at hq; cases hq; exact ⟨rfl, rfl⟩
  rw [e1, e2]
  refine r_aload_n 2 dL_law_453 rfl ?_
  refine r_callVC (K' := Y_X8_errorCode) (R' := R_X8_errorCode) (idx := 209) (n := 0) (b := m) (as := []) (rest := [(0, v)]) (cn := 8) (C' := C') (D' := D') k0_X8_errorCode kV_X8_errorCode kl_L_209 ⟨by decide, by decide⟩ dL_law_454 rfl rfl (Nat.le_of_ble_eq_true rfl) (by have e : R_X8_errorCode.cells = 0 := rfl; omega) (by have e : R_X8_errorCode.slots = 0 := rfl; omega) rfl hm1 ⟨_, hb⟩ (fun r hr => m_X8_errorCode hl0 ⟨r, hr, hr⟩) (fun ex τ n q hq hn => by rw [hb] at hq; cases hq) (fun v9 τ9 hq => ?_)
  obtain ⟨e1, e2⟩ : v9 = b ∧ τ9 = τ1 := by rw [hb] at hq; cases hq; exact ⟨rfl, rfl⟩
  rw [e1, e2]
  refine r_icmp_eq 3919 dL_law_457 (by decide) (z_yes (σ := σ) hc) (fun _ => ?_) (fun h => by obtain ⟨r, h, -⟩ := h; cases h)
  exact kk _ hP
set_option maxHeartbeats 4000000 in
theorem t_L_4 {g : zF} (hl0 : g.2.2.2.1.stackTraces = false) (hL9 : zsl9 g ≤ 3072) {x m o d i : Int} {σ : zS} {C' D' : Nat} {P : zS → Prop} (hi : 0 ≤ i) (hi6 : i + 6 ≤ (zsl9 g : Int)) (hx : σ.1.1 x = some (0, 7)) (h : q_L_4 x m o d (fun j => zscr g (i.toNat + j)) P σ) (kk : ∀ τ, P τ → zw g Y_L_law room_1 3919 [(0, (6, 200)), (1, (4, x)), (2, (4, m)), (3, (4, o)), (4, (4, d)), (5, (0, i))] [] τ C' D' zQ1) : zw g Y_L_law room_1 462 [(0, (6, 200)), (1, (4, x)), (2, (4, m)), (3, (4, o)), (4, (4, d)), (5, (0, i))] [] σ (C' + 31) (D' + 7344) zQ1 := by
  unfold q_L_4 at h
  refine r_aload_n 1 dL_law_462 rfl ?_
  obtain ⟨v, τ, hf, hm1, b, τ1, hb, hc, hP⟩ := h
  refine r_callVC (K' := Y_X7_errorPosition) (R' := R_X7_errorPosition) (idx := 210) (n := 0) (b := x) (as := []) (rest := []) (cn := 7) (C' := C') (D' := D') k0_X7_errorPosition kV_X7_errorPosition kl_L_210 ⟨by decide, by decide⟩ dL_law_463 rfl rfl (Nat.le_of_ble_eq_true rfl) (by have e : R_X7_errorPosition.cells = 0 := rfl; omega) (by have e : R_X7_errorPosition.slots = 0 := rfl; omega) rfl hx ⟨_, hf⟩ (fun r hr => m_X7_errorPosition hl0 ⟨r, hr, hr⟩) (fun ex τ n q hq hn => by rw [hf] at hq; cases hq) (fun v9 τ9 hq => ?_)
  obtain ⟨e1, e2⟩ : v9 = v ∧ τ9 = τ := by rw [hf] at hq; cases hq; exact ⟨rfl, rfl⟩
  rw [e1, e2]
  refine r_aload_n 2 dL_law_466 rfl ?_
  refine r_callVC (K' := Y_X8_errorPosition) (R' := R_X8_errorPosition) (idx := 213) (n := 0) (b := m) (as := []) (rest := [(0, v)]) (cn := 8) (C' := C') (D' := D') k0_X8_errorPosition kV_X8_errorPosition kl_L_213 ⟨by decide, by decide⟩ dL_law_467 rfl rfl (Nat.le_of_ble_eq_true rfl) (by have e : R_X8_errorPosition.cells = 0 := rfl; omega) (by have e : R_X8_errorPosition.slots = 0 := rfl; omega) rfl hm1 ⟨_, hb⟩ (fun r hr => m_X8_errorPosition hl0 ⟨r, hr, hr⟩) (fun ex τ n q hq hn => by rw [hb] at hq; cases hq) (fun v9 τ9 hq => ?_)
  obtain ⟨e1, e2⟩ : v9 = b ∧ τ9 = τ1 := by rw [hb] at hq; cases hq; exact ⟨rfl, rfl⟩
  rw [e1, e2]
  refine r_icmp_eq 3919 dL_law_470 (by decide) (z_yes (σ := σ) hc) (fun _ => ?_) (fun h => by obtain ⟨r, h, -⟩ := h; cases h)
  exact kk _ hP
set_option maxHeartbeats 4000000 in
theorem t_L_5 {g : zF} (hl0 : g.2.2.2.1.stackTraces = false) (hL9 : zsl9 g ≤ 3072) {x m o d i : Int} {σ : zS} {C' D' : Nat} {P : zS → Prop} (hi : 0 ≤ i) (hi6 : i + 6 ≤ (zsl9 g : Int)) (hx : σ.1.1 x = some (0, 7)) (h : q_L_5 x m o d (fun j => zscr g (i.toNat + j)) P σ) (kk : ∀ τ, P τ → zw g Y_L_law room_1 3919 [(0, (6, 200)), (1, (4, x)), (2, (4, m)), (3, (4, o)), (4, (4, d)), (5, (0, i))] [] τ C' D' zQ1) : zw g Y_L_law room_1 475 [(0, (6, 200)), (1, (4, x)), (2, (4, m)), (3, (4, o)), (4, (4, d)), (5, (0, i))] [] σ (C' + 31) (D' + 7344) zQ1 := by
  unfold q_L_5 at h
  refine r_aload_n 1 dL_law_475 rfl ?_
  obtain ⟨v, τ, hf, hm1, b, τ1, hb, hc, hP⟩ := h
  refine r_callVC (K' := Y_X7_findAgent) (R' := R_X7_findAgent) (idx := 214) (n := 0) (b := x) (as := []) (rest := []) (cn := 7) (C' := C') (D' := D') k0_X7_findAgent kV_X7_findAgent kl_L_214 ⟨by decide, by decide⟩ dL_law_476 rfl rfl (Nat.le_of_ble_eq_true rfl) (by have e : R_X7_findAgent.cells = 0 := rfl; omega) (by have e : R_X7_findAgent.slots = 0 := rfl; omega) rfl hx ⟨_, hf⟩ (fun r hr => m_X7_findAgent hl0 ⟨r, hr, hr⟩) (fun ex τ n q hq hn => by rw [hf] at hq; cases hq) (fun v9 τ9 hq => ?_)
  obtain ⟨e1, e2⟩ : v9 = v ∧ τ9 = τ := by rw [hf] at hq; cases hq; exact ⟨rfl, rfl⟩
  rw [e1, e2]
  refine r_aload_n 2 dL_law_479 rfl ?_
  refine r_callVC (K' := Y_X8_findAgent) (R' := R_X8_findAgent) (idx := 217) (n := 0) (b := m) (as := []) (rest := [(0, v)]) (cn := 8) (C' := C') (D' := D') k0_X8_findAgent kV_X8_findAgent kl_L_217 ⟨by decide, by decide⟩ dL_law_480 rfl rfl (Nat.le_of_ble_eq_true rfl) (by have e : R_X8_findAgent.cells = 0 := rfl; omega) (by have e : R_X8_findAgent.slots = 0 := rfl; omega) rfl hm1 ⟨_, hb⟩ (fun r hr => m_X8_findAgent hl0 ⟨r, hr, hr⟩) (fun ex τ n q hq hn => by rw [hb] at hq; cases hq) (fun v9 τ9 hq => ?_)
  obtain ⟨e1, e2⟩ : v9 = b ∧ τ9 = τ1 := by rw [hb] at hq; cases hq; exact ⟨rfl, rfl⟩
  rw [e1, e2]
  refine r_icmp_eq 3919 dL_law_483 (by decide) (z_yes (σ := σ) hc) (fun _ => ?_) (fun h => by obtain ⟨r, h, -⟩ := h; cases h)
  exact kk _ hP
set_option maxHeartbeats 4000000 in
theorem t_L_6 {g : zF} (hl0 : g.2.2.2.1.stackTraces = false) (hL9 : zsl9 g ≤ 3072) {x m o d i : Int} {σ : zS} {C' D' : Nat} {P : zS → Prop} (hi : 0 ≤ i) (hi6 : i + 6 ≤ (zsl9 g : Int)) (hx : σ.1.1 x = some (0, 7)) (h : q_L_6 x m o d (fun j => zscr g (i.toNat + j)) P σ) (kk : ∀ τ, P τ → zw g Y_L_law room_1 3919 [(0, (6, 200)), (1, (4, x)), (2, (4, m)), (3, (4, o)), (4, (4, d)), (5, (0, i))] [] τ C' D' zQ1) : zw g Y_L_law room_1 488 [(0, (6, 200)), (1, (4, x)), (2, (4, m)), (3, (4, o)), (4, (4, d)), (5, (0, i))] [] σ (C' + 31) (D' + 7344) zQ1 := by
  unfold q_L_6 at h
  refine r_aload_n 1 dL_law_488 rfl ?_
  obtain ⟨v, τ, hf, hm1, b, τ1, hb, hc, hP⟩ := h
  refine r_callVC (K' := Y_X7_findWay) (R' := R_X7_findWay) (idx := 218) (n := 0) (b := x) (as := []) (rest := []) (cn := 7) (C' := C') (D' := D') k0_X7_findWay kV_X7_findWay kl_L_218 ⟨by decide, by decide⟩ dL_law_489 rfl rfl (Nat.le_of_ble_eq_true rfl) (by have e : R_X7_findWay.cells = 0 := rfl; omega) (by have e : R_X7_findWay.slots = 0 := rfl; omega) rfl hx ⟨_, hf⟩ (fun r hr => m_X7_findWay hl0 ⟨r, hr, hr⟩) (fun ex τ n q hq hn => by rw [hf] at hq; cases hq) (fun v9 τ9 hq => ?_)
  obtain ⟨e1, e2⟩ : v9 = v ∧ τ9 = τ := by rw [hf] at hq; cases hq; exact ⟨rfl, rfl⟩
  rw [e1, e2]
  refine r_aload_n 2 dL_law_492 rfl ?_
  refine r_callVC (K' := Y_X8_findWay) (R' := R_X8_findWay) (idx := 221) (n := 0) (b := m) (as := []) (rest := [(0, v)]) (cn := 8) (C' := C') (D' := D') k0_X8_findWay kV_X8_findWay kl_L_221 ⟨by decide, by decide⟩ dL_law_493 rfl rfl (Nat.le_of_ble_eq_true rfl) (by have e : R_X8_findWay.cells = 0 := rfl; omega) (by have e : R_X8_findWay.slots = 0 := rfl; omega) rfl hm1 ⟨_, hb⟩ (fun r hr => m_X8_findWay hl0 ⟨r, hr, hr⟩) (fun ex τ n q hq hn => by rw [hb] at hq; cases hq) (fun v9 τ9 hq => ?_)
  obtain ⟨e1, e2⟩ : v9 = b ∧ τ9 = τ1 := by rw [hb] at hq; cases hq; exact ⟨rfl, rfl⟩
  rw [e1, e2]
  refine r_icmp_eq 3919 dL_law_496 (by decide) (z_yes (σ := σ) hc) (fun _ => ?_) (fun h => by obtain ⟨r, h, -⟩ := h; cases h)
  exact kk _ hP
set_option maxHeartbeats 4000000 in
theorem t_L_7 {g : zF} (hl0 : g.2.2.2.1.stackTraces = false) (hL9 : zsl9 g ≤ 3072) {x m o d i : Int} {σ : zS} {C' D' : Nat} {P : zS → Prop} (hi : 0 ≤ i) (hi6 : i + 6 ≤ (zsl9 g : Int)) (hx : σ.1.1 x = some (0, 7)) (h : q_L_7 x m o d (fun j => zscr g (i.toNat + j)) P σ) (kk : ∀ τ, P τ → zw g Y_L_law room_1 3919 [(0, (6, 200)), (1, (4, x)), (2, (4, m)), (3, (4, o)), (4, (4, d)), (5, (0, i))] [] τ C' D' zQ1) : zw g Y_L_law room_1 501 [(0, (6, 200)), (1, (4, x)), (2, (4, m)), (3, (4, o)), (4, (4, d)), (5, (0, i))] [] σ (C' + 31) (D' + 7344) zQ1 := by
  unfold q_L_7 at h
  refine r_aload_n 1 dL_law_501 rfl ?_
  refine r_scrk (k := 1) 0 5 hL9 hi (by omega) dL_law_502 rfl dL_law_503 rfl dL_law_505 dL_law_506 dL_law_507 ?_
  refine r_aload_n 3 dL_law_508 rfl ?_
  refine r_callSH (K' := Y_L_property) (R' := R_L_property) (idx := 222) (n := 3) (as := [(4, x), (0, (zscr g (i.toNat + 1))), (4, o)]) (rest := []) (C' := C') (D' := D') k0_L_property wl_820 wl_819 ⟨by decide, by decide⟩ dL_law_509 rfl rfl (Nat.le_of_ble_eq_true rfl) (by have e : R_L_property.cells = 1 := rfl; omega) (by have e : R_L_property.slots = 6 := rfl; omega) (m_L_property hl0 hx h) (fun e τ hq => by obtain ⟨c, τ', e0, -⟩ := hq; cases e0) (fun c9 τ9 hq => ?_)
  obtain ⟨c, τ, e0, hk⟩ := hq
  obtain ⟨e1, e2⟩ : c9 = c ∧ τ9 = τ := by cases e0; exact ⟨rfl, rfl⟩
  rw [e1, e2]
  obtain ⟨hm1, b, τ1, hb, hm2, t, τ2, ht, hc, hv, hP⟩ := hk
  refine r_istore (L' := [(6, (0, c)), (0, (6, 200)), (1, (4, x)), (2, (4, m)), (3, (4, o)), (4, (4, d)), (5, (0, i))]) dL_law_512 (by decide) rfl ?_
  refine r_aload_n 3 dL_law_514 rfl ?_
  refine r_scrk (k := 1) 1 6 hL9 hi (by omega) dL_law_515 rfl dL_law_516 rfl dL_law_518 dL_law_519 dL_law_520 ?_
  refine r_callVC (K' := Y_X8_property) (R' := R_X8_property) (idx := 225) (n := 1) (b := m) (as := [(0, (zscr g (i.toNat + 1)))]) (rest := []) (cn := 8) (C' := C') (D' := D') k0_X8_property kV_X8_property kl_L_225 ⟨by decide, by decide⟩ dL_law_521 rfl rfl (Nat.le_of_ble_eq_true rfl) (by have e : R_X8_property.cells = 0 := rfl; omega) (by have e : R_X8_property.slots = 0 := rfl; omega) rfl hm1 ⟨_, hb⟩ (fun r hr => m_X8_property hl0 ⟨r, hr, hr⟩) (fun ex τ n q hq hn => by rw [hb] at hq; cases hq) (fun v9 τ9 hq => ?_)
  obtain ⟨e1, e2⟩ : v9 = b ∧ τ9 = τ1 := by rw [hb] at hq; cases hq; exact ⟨rfl, rfl⟩
  rw [e1, e2]
  refine r_istore (L' := [(7, (0, b)), (6, (0, c)), (0, (6, 200)), (1, (4, x)), (2, (4, m)), (3, (4, o)), (4, (4, d)), (5, (0, i))]) dL_law_524 (by decide) rfl ?_
  refine r_aload_n 4 dL_law_526 rfl ?_
  refine r_callVC (K' := Y_X8_thrown) (R' := R_X8_thrown) (idx := 195) (n := 0) (b := m) (as := []) (rest := []) (cn := 8) (C' := C') (D' := D') k0_X8_thrown kV_X8_thrown kl_L_195 ⟨by decide, by decide⟩ dL_law_527 rfl rfl (Nat.le_of_ble_eq_true rfl) (by have e : R_X8_thrown.cells = 0 := rfl; omega) (by have e : R_X8_thrown.slots = 0 := rfl; omega) rfl hm2 ⟨_, ht⟩ (fun r hr => m_X8_thrown hl0 ⟨r, hr, hr⟩) (fun ex τ n q hq hn => by rw [ht] at hq; cases hq) (fun v9 τ9 hq => ?_)
  obtain ⟨e1, e2⟩ : v9 = t ∧ τ9 = τ2 := by rw [ht] at hq; cases hq; exact ⟨rfl, rfl⟩
  rw [e1, e2]
  refine r_iload 1 dL_law_530 rfl ?_
  refine r_icmp_eq 537 dL_law_532 (by decide) (z_yes (σ := σ) hc) (fun _ => ?_) (fun h => by obtain ⟨r, h, -⟩ := h; cases h)
  refine r_iload 1 dL_law_537 rfl ?_
  refine r_if_ne 554 dL_law_539 (by decide) (z_br (σ := σ)) (fun _ => ?_) (fun h => ?_)
  · refine r_goto 3919 dL_law_554 (by decide) ?_
    refine r_weak (L' := [(0, (6, 200)), (1, (4, x)), (2, (4, m)), (3, (4, o)), (4, (4, d)), (5, (0, i))]) [2, 3, 4, 5, 6, 7] rfl ?_
    exact kk _ hP
  · have hv := hv (zite_p h)
    refine r_aload_n 5 dL_law_542 rfl ?_
    refine r_iconst (v := 0) dL_law_543 rfl rfl ?_
    refine r_lald dL_law_544 hv (fun v h => ?_)
    refine r_iload 0 dL_law_545 rfl ?_
    refine r_i2l dL_law_547 ?_
    refine r_lcmp dL_law_548 ?_
    refine r_if_eq 554 dL_law_549 (by decide) (z_yes (σ := σ) (zlc_eq (zite_p h))) (fun _ => ?_) (fun h => by obtain ⟨r, h, -⟩ := h; cases h)
    refine r_goto 3919 dL_law_554 (by decide) ?_
    refine r_weak (L' := [(0, (6, 200)), (1, (4, x)), (2, (4, m)), (3, (4, o)), (4, (4, d)), (5, (0, i))]) [2, 3, 4, 5, 6, 7] rfl ?_
    exact kk _ hP
set_option maxHeartbeats 4000000 in
theorem t_L_8 {g : zF} (hl0 : g.2.2.2.1.stackTraces = false) (hL9 : zsl9 g ≤ 3072) {x m o d i : Int} {σ : zS} {C' D' : Nat} {P : zS → Prop} (hi : 0 ≤ i) (hi6 : i + 6 ≤ (zsl9 g : Int)) (hx : σ.1.1 x = some (0, 7)) (h : q_L_8 x m o d (fun j => zscr g (i.toNat + j)) P σ) (kk : ∀ τ, P τ → zw g Y_L_law room_1 3919 [(0, (6, 200)), (1, (4, x)), (2, (4, m)), (3, (4, o)), (4, (4, d)), (5, (0, i))] [] τ C' D' zQ1) : zw g Y_L_law room_1 557 [(0, (6, 200)), (1, (4, x)), (2, (4, m)), (3, (4, o)), (4, (4, d)), (5, (0, i))] [] σ (C' + 31) (D' + 7344) zQ1 := by
  unfold q_L_8 at h
  refine r_aload_n 1 dL_law_557 rfl ?_
  refine r_scrk (k := 1) 0 5 hL9 hi (by omega) dL_law_558 rfl dL_law_559 rfl dL_law_561 dL_law_562 dL_law_563 ?_
  refine r_scrk (k := 2) 0 5 hL9 hi (by omega) dL_law_564 rfl dL_law_565 rfl dL_law_567 dL_law_568 dL_law_569 ?_
  refine r_aload_n 3 dL_law_570 rfl ?_
  refine r_callSH (K' := Y_L_trust) (R' := R_L_trust) (idx := 226) (n := 4) (as := [(4, x), (0, (zscr g (i.toNat + 1))), (0, (zscr g (i.toNat + 2))), (4, o)]) (rest := []) (C' := C') (D' := D') k0_L_trust wl_832 wl_831 ⟨by decide, by decide⟩ dL_law_571 rfl rfl (Nat.le_of_ble_eq_true rfl) (by have e : R_L_trust.cells = 2 := rfl; omega) (by have e : R_L_trust.slots = 12 := rfl; omega) (m_L_trust hl0 hx h) (fun e τ hq => by obtain ⟨c, τ', e0, -⟩ := hq; cases e0) (fun c9 τ9 hq => ?_)
  obtain ⟨c, τ, e0, hk⟩ := hq
  obtain ⟨e1, e2⟩ : c9 = c ∧ τ9 = τ := by cases e0; exact ⟨rfl, rfl⟩
  rw [e1, e2]
  obtain ⟨hm1, b, τ1, hb, hm2, t, τ2, ht, hc, hv, hP⟩ := hk
  refine r_istore (L' := [(6, (0, c)), (0, (6, 200)), (1, (4, x)), (2, (4, m)), (3, (4, o)), (4, (4, d)), (5, (0, i))]) dL_law_574 (by decide) rfl ?_
  refine r_aload_n 3 dL_law_576 rfl ?_
  refine r_scrk (k := 1) 1 6 hL9 hi (by omega) dL_law_577 rfl dL_law_578 rfl dL_law_580 dL_law_581 dL_law_582 ?_
  refine r_scrk (k := 2) 1 6 hL9 hi (by omega) dL_law_583 rfl dL_law_584 rfl dL_law_586 dL_law_587 dL_law_588 ?_
  refine r_callVC (K' := Y_X8_trust) (R' := R_X8_trust) (idx := 229) (n := 2) (b := m) (as := [(0, (zscr g (i.toNat + 1))), (0, (zscr g (i.toNat + 2)))]) (rest := []) (cn := 8) (C' := C') (D' := D') k0_X8_trust kV_X8_trust kl_L_229 ⟨by decide, by decide⟩ dL_law_589 rfl rfl (Nat.le_of_ble_eq_true rfl) (by have e : R_X8_trust.cells = 0 := rfl; omega) (by have e : R_X8_trust.slots = 0 := rfl; omega) rfl hm1 ⟨_, hb⟩ (fun r hr => m_X8_trust hl0 ⟨r, hr, hr⟩) (fun ex τ n q hq hn => by rw [hb] at hq; cases hq) (fun v9 τ9 hq => ?_)
  obtain ⟨e1, e2⟩ : v9 = b ∧ τ9 = τ1 := by rw [hb] at hq; cases hq; exact ⟨rfl, rfl⟩
  rw [e1, e2]
  refine r_istore (L' := [(7, (0, b)), (6, (0, c)), (0, (6, 200)), (1, (4, x)), (2, (4, m)), (3, (4, o)), (4, (4, d)), (5, (0, i))]) dL_law_592 (by decide) rfl ?_
  refine r_aload_n 4 dL_law_594 rfl ?_
  refine r_callVC (K' := Y_X8_thrown) (R' := R_X8_thrown) (idx := 195) (n := 0) (b := m) (as := []) (rest := []) (cn := 8) (C' := C') (D' := D') k0_X8_thrown kV_X8_thrown kl_L_195 ⟨by decide, by decide⟩ dL_law_595 rfl rfl (Nat.le_of_ble_eq_true rfl) (by have e : R_X8_thrown.cells = 0 := rfl; omega) (by have e : R_X8_thrown.slots = 0 := rfl; omega) rfl hm2 ⟨_, ht⟩ (fun r hr => m_X8_thrown hl0 ⟨r, hr, hr⟩) (fun ex τ n q hq hn => by rw [ht] at hq; cases hq) (fun v9 τ9 hq => ?_)
  obtain ⟨e1, e2⟩ : v9 = t ∧ τ9 = τ2 := by rw [ht] at hq; cases hq; exact ⟨rfl, rfl⟩
  rw [e1, e2]
  refine r_iload 1 dL_law_598 rfl ?_
  refine r_icmp_eq 605 dL_law_600 (by decide) (z_yes (σ := σ) hc) (fun _ => ?_) (fun h => by obtain ⟨r, h, -⟩ := h; cases h)
  refine r_iload 1 dL_law_605 rfl ?_
  refine r_if_ne 622 dL_law_607 (by decide) (z_br (σ := σ)) (fun _ => ?_) (fun h => ?_)
  · refine r_goto 3919 dL_law_622 (by decide) ?_
    refine r_weak (L' := [(0, (6, 200)), (1, (4, x)), (2, (4, m)), (3, (4, o)), (4, (4, d)), (5, (0, i))]) [2, 3, 4, 5, 6, 7] rfl ?_
    exact kk _ hP
  · have hv := hv (zite_p h)
    refine r_aload_n 5 dL_law_610 rfl ?_
    refine r_iconst (v := 0) dL_law_611 rfl rfl ?_
    refine r_lald dL_law_612 hv (fun v h => ?_)
    refine r_iload 0 dL_law_613 rfl ?_
    refine r_i2l dL_law_615 ?_
    refine r_lcmp dL_law_616 ?_
    refine r_if_eq 622 dL_law_617 (by decide) (z_yes (σ := σ) (zlc_eq (zite_p h))) (fun _ => ?_) (fun h => by obtain ⟨r, h, -⟩ := h; cases h)
    refine r_goto 3919 dL_law_622 (by decide) ?_
    refine r_weak (L' := [(0, (6, 200)), (1, (4, x)), (2, (4, m)), (3, (4, o)), (4, (4, d)), (5, (0, i))]) [2, 3, 4, 5, 6, 7] rfl ?_
    exact kk _ hP
set_option maxHeartbeats 4000000 in
theorem t_L_9 {g : zF} (hl0 : g.2.2.2.1.stackTraces = false) (hL9 : zsl9 g ≤ 3072) {x m o d i : Int} {σ : zS} {C' D' : Nat} {P : zS → Prop} (hi : 0 ≤ i) (hi6 : i + 6 ≤ (zsl9 g : Int)) (hx : σ.1.1 x = some (0, 7)) (h : q_L_9 x m o d (fun j => zscr g (i.toNat + j)) P σ) (kk : ∀ τ, P τ → zw g Y_L_law room_1 3919 [(0, (6, 200)), (1, (4, x)), (2, (4, m)), (3, (4, o)), (4, (4, d)), (5, (0, i))] [] τ C' D' zQ1) : zw g Y_L_law room_1 625 [(0, (6, 200)), (1, (4, x)), (2, (4, m)), (3, (4, o)), (4, (4, d)), (5, (0, i))] [] σ (C' + 31) (D' + 7344) zQ1 := by
  unfold q_L_9 at h
  refine r_aload_n 1 dL_law_625 rfl ?_
  refine r_scrk (k := 1) 0 5 hL9 hi (by omega) dL_law_626 rfl dL_law_627 rfl dL_law_629 dL_law_630 dL_law_631 ?_
  refine r_aload_n 3 dL_law_632 rfl ?_
  refine r_callSH (K' := Y_L_neighbors) (R' := R_L_neighbors) (idx := 230) (n := 3) (as := [(4, x), (0, (zscr g (i.toNat + 1))), (4, o)]) (rest := []) (C' := C') (D' := D') k0_L_neighbors wl_861 wl_860 ⟨by decide, by decide⟩ dL_law_633 rfl rfl (Nat.le_of_ble_eq_true rfl) (by have e : R_L_neighbors.cells = 1 := rfl; omega) (by have e : R_L_neighbors.slots = 6 := rfl; omega) (m_L_neighbors hl0 hx h) (fun e τ hq => by obtain ⟨c, τ', e0, -⟩ := hq; cases e0) (fun c9 τ9 hq => ?_)
  obtain ⟨c, τ, e0, hk⟩ := hq
  obtain ⟨e1, e2⟩ : c9 = c ∧ τ9 = τ := by cases e0; exact ⟨rfl, rfl⟩
  rw [e1, e2]
  obtain ⟨hm1, b, τ1, hb, hm2, t, τ2, ht, hc, hv, hP⟩ := hk
  refine r_istore (L' := [(6, (0, c)), (0, (6, 200)), (1, (4, x)), (2, (4, m)), (3, (4, o)), (4, (4, d)), (5, (0, i))]) dL_law_636 (by decide) rfl ?_
  refine r_aload_n 3 dL_law_638 rfl ?_
  refine r_scrk (k := 1) 1 6 hL9 hi (by omega) dL_law_639 rfl dL_law_640 rfl dL_law_642 dL_law_643 dL_law_644 ?_
  refine r_callVC (K' := Y_X8_neighbors) (R' := R_X8_neighbors) (idx := 232) (n := 1) (b := m) (as := [(0, (zscr g (i.toNat + 1)))]) (rest := []) (cn := 8) (C' := C') (D' := D') k0_X8_neighbors kV_X8_neighbors kl_L_232 ⟨by decide, by decide⟩ dL_law_645 rfl rfl (Nat.le_of_ble_eq_true rfl) (by have e : R_X8_neighbors.cells = 0 := rfl; omega) (by have e : R_X8_neighbors.slots = 0 := rfl; omega) rfl hm1 ⟨_, hb⟩ (fun r hr => m_X8_neighbors hl0 ⟨r, hr, hr⟩) (fun ex τ n q hq hn => by rw [hb] at hq; cases hq) (fun v9 τ9 hq => ?_)
  obtain ⟨e1, e2⟩ : v9 = b ∧ τ9 = τ1 := by rw [hb] at hq; cases hq; exact ⟨rfl, rfl⟩
  rw [e1, e2]
  refine r_istore (L' := [(7, (0, b)), (6, (0, c)), (0, (6, 200)), (1, (4, x)), (2, (4, m)), (3, (4, o)), (4, (4, d)), (5, (0, i))]) dL_law_648 (by decide) rfl ?_
  refine r_aload_n 4 dL_law_650 rfl ?_
  refine r_callVC (K' := Y_X8_thrown) (R' := R_X8_thrown) (idx := 195) (n := 0) (b := m) (as := []) (rest := []) (cn := 8) (C' := C') (D' := D') k0_X8_thrown kV_X8_thrown kl_L_195 ⟨by decide, by decide⟩ dL_law_651 rfl rfl (Nat.le_of_ble_eq_true rfl) (by have e : R_X8_thrown.cells = 0 := rfl; omega) (by have e : R_X8_thrown.slots = 0 := rfl; omega) rfl hm2 ⟨_, ht⟩ (fun r hr => m_X8_thrown hl0 ⟨r, hr, hr⟩) (fun ex τ n q hq hn => by rw [ht] at hq; cases hq) (fun v9 τ9 hq => ?_)
  obtain ⟨e1, e2⟩ : v9 = t ∧ τ9 = τ2 := by rw [ht] at hq; cases hq; exact ⟨rfl, rfl⟩
  rw [e1, e2]
  refine r_iload 1 dL_law_654 rfl ?_
  refine r_icmp_eq 661 dL_law_656 (by decide) (z_yes (σ := σ) hc) (fun _ => ?_) (fun h => by obtain ⟨r, h, -⟩ := h; cases h)
  refine r_iload 1 dL_law_661 rfl ?_
  refine r_if_ne 678 dL_law_663 (by decide) (z_br (σ := σ)) (fun _ => ?_) (fun h => ?_)
  · refine r_goto 3919 dL_law_678 (by decide) ?_
    refine r_weak (L' := [(0, (6, 200)), (1, (4, x)), (2, (4, m)), (3, (4, o)), (4, (4, d)), (5, (0, i))]) [2, 3, 4, 5, 6, 7] rfl ?_
    exact kk _ hP
  · have hv := hv (zite_p h)
    refine r_aload_n 5 dL_law_666 rfl ?_
    refine r_iconst (v := 0) dL_law_667 rfl rfl ?_
    refine r_lald dL_law_668 hv (fun v h => ?_)
    refine r_iload 0 dL_law_669 rfl ?_
    refine r_i2l dL_law_671 ?_
    refine r_lcmp dL_law_672 ?_
    refine r_if_eq 678 dL_law_673 (by decide) (z_yes (σ := σ) (zlc_eq (zite_p h))) (fun _ => ?_) (fun h => by obtain ⟨r, h, -⟩ := h; cases h)
    refine r_goto 3919 dL_law_678 (by decide) ?_
    refine r_weak (L' := [(0, (6, 200)), (1, (4, x)), (2, (4, m)), (3, (4, o)), (4, (4, d)), (5, (0, i))]) [2, 3, 4, 5, 6, 7] rfl ?_
    exact kk _ hP
set_option maxHeartbeats 4000000 in
theorem t_L_10 {g : zF} (hl0 : g.2.2.2.1.stackTraces = false) (hL9 : zsl9 g ≤ 3072) {x m o d i : Int} {σ : zS} {C' D' : Nat} {P : zS → Prop} (hi : 0 ≤ i) (hi6 : i + 6 ≤ (zsl9 g : Int)) (hx : σ.1.1 x = some (0, 7)) (h : q_L_10 x m o d (fun j => zscr g (i.toNat + j)) P σ) (kk : ∀ τ, P τ → zw g Y_L_law room_1 3919 [(0, (6, 200)), (1, (4, x)), (2, (4, m)), (3, (4, o)), (4, (4, d)), (5, (0, i))] [] τ C' D' zQ1) : zw g Y_L_law room_1 681 [(0, (6, 200)), (1, (4, x)), (2, (4, m)), (3, (4, o)), (4, (4, d)), (5, (0, i))] [] σ (C' + 31) (D' + 7344) zQ1 := by
  unfold q_L_10 at h
  refine r_aload_n 1 dL_law_681 rfl ?_
  refine r_scrk (k := 1) 0 5 hL9 hi (by omega) dL_law_682 rfl dL_law_683 rfl dL_law_685 dL_law_686 dL_law_687 ?_
  refine r_scrk (k := 2) 0 5 hL9 hi (by omega) dL_law_688 rfl dL_law_689 rfl dL_law_691 dL_law_692 dL_law_693 ?_
  refine r_aload_n 3 dL_law_694 rfl ?_
  refine r_callSH (K' := Y_L_distance) (R' := R_L_distance) (idx := 233) (n := 4) (as := [(4, x), (0, (zscr g (i.toNat + 1))), (0, (zscr g (i.toNat + 2))), (4, o)]) (rest := []) (C' := C') (D' := D') k0_L_distance wl_869 wl_868 ⟨by decide, by decide⟩ dL_law_695 rfl rfl (Nat.le_of_ble_eq_true rfl) (by have e : R_L_distance.cells = 2 := rfl; omega) (by have e : R_L_distance.slots = 12 := rfl; omega) (m_L_distance hl0 hx h) (fun e τ hq => by obtain ⟨c, τ', e0, -⟩ := hq; cases e0) (fun c9 τ9 hq => ?_)
  obtain ⟨c, τ, e0, hk⟩ := hq
  obtain ⟨e1, e2⟩ : c9 = c ∧ τ9 = τ := by cases e0; exact ⟨rfl, rfl⟩
  rw [e1, e2]
  obtain ⟨hm1, b, τ1, hb, hm2, t, τ2, ht, hc, hv, hP⟩ := hk
  refine r_istore (L' := [(6, (0, c)), (0, (6, 200)), (1, (4, x)), (2, (4, m)), (3, (4, o)), (4, (4, d)), (5, (0, i))]) dL_law_698 (by decide) rfl ?_
  refine r_aload_n 3 dL_law_700 rfl ?_
  refine r_scrk (k := 1) 1 6 hL9 hi (by omega) dL_law_701 rfl dL_law_702 rfl dL_law_704 dL_law_705 dL_law_706 ?_
  refine r_scrk (k := 2) 1 6 hL9 hi (by omega) dL_law_707 rfl dL_law_708 rfl dL_law_710 dL_law_711 dL_law_712 ?_
  refine r_callVC (K' := Y_X8_distance) (R' := R_X8_distance) (idx := 235) (n := 2) (b := m) (as := [(0, (zscr g (i.toNat + 1))), (0, (zscr g (i.toNat + 2)))]) (rest := []) (cn := 8) (C' := C') (D' := D') k0_X8_distance kV_X8_distance kl_L_235 ⟨by decide, by decide⟩ dL_law_713 rfl rfl (Nat.le_of_ble_eq_true rfl) (by have e : R_X8_distance.cells = 0 := rfl; omega) (by have e : R_X8_distance.slots = 0 := rfl; omega) rfl hm1 ⟨_, hb⟩ (fun r hr => m_X8_distance hl0 ⟨r, hr, hr⟩) (fun ex τ n q hq hn => by rw [hb] at hq; cases hq) (fun v9 τ9 hq => ?_)
  obtain ⟨e1, e2⟩ : v9 = b ∧ τ9 = τ1 := by rw [hb] at hq; cases hq; exact ⟨rfl, rfl⟩
  rw [e1, e2]
  refine r_istore (L' := [(7, (0, b)), (6, (0, c)), (0, (6, 200)), (1, (4, x)), (2, (4, m)), (3, (4, o)), (4, (4, d)), (5, (0, i))]) dL_law_716 (by decide) rfl ?_
  refine r_aload_n 4 dL_law_718 rfl ?_
  refine r_callVC (K' := Y_X8_thrown) (R' := R_X8_thrown) (idx := 195) (n := 0) (b := m) (as := []) (rest := []) (cn := 8) (C' := C') (D' := D') k0_X8_thrown kV_X8_thrown kl_L_195 ⟨by decide, by decide⟩ dL_law_719 rfl rfl (Nat.le_of_ble_eq_true rfl) (by have e : R_X8_thrown.cells = 0 := rfl; omega) (by have e : R_X8_thrown.slots = 0 := rfl; omega) rfl hm2 ⟨_, ht⟩ (fun r hr => m_X8_thrown hl0 ⟨r, hr, hr⟩) (fun ex τ n q hq hn => by rw [ht] at hq; cases hq) (fun v9 τ9 hq => ?_)
  obtain ⟨e1, e2⟩ : v9 = t ∧ τ9 = τ2 := by rw [ht] at hq; cases hq; exact ⟨rfl, rfl⟩
  rw [e1, e2]
  refine r_iload 1 dL_law_722 rfl ?_
  refine r_icmp_eq 729 dL_law_724 (by decide) (z_yes (σ := σ) hc) (fun _ => ?_) (fun h => by obtain ⟨r, h, -⟩ := h; cases h)
  refine r_iload 1 dL_law_729 rfl ?_
  refine r_if_ne 746 dL_law_731 (by decide) (z_br (σ := σ)) (fun _ => ?_) (fun h => ?_)
  · refine r_goto 3919 dL_law_746 (by decide) ?_
    refine r_weak (L' := [(0, (6, 200)), (1, (4, x)), (2, (4, m)), (3, (4, o)), (4, (4, d)), (5, (0, i))]) [2, 3, 4, 5, 6, 7] rfl ?_
    exact kk _ hP
  · have hv := hv (zite_p h)
    refine r_aload_n 5 dL_law_734 rfl ?_
    refine r_iconst (v := 0) dL_law_735 rfl rfl ?_
    refine r_lald dL_law_736 hv (fun v h => ?_)
    refine r_iload 0 dL_law_737 rfl ?_
    refine r_i2l dL_law_739 ?_
    refine r_lcmp dL_law_740 ?_
    refine r_if_eq 746 dL_law_741 (by decide) (z_yes (σ := σ) (zlc_eq (zite_p h))) (fun _ => ?_) (fun h => by obtain ⟨r, h, -⟩ := h; cases h)
    refine r_goto 3919 dL_law_746 (by decide) ?_
    refine r_weak (L' := [(0, (6, 200)), (1, (4, x)), (2, (4, m)), (3, (4, o)), (4, (4, d)), (5, (0, i))]) [2, 3, 4, 5, 6, 7] rfl ?_
    exact kk _ hP
set_option maxHeartbeats 4000000 in
theorem t_L_11 {g : zF} (hl0 : g.2.2.2.1.stackTraces = false) (hL9 : zsl9 g ≤ 3072) {x m o d i : Int} {σ : zS} {C' D' : Nat} {P : zS → Prop} (hi : 0 ≤ i) (hi6 : i + 6 ≤ (zsl9 g : Int)) (hx : σ.1.1 x = some (0, 7)) (h : q_L_11 x m o d (fun j => zscr g (i.toNat + j)) P σ) (kk : ∀ τ, P τ → zw g Y_L_law room_1 3919 [(0, (6, 200)), (1, (4, x)), (2, (4, m)), (3, (4, o)), (4, (4, d)), (5, (0, i))] [] τ C' D' zQ1) : zw g Y_L_law room_1 749 [(0, (6, 200)), (1, (4, x)), (2, (4, m)), (3, (4, o)), (4, (4, d)), (5, (0, i))] [] σ (C' + 31) (D' + 7344) zQ1 := by
  unfold q_L_11 at h
  refine r_aload_n 1 dL_law_749 rfl ?_
  refine r_scrk (k := 1) 0 5 hL9 hi (by omega) dL_law_750 rfl dL_law_751 rfl dL_law_753 dL_law_754 dL_law_755 ?_
  refine r_scrk (k := 2) 0 5 hL9 hi (by omega) dL_law_756 rfl dL_law_757 rfl dL_law_759 dL_law_760 dL_law_761 ?_
  refine r_aload_n 3 dL_law_762 rfl ?_
  refine r_callSH (K' := Y_L_bottleneck) (R' := R_L_bottleneck) (idx := 236) (n := 4) (as := [(4, x), (0, (zscr g (i.toNat + 1))), (0, (zscr g (i.toNat + 2))), (4, o)]) (rest := []) (C' := C') (D' := D') k0_L_bottleneck wl_884 wl_883 ⟨by decide, by decide⟩ dL_law_763 rfl rfl (Nat.le_of_ble_eq_true rfl) (by have e : R_L_bottleneck.cells = 2 := rfl; omega) (by have e : R_L_bottleneck.slots = 12 := rfl; omega) (m_L_bottleneck hl0 hx h) (fun e τ hq => by obtain ⟨c, τ', e0, -⟩ := hq; cases e0) (fun c9 τ9 hq => ?_)
  obtain ⟨c, τ, e0, hk⟩ := hq
  obtain ⟨e1, e2⟩ : c9 = c ∧ τ9 = τ := by cases e0; exact ⟨rfl, rfl⟩
  rw [e1, e2]
  obtain ⟨hm1, b, τ1, hb, hm2, t, τ2, ht, hc, hv, hP⟩ := hk
  refine r_istore (L' := [(6, (0, c)), (0, (6, 200)), (1, (4, x)), (2, (4, m)), (3, (4, o)), (4, (4, d)), (5, (0, i))]) dL_law_766 (by decide) rfl ?_
  refine r_aload_n 3 dL_law_768 rfl ?_
  refine r_scrk (k := 1) 1 6 hL9 hi (by omega) dL_law_769 rfl dL_law_770 rfl dL_law_772 dL_law_773 dL_law_774 ?_
  refine r_scrk (k := 2) 1 6 hL9 hi (by omega) dL_law_775 rfl dL_law_776 rfl dL_law_778 dL_law_779 dL_law_780 ?_
  refine r_callVC (K' := Y_X8_bottleneck) (R' := R_X8_bottleneck) (idx := 238) (n := 2) (b := m) (as := [(0, (zscr g (i.toNat + 1))), (0, (zscr g (i.toNat + 2)))]) (rest := []) (cn := 8) (C' := C') (D' := D') k0_X8_bottleneck kV_X8_bottleneck kl_L_238 ⟨by decide, by decide⟩ dL_law_781 rfl rfl (Nat.le_of_ble_eq_true rfl) (by have e : R_X8_bottleneck.cells = 0 := rfl; omega) (by have e : R_X8_bottleneck.slots = 0 := rfl; omega) rfl hm1 ⟨_, hb⟩ (fun r hr => m_X8_bottleneck hl0 ⟨r, hr, hr⟩) (fun ex τ n q hq hn => by rw [hb] at hq; cases hq) (fun v9 τ9 hq => ?_)
  obtain ⟨e1, e2⟩ : v9 = b ∧ τ9 = τ1 := by rw [hb] at hq; cases hq; exact ⟨rfl, rfl⟩
  rw [e1, e2]
  refine r_istore (L' := [(7, (0, b)), (6, (0, c)), (0, (6, 200)), (1, (4, x)), (2, (4, m)), (3, (4, o)), (4, (4, d)), (5, (0, i))]) dL_law_784 (by decide) rfl ?_
  refine r_aload_n 4 dL_law_786 rfl ?_
  refine r_callVC (K' := Y_X8_thrown) (R' := R_X8_thrown) (idx := 195) (n := 0) (b := m) (as := []) (rest := []) (cn := 8) (C' := C') (D' := D') k0_X8_thrown kV_X8_thrown kl_L_195 ⟨by decide, by decide⟩ dL_law_787 rfl rfl (Nat.le_of_ble_eq_true rfl) (by have e : R_X8_thrown.cells = 0 := rfl; omega) (by have e : R_X8_thrown.slots = 0 := rfl; omega) rfl hm2 ⟨_, ht⟩ (fun r hr => m_X8_thrown hl0 ⟨r, hr, hr⟩) (fun ex τ n q hq hn => by rw [ht] at hq; cases hq) (fun v9 τ9 hq => ?_)
  obtain ⟨e1, e2⟩ : v9 = t ∧ τ9 = τ2 := by rw [ht] at hq; cases hq; exact ⟨rfl, rfl⟩
  rw [e1, e2]
  refine r_iload 1 dL_law_790 rfl ?_
  refine r_icmp_eq 797 dL_law_792 (by decide) (z_yes (σ := σ) hc) (fun _ => ?_) (fun h => by obtain ⟨r, h, -⟩ := h; cases h)
  refine r_iload 1 dL_law_797 rfl ?_
  refine r_if_ne 814 dL_law_799 (by decide) (z_br (σ := σ)) (fun _ => ?_) (fun h => ?_)
  · refine r_goto 3919 dL_law_814 (by decide) ?_
    refine r_weak (L' := [(0, (6, 200)), (1, (4, x)), (2, (4, m)), (3, (4, o)), (4, (4, d)), (5, (0, i))]) [2, 3, 4, 5, 6, 7] rfl ?_
    exact kk _ hP
  · have hv := hv (zite_p h)
    refine r_aload_n 5 dL_law_802 rfl ?_
    refine r_iconst (v := 0) dL_law_803 rfl rfl ?_
    refine r_lald dL_law_804 hv (fun v h => ?_)
    refine r_iload 0 dL_law_805 rfl ?_
    refine r_i2l dL_law_807 ?_
    refine r_lcmp dL_law_808 ?_
    refine r_if_eq 814 dL_law_809 (by decide) (z_yes (σ := σ) (zlc_eq (zite_p h))) (fun _ => ?_) (fun h => by obtain ⟨r, h, -⟩ := h; cases h)
    refine r_goto 3919 dL_law_814 (by decide) ?_
    refine r_weak (L' := [(0, (6, 200)), (1, (4, x)), (2, (4, m)), (3, (4, o)), (4, (4, d)), (5, (0, i))]) [2, 3, 4, 5, 6, 7] rfl ?_
    exact kk _ hP
