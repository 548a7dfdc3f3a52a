set_option maxHeartbeats 4000000 in
theorem t_L_48 {g : zF} (hl0 : g.2.2.2.1.stackTraces = false) (hL9 : zsl9 g ≤ 3072) {x m o d i : Int} {σ : zS} {C' D' : Nat} {P : zS → Prop} (hi : 0 ≤ i) (hi6 : i + 6 ≤ (zsl9 g : Int)) (hx : σ.1.1 x = some (0, 7)) (h : q_L_48 x m o d (fun j => zscr g (i.toNat + j)) P σ) (kk : ∀ τ, P τ → zw g Y_L_law room_1 3919 [(0, (6, 200)), (1, (4, x)), (2, (4, m)), (3, (4, o)), (4, (4, d)), (5, (0, i))] [] τ C' D' zQ1) : zw g Y_L_law room_1 3310 [(0, (6, 200)), (1, (4, x)), (2, (4, m)), (3, (4, o)), (4, (4, d)), (5, (0, i))] [] σ (C' + 31) (D' + 7344) zQ1 := by
  unfold q_L_48 at h
  refine r_aload_n 1 dL_law_3310 rfl ?_
  refine r_scrk (k := 1) 0 5 hL9 hi (by omega) dL_law_3311 rfl dL_law_3312 rfl dL_law_3314 dL_law_3315 dL_law_3316 ?_
  refine r_scrk (k := 2) 0 5 hL9 hi (by omega) dL_law_3317 rfl dL_law_3318 rfl dL_law_3320 dL_law_3321 dL_law_3322 ?_
  refine r_scrk (k := 3) 0 5 hL9 hi (by omega) dL_law_3323 rfl dL_law_3324 rfl dL_law_3326 dL_law_3327 dL_law_3328 ?_
  refine r_aload_n 3 dL_law_3329 rfl ?_
  refine r_callSH (K' := Y_L_setTrust) (R' := R_L_setTrust) (idx := 352) (n := 5) (as := [(4, x), (0, (zscr g (i.toNat + 1))), (0, (zscr g (i.toNat + 2))), (0, (zscr g (i.toNat + 3))), (4, o)]) (rest := []) (C' := C') (D' := D') k0_L_setTrust wl_1324 wl_1323 ⟨by decide, by decide⟩ dL_law_3330 rfl rfl (Nat.le_of_ble_eq_true rfl) (by have e : R_L_setTrust.cells = 30 := rfl; omega) (by have e : R_L_setTrust.slots = 7338 := rfl; omega) (m_L_setTrust hl0 hx h) (fun e τ hq => by obtain ⟨c, τ', e0, -⟩ := hq; cases e0) (fun c9 τ9 hq => ?_)
  obtain ⟨c, τ, e0, hk⟩ := hq
  obtain ⟨e1, e2⟩ : c9 = c ∧ τ9 = τ := by cases e0; exact ⟨rfl, rfl⟩
  rw [e1, e2]
  obtain ⟨hm1, b, τ1, hb, hm2, t, τ2, ht, hc, hv, hP⟩ := hk
  refine r_istore (L' := [(6, (0, c)), (0, (6, 200)), (1, (4, x)), (2, (4, m)), (3, (4, o)), (4, (4, d)), (5, (0, i))]) dL_law_3333 (by decide) rfl ?_
  refine r_aload_n 3 dL_law_3335 rfl ?_
  refine r_scrk (k := 1) 1 6 hL9 hi (by omega) dL_law_3336 rfl dL_law_3337 rfl dL_law_3339 dL_law_3340 dL_law_3341 ?_
  refine r_scrk (k := 2) 1 6 hL9 hi (by omega) dL_law_3342 rfl dL_law_3343 rfl dL_law_3345 dL_law_3346 dL_law_3347 ?_
  refine r_scrk (k := 3) 1 6 hL9 hi (by omega) dL_law_3348 rfl dL_law_3349 rfl dL_law_3351 dL_law_3352 dL_law_3353 ?_
  refine r_callVC (K' := Y_X8_setTrust) (R' := R_X8_setTrust) (idx := 354) (n := 3) (b := m) (as := [(0, (zscr g (i.toNat + 1))), (0, (zscr g (i.toNat + 2))), (0, (zscr g (i.toNat + 3)))]) (rest := []) (cn := 8) (C' := C') (D' := D') k0_X8_setTrust kV_X8_setTrust kl_L_354 ⟨by decide, by decide⟩ dL_law_3354 rfl rfl (Nat.le_of_ble_eq_true rfl) (by have e : R_X8_setTrust.cells = 0 := rfl; omega) (by have e : R_X8_setTrust.slots = 0 := rfl; omega) rfl hm1 ⟨_, hb⟩ (fun r hr => m_X8_setTrust hl0 ⟨r, hr, hr⟩) (fun ex τ n q hq hn => by rw [hb] at hq; cases hq) (fun v9 τ9 hq => ?_)
  obtain ⟨e1, e2⟩ : v9 = b ∧ τ9 = τ1 := by rw [hb] at hq; cases hq; exact ⟨rfl, rfl⟩
  rw [e1, e2]
  refine r_istore (L' := [(7, (0, b)), (6, (0, c)), (0, (6, 200)), (1, (4, x)), (2, (4, m)), (3, (4, o)), (4, (4, d)), (5, (0, i))]) dL_law_3357 (by decide) rfl ?_
  refine r_aload_n 4 dL_law_3359 rfl ?_
  refine r_callVC (K' := Y_X8_thrown) (R' := R_X8_thrown) (idx := 195) (n := 0) (b := m) (as := []) (rest := []) (cn := 8) (C' := C') (D' := D') k0_X8_thrown kV_X8_thrown kl_L_195 ⟨by decide, by decide⟩ dL_law_3360 rfl rfl (Nat.le_of_ble_eq_true rfl) (by have e : R_X8_thrown.cells = 0 := rfl; omega) (by have e : R_X8_thrown.slots = 0 := rfl; omega) rfl hm2 ⟨_, ht⟩ (fun r hr => m_X8_thrown hl0 ⟨r, hr, hr⟩) (fun ex τ n q hq hn => by rw [ht] at hq; cases hq) (fun v9 τ9 hq => ?_)
  obtain ⟨e1, e2⟩ : v9 = t ∧ τ9 = τ2 := by rw [ht] at hq; cases hq; exact ⟨rfl, rfl⟩
  rw [e1, e2]
  refine r_iload 1 dL_law_3363 rfl ?_
  refine r_icmp_eq 3370 dL_law_3365 (by decide) (z_yes (σ := σ) hc) (fun _ => ?_) (fun h => by obtain ⟨r, h, -⟩ := h; cases h)
  refine r_iload 1 dL_law_3370 rfl ?_
  refine r_if_ne 3387 dL_law_3372 (by decide) (z_br (σ := σ)) (fun _ => ?_) (fun h => ?_)
  · refine r_goto 3919 dL_law_3387 (by decide) ?_
    refine r_weak (L' := [(0, (6, 200)), (1, (4, x)), (2, (4, m)), (3, (4, o)), (4, (4, d)), (5, (0, i))]) [2, 3, 4, 5, 6, 7] rfl ?_
    exact kk _ hP
  · have hv := hv (zite_p h)
    refine r_aload_n 5 dL_law_3375 rfl ?_
    refine r_iconst (v := 0) dL_law_3376 rfl rfl ?_
    refine r_lald dL_law_3377 hv (fun v h => ?_)
    refine r_iload 0 dL_law_3378 rfl ?_
    refine r_i2l dL_law_3380 ?_
    refine r_lcmp dL_law_3381 ?_
    refine r_if_eq 3387 dL_law_3382 (by decide) (z_yes (σ := σ) (zlc_eq (zite_p h))) (fun _ => ?_) (fun h => by obtain ⟨r, h, -⟩ := h; cases h)
    refine r_goto 3919 dL_law_3387 (by decide) ?_
    refine r_weak (L' := [(0, (6, 200)), (1, (4, x)), (2, (4, m)), (3, (4, o)), (4, (4, d)), (5, (0, i))]) [2, 3, 4, 5, 6, 7] rfl ?_
    exact kk _ hP
set_option maxHeartbeats 4000000 in
theorem t_L_49 {g : zF} (hl0 : g.2.2.2.1.stackTraces = false) (hL9 : zsl9 g ≤ 3072) {x m o d i : Int} {σ : zS} {C' D' : Nat} {P : zS → Prop} (hi : 0 ≤ i) (hi6 : i + 6 ≤ (zsl9 g : Int)) (hx : σ.1.1 x = some (0, 7)) (h : q_L_49 x m o d (fun j => zscr g (i.toNat + j)) P σ) (kk : ∀ τ, P τ → zw g Y_L_law room_1 3919 [(0, (6, 200)), (1, (4, x)), (2, (4, m)), (3, (4, o)), (4, (4, d)), (5, (0, i))] [] τ C' D' zQ1) : zw g Y_L_law room_1 3390 [(0, (6, 200)), (1, (4, x)), (2, (4, m)), (3, (4, o)), (4, (4, d)), (5, (0, i))] [] σ (C' + 31) (D' + 7344) zQ1 := by
  unfold q_L_49 at h
  refine r_aload_n 1 dL_law_3390 rfl ?_
  refine r_scrk (k := 1) 0 5 hL9 hi (by omega) dL_law_3391 rfl dL_law_3392 rfl dL_law_3394 dL_law_3395 dL_law_3396 ?_
  refine r_scrk (k := 2) 0 5 hL9 hi (by omega) dL_law_3397 rfl dL_law_3398 rfl dL_law_3400 dL_law_3401 dL_law_3402 ?_
  refine r_aload_n 3 dL_law_3403 rfl ?_
  refine r_callSH (K' := Y_L_setRule) (R' := R_L_setRule) (idx := 355) (n := 4) (as := [(4, x), (0, (zscr g (i.toNat + 1))), (0, (zscr g (i.toNat + 2))), (4, o)]) (rest := []) (C' := C') (D' := D') k0_L_setRule wl_1332 wl_1331 ⟨by decide, by decide⟩ dL_law_3404 rfl rfl (Nat.le_of_ble_eq_true rfl) (by have e : R_L_setRule.cells = 27 := rfl; omega) (by have e : R_L_setRule.slots = 7320 := rfl; omega) (m_L_setRule hl0 hx h) (fun e τ hq => by obtain ⟨c, τ', e0, -⟩ := hq; cases e0) (fun c9 τ9 hq => ?_)
  obtain ⟨c, τ, e0, hk⟩ := hq
  obtain ⟨e1, e2⟩ : c9 = c ∧ τ9 = τ := by cases e0; exact ⟨rfl, rfl⟩
  rw [e1, e2]
  obtain ⟨hm1, b, τ1, hb, hm2, t, τ2, ht, hc, hv, hP⟩ := hk
  refine r_istore (L' := [(6, (0, c)), (0, (6, 200)), (1, (4, x)), (2, (4, m)), (3, (4, o)), (4, (4, d)), (5, (0, i))]) dL_law_3407 (by decide) rfl ?_
  refine r_aload_n 3 dL_law_3409 rfl ?_
  refine r_scrk (k := 1) 1 6 hL9 hi (by omega) dL_law_3410 rfl dL_law_3411 rfl dL_law_3413 dL_law_3414 dL_law_3415 ?_
  refine r_scrk (k := 2) 1 6 hL9 hi (by omega) dL_law_3416 rfl dL_law_3417 rfl dL_law_3419 dL_law_3420 dL_law_3421 ?_
  refine r_callVC (K' := Y_X8_setRule) (R' := R_X8_setRule) (idx := 357) (n := 2) (b := m) (as := [(0, (zscr g (i.toNat + 1))), (0, (zscr g (i.toNat + 2)))]) (rest := []) (cn := 8) (C' := C') (D' := D') k0_X8_setRule kV_X8_setRule kl_L_357 ⟨by decide, by decide⟩ dL_law_3422 rfl rfl (Nat.le_of_ble_eq_true rfl) (by have e : R_X8_setRule.cells = 0 := rfl; omega) (by have e : R_X8_setRule.slots = 0 := rfl; omega) rfl hm1 ⟨_, hb⟩ (fun r hr => m_X8_setRule hl0 ⟨r, hr, hr⟩) (fun ex τ n q hq hn => by rw [hb] at hq; cases hq) (fun v9 τ9 hq => ?_)
  obtain ⟨e1, e2⟩ : v9 = b ∧ τ9 = τ1 := by rw [hb] at hq; cases hq; exact ⟨rfl, rfl⟩
  rw [e1, e2]
  refine r_istore (L' := [(7, (0, b)), (6, (0, c)), (0, (6, 200)), (1, (4, x)), (2, (4, m)), (3, (4, o)), (4, (4, d)), (5, (0, i))]) dL_law_3425 (by decide) rfl ?_
  refine r_aload_n 4 dL_law_3427 rfl ?_
  refine r_callVC (K' := Y_X8_thrown) (R' := R_X8_thrown) (idx := 195) (n := 0) (b := m) (as := []) (rest := []) (cn := 8) (C' := C') (D' := D') k0_X8_thrown kV_X8_thrown kl_L_195 ⟨by decide, by decide⟩ dL_law_3428 rfl rfl (Nat.le_of_ble_eq_true rfl) (by have e : R_X8_thrown.cells = 0 := rfl; omega) (by have e : R_X8_thrown.slots = 0 := rfl; omega) rfl hm2 ⟨_, ht⟩ (fun r hr => m_X8_thrown hl0 ⟨r, hr, hr⟩) (fun ex τ n q hq hn => by rw [ht] at hq; cases hq) (fun v9 τ9 hq => ?_)
  obtain ⟨e1, e2⟩ : v9 = t ∧ τ9 = τ2 := by rw [ht] at hq; cases hq; exact ⟨rfl, rfl⟩
  rw [e1, e2]
  refine r_iload 1 dL_law_3431 rfl ?_
  refine r_icmp_eq 3438 dL_law_3433 (by decide) (z_yes (σ := σ) hc) (fun _ => ?_) (fun h => by obtain ⟨r, h, -⟩ := h; cases h)
  refine r_iload 1 dL_law_3438 rfl ?_
  refine r_if_ne 3455 dL_law_3440 (by decide) (z_br (σ := σ)) (fun _ => ?_) (fun h => ?_)
  · refine r_goto 3919 dL_law_3455 (by decide) ?_
    refine r_weak (L' := [(0, (6, 200)), (1, (4, x)), (2, (4, m)), (3, (4, o)), (4, (4, d)), (5, (0, i))]) [2, 3, 4, 5, 6, 7] rfl ?_
    exact kk _ hP
  · have hv := hv (zite_p h)
    refine r_aload_n 5 dL_law_3443 rfl ?_
    refine r_iconst (v := 0) dL_law_3444 rfl rfl ?_
    refine r_lald dL_law_3445 hv (fun v h => ?_)
    refine r_iload 0 dL_law_3446 rfl ?_
    refine r_i2l dL_law_3448 ?_
    refine r_lcmp dL_law_3449 ?_
    refine r_if_eq 3455 dL_law_3450 (by decide) (z_yes (σ := σ) (zlc_eq (zite_p h))) (fun _ => ?_) (fun h => by obtain ⟨r, h, -⟩ := h; cases h)
    refine r_goto 3919 dL_law_3455 (by decide) ?_
    refine r_weak (L' := [(0, (6, 200)), (1, (4, x)), (2, (4, m)), (3, (4, o)), (4, (4, d)), (5, (0, i))]) [2, 3, 4, 5, 6, 7] rfl ?_
    exact kk _ hP
set_option maxHeartbeats 4000000 in
theorem t_L_50 {g : zF} (hl0 : g.2.2.2.1.stackTraces = false) (hL9 : zsl9 g ≤ 3072) {x m o d i : Int} {σ : zS} {C' D' : Nat} {P : zS → Prop} (hi : 0 ≤ i) (hi6 : i + 6 ≤ (zsl9 g : Int)) (hx : σ.1.1 x = some (0, 7)) (h : q_L_50 x m o d (fun j => zscr g (i.toNat + j)) P σ) (kk : ∀ τ, P τ → zw g Y_L_law room_1 3919 [(0, (6, 200)), (1, (4, x)), (2, (4, m)), (3, (4, o)), (4, (4, d)), (5, (0, i))] [] τ C' D' zQ1) : zw g Y_L_law room_1 3458 [(0, (6, 200)), (1, (4, x)), (2, (4, m)), (3, (4, o)), (4, (4, d)), (5, (0, i))] [] σ (C' + 31) (D' + 7344) zQ1 := by
  unfold q_L_50 at h
  refine r_aload_n 1 dL_law_3458 rfl ?_
  refine r_scrk (k := 1) 0 5 hL9 hi (by omega) dL_law_3459 rfl dL_law_3460 rfl dL_law_3462 dL_law_3463 dL_law_3464 ?_
  refine r_scrk (k := 2) 0 5 hL9 hi (by omega) dL_law_3465 rfl dL_law_3466 rfl dL_law_3468 dL_law_3469 dL_law_3470 ?_
  refine r_aload_n 3 dL_law_3471 rfl ?_
  refine r_callSH (K' := Y_L_forget) (R' := R_L_forget) (idx := 358) (n := 4) (as := [(4, x), (0, (zscr g (i.toNat + 1))), (0, (zscr g (i.toNat + 2))), (4, o)]) (rest := []) (C' := C') (D' := D') k0_L_forget wl_1346 wl_1345 ⟨by decide, by decide⟩ dL_law_3472 rfl rfl (Nat.le_of_ble_eq_true rfl) (by have e : R_L_forget.cells = 29 := rfl; omega) (by have e : R_L_forget.slots = 7332 := rfl; omega) (m_L_forget hl0 hx h) (fun e τ hq => by obtain ⟨c, τ', e0, -⟩ := hq; cases e0) (fun c9 τ9 hq => ?_)
  obtain ⟨c, τ, e0, hk⟩ := hq
  obtain ⟨e1, e2⟩ : c9 = c ∧ τ9 = τ := by cases e0; exact ⟨rfl, rfl⟩
  rw [e1, e2]
  obtain ⟨hm1, b, τ1, hb, hm2, t, τ2, ht, hc, hv, hP⟩ := hk
  refine r_istore (L' := [(6, (0, c)), (0, (6, 200)), (1, (4, x)), (2, (4, m)), (3, (4, o)), (4, (4, d)), (5, (0, i))]) dL_law_3475 (by decide) rfl ?_
  refine r_aload_n 3 dL_law_3477 rfl ?_
  refine r_scrk (k := 1) 1 6 hL9 hi (by omega) dL_law_3478 rfl dL_law_3479 rfl dL_law_3481 dL_law_3482 dL_law_3483 ?_
  refine r_scrk (k := 2) 1 6 hL9 hi (by omega) dL_law_3484 rfl dL_law_3485 rfl dL_law_3487 dL_law_3488 dL_law_3489 ?_
  refine r_callVC (K' := Y_X8_forget) (R' := R_X8_forget) (idx := 360) (n := 2) (b := m) (as := [(0, (zscr g (i.toNat + 1))), (0, (zscr g (i.toNat + 2)))]) (rest := []) (cn := 8) (C' := C') (D' := D') k0_X8_forget kV_X8_forget kl_L_360 ⟨by decide, by decide⟩ dL_law_3490 rfl rfl (Nat.le_of_ble_eq_true rfl) (by have e : R_X8_forget.cells = 0 := rfl; omega) (by have e : R_X8_forget.slots = 0 := rfl; omega) rfl hm1 ⟨_, hb⟩ (fun r hr => m_X8_forget hl0 ⟨r, hr, hr⟩) (fun ex τ n q hq hn => by rw [hb] at hq; cases hq) (fun v9 τ9 hq => ?_)
  obtain ⟨e1, e2⟩ : v9 = b ∧ τ9 = τ1 := by rw [hb] at hq; cases hq; exact ⟨rfl, rfl⟩
  rw [e1, e2]
  refine r_istore (L' := [(7, (0, b)), (6, (0, c)), (0, (6, 200)), (1, (4, x)), (2, (4, m)), (3, (4, o)), (4, (4, d)), (5, (0, i))]) dL_law_3493 (by decide) rfl ?_
  refine r_aload_n 4 dL_law_3495 rfl ?_
  refine r_callVC (K' := Y_X8_thrown) (R' := R_X8_thrown) (idx := 195) (n := 0) (b := m) (as := []) (rest := []) (cn := 8) (C' := C') (D' := D') k0_X8_thrown kV_X8_thrown kl_L_195 ⟨by decide, by decide⟩ dL_law_3496 rfl rfl (Nat.le_of_ble_eq_true rfl) (by have e : R_X8_thrown.cells = 0 := rfl; omega) (by have e : R_X8_thrown.slots = 0 := rfl; omega) rfl hm2 ⟨_, ht⟩ (fun r hr => m_X8_thrown hl0 ⟨r, hr, hr⟩) (fun ex τ n q hq hn => by rw [ht] at hq; cases hq) (fun v9 τ9 hq => ?_)
  obtain ⟨e1, e2⟩ : v9 = t ∧ τ9 = τ2 := by rw [ht] at hq; cases hq; exact ⟨rfl, rfl⟩
  rw [e1, e2]
  refine r_iload 1 dL_law_3499 rfl ?_
  refine r_icmp_eq 3506 dL_law_3501 (by decide) (z_yes (σ := σ) hc) (fun _ => ?_) (fun h => by obtain ⟨r, h, -⟩ := h; cases h)
  refine r_iload 1 dL_law_3506 rfl ?_
  refine r_if_ne 3523 dL_law_3508 (by decide) (z_br (σ := σ)) (fun _ => ?_) (fun h => ?_)
  · refine r_goto 3919 dL_law_3523 (by decide) ?_
    refine r_weak (L' := [(0, (6, 200)), (1, (4, x)), (2, (4, m)), (3, (4, o)), (4, (4, d)), (5, (0, i))]) [2, 3, 4, 5, 6, 7] rfl ?_
    exact kk _ hP
  · have hv := hv (zite_p h)
    refine r_aload_n 5 dL_law_3511 rfl ?_
    refine r_iconst (v := 0) dL_law_3512 rfl rfl ?_
    refine r_lald dL_law_3513 hv (fun v h => ?_)
    refine r_iload 0 dL_law_3514 rfl ?_
    refine r_i2l dL_law_3516 ?_
    refine r_lcmp dL_law_3517 ?_
    refine r_if_eq 3523 dL_law_3518 (by decide) (z_yes (σ := σ) (zlc_eq (zite_p h))) (fun _ => ?_) (fun h => by obtain ⟨r, h, -⟩ := h; cases h)
    refine r_goto 3919 dL_law_3523 (by decide) ?_
    refine r_weak (L' := [(0, (6, 200)), (1, (4, x)), (2, (4, m)), (3, (4, o)), (4, (4, d)), (5, (0, i))]) [2, 3, 4, 5, 6, 7] rfl ?_
    exact kk _ hP
set_option maxHeartbeats 4000000 in
theorem t_L_51 {g : zF} (hl0 : g.2.2.2.1.stackTraces = false) (hL9 : zsl9 g ≤ 3072) {x m o d i : Int} {σ : zS} {C' D' : Nat} {P : zS → Prop} (hi : 0 ≤ i) (hi6 : i + 6 ≤ (zsl9 g : Int)) (hx : σ.1.1 x = some (0, 7)) (h : q_L_51 x m o d (fun j => zscr g (i.toNat + j)) P σ) (kk : ∀ τ, P τ → zw g Y_L_law room_1 3919 [(0, (6, 200)), (1, (4, x)), (2, (4, m)), (3, (4, o)), (4, (4, d)), (5, (0, i))] [] τ C' D' zQ1) : zw g Y_L_law room_1 3526 [(0, (6, 200)), (1, (4, x)), (2, (4, m)), (3, (4, o)), (4, (4, d)), (5, (0, i))] [] σ (C' + 31) (D' + 7344) zQ1 := by
  unfold q_L_51 at h
  refine r_aload_n 1 dL_law_3526 rfl ?_
  refine r_scrk (k := 1) 0 5 hL9 hi (by omega) dL_law_3527 rfl dL_law_3528 rfl dL_law_3530 dL_law_3531 dL_law_3532 ?_
  refine r_aload_n 3 dL_law_3533 rfl ?_
  refine r_callSH (K' := Y_L_cleanse) (R' := R_L_cleanse) (idx := 361) (n := 3) (as := [(4, x), (0, (zscr g (i.toNat + 1))), (4, o)]) (rest := []) (C' := C') (D' := D') k0_L_cleanse wl_1359 wl_1358 ⟨by decide, by decide⟩ dL_law_3534 rfl rfl (Nat.le_of_ble_eq_true rfl) (by have e : R_L_cleanse.cells = 28 := rfl; omega) (by have e : R_L_cleanse.slots = 7326 := rfl; omega) (m_L_cleanse hl0 hx h) (fun e τ hq => by obtain ⟨c, τ', e0, -⟩ := hq; cases e0) (fun c9 τ9 hq => ?_)
  obtain ⟨c, τ, e0, hk⟩ := hq
  obtain ⟨e1, e2⟩ : c9 = c ∧ τ9 = τ := by cases e0; exact ⟨rfl, rfl⟩
  rw [e1, e2]
  obtain ⟨hm1, b, τ1, hb, hm2, t, τ2, ht, hc, hv, hP⟩ := hk
  refine r_istore (L' := [(6, (0, c)), (0, (6, 200)), (1, (4, x)), (2, (4, m)), (3, (4, o)), (4, (4, d)), (5, (0, i))]) dL_law_3537 (by decide) rfl ?_
  refine r_aload_n 3 dL_law_3539 rfl ?_
  refine r_scrk (k := 1) 1 6 hL9 hi (by omega) dL_law_3540 rfl dL_law_3541 rfl dL_law_3543 dL_law_3544 dL_law_3545 ?_
  refine r_callVC (K' := Y_X8_cleanse) (R' := R_X8_cleanse) (idx := 363) (n := 1) (b := m) (as := [(0, (zscr g (i.toNat + 1)))]) (rest := []) (cn := 8) (C' := C') (D' := D') k0_X8_cleanse kV_X8_cleanse kl_L_363 ⟨by decide, by decide⟩ dL_law_3546 rfl rfl (Nat.le_of_ble_eq_true rfl) (by have e : R_X8_cleanse.cells = 0 := rfl; omega) (by have e : R_X8_cleanse.slots = 0 := rfl; omega) rfl hm1 ⟨_, hb⟩ (fun r hr => m_X8_cleanse hl0 ⟨r, hr, hr⟩) (fun ex τ n q hq hn => by rw [hb] at hq; cases hq) (fun v9 τ9 hq => ?_)
  obtain ⟨e1, e2⟩ : v9 = b ∧ τ9 = τ1 := by rw [hb] at hq; cases hq; exact ⟨rfl, rfl⟩
  rw [e1, e2]
  refine r_istore (L' := [(7, (0, b)), (6, (0, c)), (0, (6, 200)), (1, (4, x)), (2, (4, m)), (3, (4, o)), (4, (4, d)), (5, (0, i))]) dL_law_3549 (by decide) rfl ?_
  refine r_aload_n 4 dL_law_3551 rfl ?_
  refine r_callVC (K' := Y_X8_thrown) (R' := R_X8_thrown) (idx := 195) (n := 0) (b := m) (as := []) (rest := []) (cn := 8) (C' := C') (D' := D') k0_X8_thrown kV_X8_thrown kl_L_195 ⟨by decide, by decide⟩ dL_law_3552 rfl rfl (Nat.le_of_ble_eq_true rfl) (by have e : R_X8_thrown.cells = 0 := rfl; omega) (by have e : R_X8_thrown.slots = 0 := rfl; omega) rfl hm2 ⟨_, ht⟩ (fun r hr => m_X8_thrown hl0 ⟨r, hr, hr⟩) (fun ex τ n q hq hn => by rw [ht] at hq; cases hq) (fun v9 τ9 hq => ?_)
  obtain ⟨e1, e2⟩ : v9 = t ∧ τ9 = τ2 := by rw [ht] at hq; cases hq; exact ⟨rfl, rfl⟩
  rw [e1, e2]
  refine r_iload 1 dL_law_3555 rfl ?_
  refine r_icmp_eq 3562 dL_law_3557 (by decide) (z_yes (σ := σ) hc) (fun _ => ?_) (fun h => by obtain ⟨r, h, -⟩ := h; cases h)
  refine r_iload 1 dL_law_3562 rfl ?_
  refine r_if_ne 3579 dL_law_3564 (by decide) (z_br (σ := σ)) (fun _ => ?_) (fun h => ?_)
  · refine r_goto 3919 dL_law_3579 (by decide) ?_
    refine r_weak (L' := [(0, (6, 200)), (1, (4, x)), (2, (4, m)), (3, (4, o)), (4, (4, d)), (5, (0, i))]) [2, 3, 4, 5, 6, 7] rfl ?_
    exact kk _ hP
  · have hv := hv (zite_p h)
    refine r_aload_n 5 dL_law_3567 rfl ?_
    refine r_iconst (v := 0) dL_law_3568 rfl rfl ?_
    refine r_lald dL_law_3569 hv (fun v h => ?_)
    refine r_iload 0 dL_law_3570 rfl ?_
    refine r_i2l dL_law_3572 ?_
    refine r_lcmp dL_law_3573 ?_
    refine r_if_eq 3579 dL_law_3574 (by decide) (z_yes (σ := σ) (zlc_eq (zite_p h))) (fun _ => ?_) (fun h => by obtain ⟨r, h, -⟩ := h; cases h)
    refine r_goto 3919 dL_law_3579 (by decide) ?_
    refine r_weak (L' := [(0, (6, 200)), (1, (4, x)), (2, (4, m)), (3, (4, o)), (4, (4, d)), (5, (0, i))]) [2, 3, 4, 5, 6, 7] rfl ?_
    exact kk _ hP
set_option maxHeartbeats 4000000 in
theorem t_L_52 {g : zF} (hl0 : g.2.2.2.1.stackTraces = false) (hL9 : zsl9 g ≤ 3072) {x m o d i : Int} {σ : zS} {C' D' : Nat} {P : zS → Prop} (hi : 0 ≤ i) (hi6 : i + 6 ≤ (zsl9 g : Int)) (hx : σ.1.1 x = some (0, 7)) (h : q_L_52 x m o d (fun j => zscr g (i.toNat + j)) P σ) (kk : ∀ τ, P τ → zw g Y_L_law room_1 3919 [(0, (6, 200)), (1, (4, x)), (2, (4, m)), (3, (4, o)), (4, (4, d)), (5, (0, i))] [] τ C' D' zQ1) : zw g Y_L_law room_1 3582 [(0, (6, 200)), (1, (4, x)), (2, (4, m)), (3, (4, o)), (4, (4, d)), (5, (0, i))] [] σ (C' + 31) (D' + 7344) zQ1 := by
  unfold q_L_52 at h
  refine r_aload_n 1 dL_law_3582 rfl ?_
  refine r_scrk (k := 1) 0 5 hL9 hi (by omega) dL_law_3583 rfl dL_law_3584 rfl dL_law_3586 dL_law_3587 dL_law_3588 ?_
  refine r_aload_n 3 dL_law_3589 rfl ?_
  refine r_callSH (K' := Y_L_keep) (R' := R_L_keep) (idx := 364) (n := 3) (as := [(4, x), (0, (zscr g (i.toNat + 1))), (4, o)]) (rest := []) (C' := C') (D' := D') k0_L_keep wl_1366 wl_1365 ⟨by decide, by decide⟩ dL_law_3590 rfl rfl (Nat.le_of_ble_eq_true rfl) (by have e : R_L_keep.cells = 28 := rfl; omega) (by have e : R_L_keep.slots = 7326 := rfl; omega) (m_L_keep hl0 hx h) (fun e τ hq => by obtain ⟨c, τ', e0, -⟩ := hq; cases e0) (fun c9 τ9 hq => ?_)
  obtain ⟨c, τ, e0, hk⟩ := hq
  obtain ⟨e1, e2⟩ : c9 = c ∧ τ9 = τ := by cases e0; exact ⟨rfl, rfl⟩
  rw [e1, e2]
  obtain ⟨hm1, b, τ1, hb, hm2, t, τ2, ht, hc, hv, hP⟩ := hk
  refine r_istore (L' := [(6, (0, c)), (0, (6, 200)), (1, (4, x)), (2, (4, m)), (3, (4, o)), (4, (4, d)), (5, (0, i))]) dL_law_3593 (by decide) rfl ?_
  refine r_aload_n 3 dL_law_3595 rfl ?_
  refine r_scrk (k := 1) 1 6 hL9 hi (by omega) dL_law_3596 rfl dL_law_3597 rfl dL_law_3599 dL_law_3600 dL_law_3601 ?_
  refine r_callVC (K' := Y_X8_keep) (R' := R_X8_keep) (idx := 366) (n := 1) (b := m) (as := [(0, (zscr g (i.toNat + 1)))]) (rest := []) (cn := 8) (C' := C') (D' := D') k0_X8_keep kV_X8_keep kl_L_366 ⟨by decide, by decide⟩ dL_law_3602 rfl rfl (Nat.le_of_ble_eq_true rfl) (by have e : R_X8_keep.cells = 0 := rfl; omega) (by have e : R_X8_keep.slots = 0 := rfl; omega) rfl hm1 ⟨_, hb⟩ (fun r hr => m_X8_keep hl0 ⟨r, hr, hr⟩) (fun ex τ n q hq hn => by rw [hb] at hq; cases hq) (fun v9 τ9 hq => ?_)
  obtain ⟨e1, e2⟩ : v9 = b ∧ τ9 = τ1 := by rw [hb] at hq; cases hq; exact ⟨rfl, rfl⟩
  rw [e1, e2]
  refine r_istore (L' := [(7, (0, b)), (6, (0, c)), (0, (6, 200)), (1, (4, x)), (2, (4, m)), (3, (4, o)), (4, (4, d)), (5, (0, i))]) dL_law_3605 (by decide) rfl ?_
  refine r_aload_n 4 dL_law_3607 rfl ?_
  refine r_callVC (K' := Y_X8_thrown) (R' := R_X8_thrown) (idx := 195) (n := 0) (b := m) (as := []) (rest := []) (cn := 8) (C' := C') (D' := D') k0_X8_thrown kV_X8_thrown kl_L_195 ⟨by decide, by decide⟩ dL_law_3608 rfl rfl (Nat.le_of_ble_eq_true rfl) (by have e : R_X8_thrown.cells = 0 := rfl; omega) (by have e : R_X8_thrown.slots = 0 := rfl; omega) rfl hm2 ⟨_, ht⟩ (fun r hr => m_X8_thrown hl0 ⟨r, hr, hr⟩) (fun ex τ n q hq hn => by rw [ht] at hq; cases hq) (fun v9 τ9 hq => ?_)
  obtain ⟨e1, e2⟩ : v9 = t ∧ τ9 = τ2 := by rw [ht] at hq; cases hq; exact ⟨rfl, rfl⟩
  rw [e1, e2]
  refine r_iload 1 dL_law_3611 rfl ?_
  refine r_icmp_eq 3618 dL_law_3613 (by decide) (z_yes (σ := σ) hc) (fun _ => ?_) (fun h => by obtain ⟨r, h, -⟩ := h; cases h)
  refine r_iload 1 dL_law_3618 rfl ?_
  refine r_if_ne 3635 dL_law_3620 (by decide) (z_br (σ := σ)) (fun _ => ?_) (fun h => ?_)
  · refine r_goto 3919 dL_law_3635 (by decide) ?_
    refine r_weak (L' := [(0, (6, 200)), (1, (4, x)), (2, (4, m)), (3, (4, o)), (4, (4, d)), (5, (0, i))]) [2, 3, 4, 5, 6, 7] rfl ?_
    exact kk _ hP
  · have hv := hv (zite_p h)
    refine r_aload_n 5 dL_law_3623 rfl ?_
    refine r_iconst (v := 0) dL_law_3624 rfl rfl ?_
    refine r_lald dL_law_3625 hv (fun v h => ?_)
    refine r_iload 0 dL_law_3626 rfl ?_
    refine r_i2l dL_law_3628 ?_
    refine r_lcmp dL_law_3629 ?_
    refine r_if_eq 3635 dL_law_3630 (by decide) (z_yes (σ := σ) (zlc_eq (zite_p h))) (fun _ => ?_) (fun h => by obtain ⟨r, h, -⟩ := h; cases h)
    refine r_goto 3919 dL_law_3635 (by decide) ?_
    refine r_weak (L' := [(0, (6, 200)), (1, (4, x)), (2, (4, m)), (3, (4, o)), (4, (4, d)), (5, (0, i))]) [2, 3, 4, 5, 6, 7] rfl ?_
    exact kk _ hP
set_option maxHeartbeats 4000000 in
theorem t_L_53 {g : zF} (hl0 : g.2.2.2.1.stackTraces = false) (hL9 : zsl9 g ≤ 3072) {x m o d i : Int} {σ : zS} {C' D' : Nat} {P : zS → Prop} (hi : 0 ≤ i) (hi6 : i + 6 ≤ (zsl9 g : Int)) (hx : σ.1.1 x = some (0, 7)) (h : q_L_53 x m o d (fun j => zscr g (i.toNat + j)) P σ) (kk : ∀ τ, P τ → zw g Y_L_law room_1 3919 [(0, (6, 200)), (1, (4, x)), (2, (4, m)), (3, (4, o)), (4, (4, d)), (5, (0, i))] [] τ C' D' zQ1) : zw g Y_L_law room_1 3638 [(0, (6, 200)), (1, (4, x)), (2, (4, m)), (3, (4, o)), (4, (4, d)), (5, (0, i))] [] σ (C' + 31) (D' + 7344) zQ1 := by
  unfold q_L_53 at h
  refine r_aload_n 1 dL_law_3638 rfl ?_
  refine r_scrk (k := 1) 0 5 hL9 hi (by omega) dL_law_3639 rfl dL_law_3640 rfl dL_law_3642 dL_law_3643 dL_law_3644 ?_
  refine r_aload_n 3 dL_law_3645 rfl ?_
  refine r_callSH (K' := Y_L_restore) (R' := R_L_restore) (idx := 367) (n := 3) (as := [(4, x), (0, (zscr g (i.toNat + 1))), (4, o)]) (rest := []) (C' := C') (D' := D') k0_L_restore wl_1378 wl_1377 ⟨by decide, by decide⟩ dL_law_3646 rfl rfl (Nat.le_of_ble_eq_true rfl) (by have e : R_L_restore.cells = 28 := rfl; omega) (by have e : R_L_restore.slots = 7326 := rfl; omega) (m_L_restore hl0 hx h) (fun e τ hq => by obtain ⟨c, τ', e0, -⟩ := hq; cases e0) (fun c9 τ9 hq => ?_)
  obtain ⟨c, τ, e0, hk⟩ := hq
  obtain ⟨e1, e2⟩ : c9 = c ∧ τ9 = τ := by cases e0; exact ⟨rfl, rfl⟩
  rw [e1, e2]
  obtain ⟨hm1, b, τ1, hb, hm2, t, τ2, ht, hc, hv, hP⟩ := hk
  refine r_istore (L' := [(6, (0, c)), (0, (6, 200)), (1, (4, x)), (2, (4, m)), (3, (4, o)), (4, (4, d)), (5, (0, i))]) dL_law_3649 (by decide) rfl ?_
  refine r_aload_n 3 dL_law_3651 rfl ?_
  refine r_scrk (k := 1) 1 6 hL9 hi (by omega) dL_law_3652 rfl dL_law_3653 rfl dL_law_3655 dL_law_3656 dL_law_3657 ?_
  refine r_callVC (K' := Y_X8_restore) (R' := R_X8_restore) (idx := 369) (n := 1) (b := m) (as := [(0, (zscr g (i.toNat + 1)))]) (rest := []) (cn := 8) (C' := C') (D' := D') k0_X8_restore kV_X8_restore kl_L_369 ⟨by decide, by decide⟩ dL_law_3658 rfl rfl (Nat.le_of_ble_eq_true rfl) (by have e : R_X8_restore.cells = 0 := rfl; omega) (by have e : R_X8_restore.slots = 0 := rfl; omega) rfl hm1 ⟨_, hb⟩ (fun r hr => m_X8_restore hl0 ⟨r, hr, hr⟩) (fun ex τ n q hq hn => by rw [hb] at hq; cases hq) (fun v9 τ9 hq => ?_)
  obtain ⟨e1, e2⟩ : v9 = b ∧ τ9 = τ1 := by rw [hb] at hq; cases hq; exact ⟨rfl, rfl⟩
  rw [e1, e2]
  refine r_istore (L' := [(7, (0, b)), (6, (0, c)), (0, (6, 200)), (1, (4, x)), (2, (4, m)), (3, (4, o)), (4, (4, d)), (5, (0, i))]) dL_law_3661 (by decide) rfl ?_
  refine r_aload_n 4 dL_law_3663 rfl ?_
  refine r_callVC (K' := Y_X8_thrown) (R' := R_X8_thrown) (idx := 195) (n := 0) (b := m) (as := []) (rest := []) (cn := 8) (C' := C') (D' := D') k0_X8_thrown kV_X8_thrown kl_L_195 ⟨by decide, by decide⟩ dL_law_3664 rfl rfl (Nat.le_of_ble_eq_true rfl) (by have e : R_X8_thrown.cells = 0 := rfl; omega) (by have e : R_X8_thrown.slots = 0 := rfl; omega) rfl hm2 ⟨_, ht⟩ (fun r hr => m_X8_thrown hl0 ⟨r, hr, hr⟩) (fun ex τ n q hq hn => by rw [ht] at hq; cases hq) (fun v9 τ9 hq => ?_)
  obtain ⟨e1, e2⟩ : v9 = t ∧ τ9 = τ2 := by rw [ht] at hq; cases hq; exact ⟨rfl, rfl⟩
  rw [e1, e2]
  refine r_iload 1 dL_law_3667 rfl ?_
  refine r_icmp_eq 3674 dL_law_3669 (by decide) (z_yes (σ := σ) hc) (fun _ => ?_) (fun h => by obtain ⟨r, h, -⟩ := h; cases h)
  refine r_iload 1 dL_law_3674 rfl ?_
  refine r_if_ne 3691 dL_law_3676 (by decide) (z_br (σ := σ)) (fun _ => ?_) (fun h => ?_)
  · refine r_goto 3919 dL_law_3691 (by decide) ?_
    refine r_weak (L' := [(0, (6, 200)), (1, (4, x)), (2, (4, m)), (3, (4, o)), (4, (4, d)), (5, (0, i))]) [2, 3, 4, 5, 6, 7] rfl ?_
    exact kk _ hP
  · have hv := hv (zite_p h)
    refine r_aload_n 5 dL_law_3679 rfl ?_
    refine r_iconst (v := 0) dL_law_3680 rfl rfl ?_
    refine r_lald dL_law_3681 hv (fun v h => ?_)
    refine r_iload 0 dL_law_3682 rfl ?_
    refine r_i2l dL_law_3684 ?_
    refine r_lcmp dL_law_3685 ?_
    refine r_if_eq 3691 dL_law_3686 (by decide) (z_yes (σ := σ) (zlc_eq (zite_p h))) (fun _ => ?_) (fun h => by obtain ⟨r, h, -⟩ := h; cases h)
    refine r_goto 3919 dL_law_3691 (by decide) ?_
    refine r_weak (L' := [(0, (6, 200)), (1, (4, x)), (2, (4, m)), (3, (4, o)), (4, (4, d)), (5, (0, i))]) [2, 3, 4, 5, 6, 7] rfl ?_
    exact kk _ hP
set_option maxHeartbeats 4000000 in
theorem t_L_54 {g : zF} (hl0 : g.2.2.2.1.stackTraces = false) (hL9 : zsl9 g ≤ 3072) {x m o d i : Int} {σ : zS} {C' D' : Nat} {P : zS → Prop} (hi : 0 ≤ i) (hi6 : i + 6 ≤ (zsl9 g : Int)) (hx : σ.1.1 x = some (0, 7)) (h : q_L_54 x m o d (fun j => zscr g (i.toNat + j)) P σ) (kk : ∀ τ, P τ → zw g Y_L_law room_1 3919 [(0, (6, 200)), (1, (4, x)), (2, (4, m)), (3, (4, o)), (4, (4, d)), (5, (0, i))] [] τ C' D' zQ1) : zw g Y_L_law room_1 3694 [(0, (6, 200)), (1, (4, x)), (2, (4, m)), (3, (4, o)), (4, (4, d)), (5, (0, i))] [] σ (C' + 31) (D' + 7344) zQ1 := by
  unfold q_L_54 at h
  refine r_aload_n 1 dL_law_3694 rfl ?_
  refine r_aload_n 3 dL_law_3695 rfl ?_
  refine r_callSH (K' := Y_L_undo) (R' := R_L_undo) (idx := 370) (n := 2) (as := [(4, x), (4, o)]) (rest := []) (C' := C') (D' := D') k0_L_undo wl_1386 wl_1385 ⟨by decide, by decide⟩ dL_law_3696 rfl rfl (Nat.le_of_ble_eq_true rfl) (by have e : R_L_undo.cells = 1 := rfl; omega) (by have e : R_L_undo.slots = 6 := rfl; omega) (m_L_undo hl0 hx h) (fun e τ hq => by obtain ⟨c, τ', e0, -⟩ := hq; cases e0) (fun c9 τ9 hq => ?_)
  obtain ⟨c, τ, e0, hk⟩ := hq
  obtain ⟨e1, e2⟩ : c9 = c ∧ τ9 = τ := by cases e0; exact ⟨rfl, rfl⟩
  rw [e1, e2]
  obtain ⟨hm1, b, τ1, hb, hm2, t, τ2, ht, hc, hv, hP⟩ := hk
  refine r_istore (L' := [(6, (0, c)), (0, (6, 200)), (1, (4, x)), (2, (4, m)), (3, (4, o)), (4, (4, d)), (5, (0, i))]) dL_law_3699 (by decide) rfl ?_
  refine r_aload_n 3 dL_law_3701 rfl ?_
  refine r_callVC (K' := Y_X8_undo) (R' := R_X8_undo) (idx := 372) (n := 0) (b := m) (as := []) (rest := []) (cn := 8) (C' := C') (D' := D') k0_X8_undo kV_X8_undo kl_L_372 ⟨by decide, by decide⟩ dL_law_3702 rfl rfl (Nat.le_of_ble_eq_true rfl) (by have e : R_X8_undo.cells = 0 := rfl; omega) (by have e : R_X8_undo.slots = 0 := rfl; omega) rfl hm1 ⟨_, hb⟩ (fun r hr => m_X8_undo hl0 ⟨r, hr, hr⟩) (fun ex τ n q hq hn => by rw [hb] at hq; cases hq) (fun v9 τ9 hq => ?_)
  obtain ⟨e1, e2⟩ : v9 = b ∧ τ9 = τ1 := by rw [hb] at hq; cases hq; exact ⟨rfl, rfl⟩
  rw [e1, e2]
  refine r_istore (L' := [(7, (0, b)), (6, (0, c)), (0, (6, 200)), (1, (4, x)), (2, (4, m)), (3, (4, o)), (4, (4, d)), (5, (0, i))]) dL_law_3705 (by decide) rfl ?_
  refine r_aload_n 4 dL_law_3707 rfl ?_
  refine r_callVC (K' := Y_X8_thrown) (R' := R_X8_thrown) (idx := 195) (n := 0) (b := m) (as := []) (rest := []) (cn := 8) (C' := C') (D' := D') k0_X8_thrown kV_X8_thrown kl_L_195 ⟨by decide, by decide⟩ dL_law_3708 rfl rfl (Nat.le_of_ble_eq_true rfl) (by have e : R_X8_thrown.cells = 0 := rfl; omega) (by have e : R_X8_thrown.slots = 0 := rfl; omega) rfl hm2 ⟨_, ht⟩ (fun r hr => m_X8_thrown hl0 ⟨r, hr, hr⟩) (fun ex τ n q hq hn => by rw [ht] at hq; cases hq) (fun v9 τ9 hq => ?_)
  obtain ⟨e1, e2⟩ : v9 = t ∧ τ9 = τ2 := by rw [ht] at hq; cases hq; exact ⟨rfl, rfl⟩
  rw [e1, e2]
  refine r_iload 1 dL_law_3711 rfl ?_
  refine r_icmp_eq 3718 dL_law_3713 (by decide) (z_yes (σ := σ) hc) (fun _ => ?_) (fun h => by obtain ⟨r, h, -⟩ := h; cases h)
  refine r_iload 1 dL_law_3718 rfl ?_
  refine r_if_ne 3735 dL_law_3720 (by decide) (z_br (σ := σ)) (fun _ => ?_) (fun h => ?_)
  · refine r_goto 3919 dL_law_3735 (by decide) ?_
    refine r_weak (L' := [(0, (6, 200)), (1, (4, x)), (2, (4, m)), (3, (4, o)), (4, (4, d)), (5, (0, i))]) [2, 3, 4, 5, 6, 7] rfl ?_
    exact kk _ hP
  · have hv := hv (zite_p h)
    refine r_aload_n 5 dL_law_3723 rfl ?_
    refine r_iconst (v := 0) dL_law_3724 rfl rfl ?_
    refine r_lald dL_law_3725 hv (fun v h => ?_)
    refine r_iload 0 dL_law_3726 rfl ?_
    refine r_i2l dL_law_3728 ?_
    refine r_lcmp dL_law_3729 ?_
    refine r_if_eq 3735 dL_law_3730 (by decide) (z_yes (σ := σ) (zlc_eq (zite_p h))) (fun _ => ?_) (fun h => by obtain ⟨r, h, -⟩ := h; cases h)
    refine r_goto 3919 dL_law_3735 (by decide) ?_
    refine r_weak (L' := [(0, (6, 200)), (1, (4, x)), (2, (4, m)), (3, (4, o)), (4, (4, d)), (5, (0, i))]) [2, 3, 4, 5, 6, 7] rfl ?_
    exact kk _ hP
set_option maxHeartbeats 4000000 in
theorem t_L_55 {g : zF} (hl0 : g.2.2.2.1.stackTraces = false) (hL9 : zsl9 g ≤ 3072) {x m o d i : Int} {σ : zS} {C' D' : Nat} {P : zS → Prop} (hi : 0 ≤ i) (hi6 : i + 6 ≤ (zsl9 g : Int)) (hx : σ.1.1 x = some (0, 7)) (h : q_L_55 x m o d (fun j => zscr g (i.toNat + j)) P σ) (kk : ∀ τ, P τ → zw g Y_L_law room_1 3919 [(0, (6, 200)), (1, (4, x)), (2, (4, m)), (3, (4, o)), (4, (4, d)), (5, (0, i))] [] τ C' D' zQ1) : zw g Y_L_law room_1 3738 [(0, (6, 200)), (1, (4, x)), (2, (4, m)), (3, (4, o)), (4, (4, d)), (5, (0, i))] [] σ (C' + 31) (D' + 7344) zQ1 := by
  unfold q_L_55 at h
  refine r_aload_n 1 dL_law_3738 rfl ?_
  obtain ⟨v, τ, hf, hm1, b, τ1, hb, hc, hP⟩ := h
  refine r_callVC (K' := Y_X7_undoCount) (R' := R_X7_undoCount) (idx := 373) (n := 0) (b := x) (as := []) (rest := []) (cn := 7) (C' := C') (D' := D') k0_X7_undoCount kV_X7_undoCount kl_L_373 ⟨by decide, by decide⟩ dL_law_3739 rfl rfl (Nat.le_of_ble_eq_true rfl) (by have e : R_X7_undoCount.cells = 0 := rfl; omega) (by have e : R_X7_undoCount.slots = 0 := rfl; omega) rfl hx ⟨_, hf⟩ (fun r hr => m_X7_undoCount hl0 ⟨r, hr, hr⟩) (fun ex τ n q hq hn => by rw [hf] at hq; cases hq) (fun v9 τ9 hq => ?_)
  obtain ⟨e1, e2⟩ : v9 = v ∧ τ9 = τ := by rw [hf] at hq; cases hq; exact ⟨rfl, rfl⟩
  rw [e1, e2]
  refine r_aload_n 2 dL_law_3742 rfl ?_
  refine r_callVC (K' := Y_X8_undoCount) (R' := R_X8_undoCount) (idx := 376) (n := 0) (b := m) (as := []) (rest := [(0, v)]) (cn := 8) (C' := C') (D' := D') k0_X8_undoCount kV_X8_undoCount kl_L_376 ⟨by decide, by decide⟩ dL_law_3743 rfl rfl (Nat.le_of_ble_eq_true rfl) (by have e : R_X8_undoCount.cells = 0 := rfl; omega) (by have e : R_X8_undoCount.slots = 0 := rfl; omega) rfl hm1 ⟨_, hb⟩ (fun r hr => m_X8_undoCount hl0 ⟨r, hr, hr⟩) (fun ex τ n q hq hn => by rw [hb] at hq; cases hq) (fun v9 τ9 hq => ?_)
  obtain ⟨e1, e2⟩ : v9 = b ∧ τ9 = τ1 := by rw [hb] at hq; cases hq; exact ⟨rfl, rfl⟩
  rw [e1, e2]
  refine r_icmp_eq 3919 dL_law_3746 (by decide) (z_yes (σ := σ) hc) (fun _ => ?_) (fun h => by obtain ⟨r, h, -⟩ := h; cases h)
  exact kk _ hP
set_option maxHeartbeats 4000000 in
theorem t_L_56 {g : zF} (hl0 : g.2.2.2.1.stackTraces = false) (hL9 : zsl9 g ≤ 3072) {x m o d i : Int} {σ : zS} {C' D' : Nat} {P : zS → Prop} (hi : 0 ≤ i) (hi6 : i + 6 ≤ (zsl9 g : Int)) (hx : σ.1.1 x = some (0, 7)) (h : q_L_56 x m o d (fun j => zscr g (i.toNat + j)) P σ) (kk : ∀ τ, P τ → zw g Y_L_law room_1 3919 [(0, (6, 200)), (1, (4, x)), (2, (4, m)), (3, (4, o)), (4, (4, d)), (5, (0, i))] [] τ C' D' zQ1) : zw g Y_L_law room_1 3751 [(0, (6, 200)), (1, (4, x)), (2, (4, m)), (3, (4, o)), (4, (4, d)), (5, (0, i))] [] σ (C' + 31) (D' + 7344) zQ1 := by
  unfold q_L_56 at h
  refine r_aload_n 1 dL_law_3751 rfl ?_
  refine r_scrk (k := 1) 0 5 hL9 hi (by omega) dL_law_3752 rfl dL_law_3753 rfl dL_law_3755 dL_law_3756 dL_law_3757 ?_
  refine r_aload_n 3 dL_law_3758 rfl ?_
  refine r_callSH (K' := Y_L_writeBeliefs) (R' := R_L_writeBeliefs) (idx := 377) (n := 3) (as := [(4, x), (0, (zscr g (i.toNat + 1))), (4, o)]) (rest := []) (C' := C') (D' := D') k0_L_writeBeliefs wl_1398 wl_1397 ⟨by decide, by decide⟩ dL_law_3759 rfl rfl (Nat.le_of_ble_eq_true rfl) (by have e : R_L_writeBeliefs.cells = 1 := rfl; omega) (by have e : R_L_writeBeliefs.slots = 6 := rfl; omega) (m_L_writeBeliefs hl0 hx h) (fun e τ hq => by obtain ⟨c, τ', e0, -⟩ := hq; cases e0) (fun c9 τ9 hq => ?_)
  obtain ⟨c, τ, e0, hk⟩ := hq
  obtain ⟨e1, e2⟩ : c9 = c ∧ τ9 = τ := by cases e0; exact ⟨rfl, rfl⟩
  rw [e1, e2]
  obtain ⟨hm1, b, τ1, hb, hm2, t, τ2, ht, hc, hv, hP⟩ := hk
  refine r_istore (L' := [(6, (0, c)), (0, (6, 200)), (1, (4, x)), (2, (4, m)), (3, (4, o)), (4, (4, d)), (5, (0, i))]) dL_law_3762 (by decide) rfl ?_
  refine r_aload_n 3 dL_law_3764 rfl ?_
  refine r_scrk (k := 1) 1 6 hL9 hi (by omega) dL_law_3765 rfl dL_law_3766 rfl dL_law_3768 dL_law_3769 dL_law_3770 ?_
  refine r_callVC (K' := Y_X8_writeBeliefs) (R' := R_X8_writeBeliefs) (idx := 379) (n := 1) (b := m) (as := [(0, (zscr g (i.toNat + 1)))]) (rest := []) (cn := 8) (C' := C') (D' := D') k0_X8_writeBeliefs kV_X8_writeBeliefs kl_L_379 ⟨by decide, by decide⟩ dL_law_3771 rfl rfl (Nat.le_of_ble_eq_true rfl) (by have e : R_X8_writeBeliefs.cells = 0 := rfl; omega) (by have e : R_X8_writeBeliefs.slots = 0 := rfl; omega) rfl hm1 ⟨_, hb⟩ (fun r hr => m_X8_writeBeliefs hl0 ⟨r, hr, hr⟩) (fun ex τ n q hq hn => by rw [hb] at hq; cases hq) (fun v9 τ9 hq => ?_)
  obtain ⟨e1, e2⟩ : v9 = b ∧ τ9 = τ1 := by rw [hb] at hq; cases hq; exact ⟨rfl, rfl⟩
  rw [e1, e2]
  refine r_istore (L' := [(7, (0, b)), (6, (0, c)), (0, (6, 200)), (1, (4, x)), (2, (4, m)), (3, (4, o)), (4, (4, d)), (5, (0, i))]) dL_law_3774 (by decide) rfl ?_
  refine r_aload_n 4 dL_law_3776 rfl ?_
  refine r_callVC (K' := Y_X8_thrown) (R' := R_X8_thrown) (idx := 195) (n := 0) (b := m) (as := []) (rest := []) (cn := 8) (C' := C') (D' := D') k0_X8_thrown kV_X8_thrown kl_L_195 ⟨by decide, by decide⟩ dL_law_3777 rfl rfl (Nat.le_of_ble_eq_true rfl) (by have e : R_X8_thrown.cells = 0 := rfl; omega) (by have e : R_X8_thrown.slots = 0 := rfl; omega) rfl hm2 ⟨_, ht⟩ (fun r hr => m_X8_thrown hl0 ⟨r, hr, hr⟩) (fun ex τ n q hq hn => by rw [ht] at hq; cases hq) (fun v9 τ9 hq => ?_)
  obtain ⟨e1, e2⟩ : v9 = t ∧ τ9 = τ2 := by rw [ht] at hq; cases hq; exact ⟨rfl, rfl⟩
  rw [e1, e2]
  refine r_iload 1 dL_law_3780 rfl ?_
  refine r_icmp_eq 3787 dL_law_3782 (by decide) (z_yes (σ := σ) hc) (fun _ => ?_) (fun h => by obtain ⟨r, h, -⟩ := h; cases h)
  refine r_iload 1 dL_law_3787 rfl ?_
  refine r_if_ne 3804 dL_law_3789 (by decide) (z_br (σ := σ)) (fun _ => ?_) (fun h => ?_)
  · refine r_goto 3919 dL_law_3804 (by decide) ?_
    refine r_weak (L' := [(0, (6, 200)), (1, (4, x)), (2, (4, m)), (3, (4, o)), (4, (4, d)), (5, (0, i))]) [2, 3, 4, 5, 6, 7] rfl ?_
    exact kk _ hP
  · have hv := hv (zite_p h)
    refine r_aload_n 5 dL_law_3792 rfl ?_
    refine r_iconst (v := 0) dL_law_3793 rfl rfl ?_
    refine r_lald dL_law_3794 hv (fun v h => ?_)
    refine r_iload 0 dL_law_3795 rfl ?_
    refine r_i2l dL_law_3797 ?_
    refine r_lcmp dL_law_3798 ?_
    refine r_if_eq 3804 dL_law_3799 (by decide) (z_yes (σ := σ) (zlc_eq (zite_p h))) (fun _ => ?_) (fun h => by obtain ⟨r, h, -⟩ := h; cases h)
    refine r_goto 3919 dL_law_3804 (by decide) ?_
    refine r_weak (L' := [(0, (6, 200)), (1, (4, x)), (2, (4, m)), (3, (4, o)), (4, (4, d)), (5, (0, i))]) [2, 3, 4, 5, 6, 7] rfl ?_
    exact kk _ hP
set_option maxHeartbeats 4000000 in
theorem t_L_57 {g : zF} (hl0 : g.2.2.2.1.stackTraces = false) (hL9 : zsl9 g ≤ 3072) {x m o d i : Int} {σ : zS} {C' D' : Nat} {P : zS → Prop} (hi : 0 ≤ i) (hi6 : i + 6 ≤ (zsl9 g : Int)) (hx : σ.1.1 x = some (0, 7)) (h : q_L_57 x m o d (fun j => zscr g (i.toNat + j)) P σ) (kk : ∀ τ, P τ → zw g Y_L_law room_1 3919 [(0, (6, 200)), (1, (4, x)), (2, (4, m)), (3, (4, o)), (4, (4, d)), (5, (0, i))] [] τ C' D' zQ1) : zw g Y_L_law room_1 3807 [(0, (6, 200)), (1, (4, x)), (2, (4, m)), (3, (4, o)), (4, (4, d)), (5, (0, i))] [] σ (C' + 31) (D' + 7344) zQ1 := by
  unfold q_L_57 at h
  refine r_aload_n 1 dL_law_3807 rfl ?_
  refine r_scrk (k := 1) 0 5 hL9 hi (by omega) dL_law_3808 rfl dL_law_3809 rfl dL_law_3811 dL_law_3812 dL_law_3813 ?_
  refine r_aload_n 3 dL_law_3814 rfl ?_
  refine r_callSH (K' := Y_L_writeReports) (R' := R_L_writeReports) (idx := 380) (n := 3) (as := [(4, x), (0, (zscr g (i.toNat + 1))), (4, o)]) (rest := []) (C' := C') (D' := D') k0_L_writeReports wl_1423 wl_1422 ⟨by decide, by decide⟩ dL_law_3815 rfl rfl (Nat.le_of_ble_eq_true rfl) (by have e : R_L_writeReports.cells = 1 := rfl; omega) (by have e : R_L_writeReports.slots = 6 := rfl; omega) (m_L_writeReports hl0 hx h) (fun e τ hq => by obtain ⟨c, τ', e0, -⟩ := hq; cases e0) (fun c9 τ9 hq => ?_)
  obtain ⟨c, τ, e0, hk⟩ := hq
  obtain ⟨e1, e2⟩ : c9 = c ∧ τ9 = τ := by cases e0; exact ⟨rfl, rfl⟩
  rw [e1, e2]
  obtain ⟨hm1, b, τ1, hb, hm2, t, τ2, ht, hc, hv, hP⟩ := hk
  refine r_istore (L' := [(6, (0, c)), (0, (6, 200)), (1, (4, x)), (2, (4, m)), (3, (4, o)), (4, (4, d)), (5, (0, i))]) dL_law_3818 (by decide) rfl ?_
  refine r_aload_n 3 dL_law_3820 rfl ?_
  refine r_scrk (k := 1) 1 6 hL9 hi (by omega) dL_law_3821 rfl dL_law_3822 rfl dL_law_3824 dL_law_3825 dL_law_3826 ?_
  refine r_callVC (K' := Y_X8_writeReports) (R' := R_X8_writeReports) (idx := 382) (n := 1) (b := m) (as := [(0, (zscr g (i.toNat + 1)))]) (rest := []) (cn := 8) (C' := C') (D' := D') k0_X8_writeReports kV_X8_writeReports kl_L_382 ⟨by decide, by decide⟩ dL_law_3827 rfl rfl (Nat.le_of_ble_eq_true rfl) (by have e : R_X8_writeReports.cells = 0 := rfl; omega) (by have e : R_X8_writeReports.slots = 0 := rfl; omega) rfl hm1 ⟨_, hb⟩ (fun r hr => m_X8_writeReports hl0 ⟨r, hr, hr⟩) (fun ex τ n q hq hn => by rw [hb] at hq; cases hq) (fun v9 τ9 hq => ?_)
  obtain ⟨e1, e2⟩ : v9 = b ∧ τ9 = τ1 := by rw [hb] at hq; cases hq; exact ⟨rfl, rfl⟩
  rw [e1, e2]
  refine r_istore (L' := [(7, (0, b)), (6, (0, c)), (0, (6, 200)), (1, (4, x)), (2, (4, m)), (3, (4, o)), (4, (4, d)), (5, (0, i))]) dL_law_3830 (by decide) rfl ?_
  refine r_aload_n 4 dL_law_3832 rfl ?_
  refine r_callVC (K' := Y_X8_thrown) (R' := R_X8_thrown) (idx := 195) (n := 0) (b := m) (as := []) (rest := []) (cn := 8) (C' := C') (D' := D') k0_X8_thrown kV_X8_thrown kl_L_195 ⟨by decide, by decide⟩ dL_law_3833 rfl rfl (Nat.le_of_ble_eq_true rfl) (by have e : R_X8_thrown.cells = 0 := rfl; omega) (by have e : R_X8_thrown.slots = 0 := rfl; omega) rfl hm2 ⟨_, ht⟩ (fun r hr => m_X8_thrown hl0 ⟨r, hr, hr⟩) (fun ex τ n q hq hn => by rw [ht] at hq; cases hq) (fun v9 τ9 hq => ?_)
  obtain ⟨e1, e2⟩ : v9 = t ∧ τ9 = τ2 := by rw [ht] at hq; cases hq; exact ⟨rfl, rfl⟩
  rw [e1, e2]
  refine r_iload 1 dL_law_3836 rfl ?_
  refine r_icmp_eq 3843 dL_law_3838 (by decide) (z_yes (σ := σ) hc) (fun _ => ?_) (fun h => by obtain ⟨r, h, -⟩ := h; cases h)
  refine r_iload 1 dL_law_3843 rfl ?_
  refine r_if_ne 3860 dL_law_3845 (by decide) (z_br (σ := σ)) (fun _ => ?_) (fun h => ?_)
  · refine r_goto 3919 dL_law_3860 (by decide) ?_
    refine r_weak (L' := [(0, (6, 200)), (1, (4, x)), (2, (4, m)), (3, (4, o)), (4, (4, d)), (5, (0, i))]) [2, 3, 4, 5, 6, 7] rfl ?_
    exact kk _ hP
  · have hv := hv (zite_p h)
    refine r_aload_n 5 dL_law_3848 rfl ?_
    refine r_iconst (v := 0) dL_law_3849 rfl rfl ?_
    refine r_lald dL_law_3850 hv (fun v h => ?_)
    refine r_iload 0 dL_law_3851 rfl ?_
    refine r_i2l dL_law_3853 ?_
    refine r_lcmp dL_law_3854 ?_
    refine r_if_eq 3860 dL_law_3855 (by decide) (z_yes (σ := σ) (zlc_eq (zite_p h))) (fun _ => ?_) (fun h => by obtain ⟨r, h, -⟩ := h; cases h)
    refine r_goto 3919 dL_law_3860 (by decide) ?_
    refine r_weak (L' := [(0, (6, 200)), (1, (4, x)), (2, (4, m)), (3, (4, o)), (4, (4, d)), (5, (0, i))]) [2, 3, 4, 5, 6, 7] rfl ?_
    exact kk _ hP
set_option maxHeartbeats 4000000 in
theorem t_L_58 {g : zF} (hl0 : g.2.2.2.1.stackTraces = false) (hL9 : zsl9 g ≤ 3072) {x m o d i : Int} {σ : zS} {C' D' : Nat} {P : zS → Prop} (hi : 0 ≤ i) (hi6 : i + 6 ≤ (zsl9 g : Int)) (hx : σ.1.1 x = some (0, 7)) (h : q_L_58 x m o d (fun j => zscr g (i.toNat + j)) P σ) (kk : ∀ τ, P τ → zw g Y_L_law room_1 3919 [(0, (6, 200)), (1, (4, x)), (2, (4, m)), (3, (4, o)), (4, (4, d)), (5, (0, i))] [] τ C' D' zQ1) : zw g Y_L_law room_1 3863 [(0, (6, 200)), (1, (4, x)), (2, (4, m)), (3, (4, o)), (4, (4, d)), (5, (0, i))] [] σ (C' + 31) (D' + 7344) zQ1 := by
  unfold q_L_58 at h
  refine r_aload_n 1 dL_law_3863 rfl ?_
  refine r_scrk (k := 1) 0 5 hL9 hi (by omega) dL_law_3864 rfl dL_law_3865 rfl dL_law_3867 dL_law_3868 dL_law_3869 ?_
  refine r_aload_n 3 dL_law_3870 rfl ?_
  refine r_callSH (K' := Y_L_outputByte) (R' := R_L_outputByte) (idx := 383) (n := 3) (as := [(4, x), (0, (zscr g (i.toNat + 1))), (4, o)]) (rest := []) (C' := C') (D' := D') k0_L_outputByte wl_1434 wl_1433 ⟨by decide, by decide⟩ dL_law_3871 rfl rfl (Nat.le_of_ble_eq_true rfl) (by have e : R_L_outputByte.cells = 1 := rfl; omega) (by have e : R_L_outputByte.slots = 6 := rfl; omega) (m_L_outputByte hl0 hx h) (fun e τ hq => by obtain ⟨c, τ', e0, -⟩ := hq; cases e0) (fun c9 τ9 hq => ?_)
  obtain ⟨c, τ, e0, hk⟩ := hq
  obtain ⟨e1, e2⟩ : c9 = c ∧ τ9 = τ := by cases e0; exact ⟨rfl, rfl⟩
  rw [e1, e2]
  obtain ⟨hm1, b, τ1, hb, hm2, t, τ2, ht, hc, hv, hP⟩ := hk
  refine r_istore (L' := [(6, (0, c)), (0, (6, 200)), (1, (4, x)), (2, (4, m)), (3, (4, o)), (4, (4, d)), (5, (0, i))]) dL_law_3874 (by decide) rfl ?_
  refine r_aload_n 3 dL_law_3876 rfl ?_
  refine r_scrk (k := 1) 1 6 hL9 hi (by omega) dL_law_3877 rfl dL_law_3878 rfl dL_law_3880 dL_law_3881 dL_law_3882 ?_
  refine r_callVC (K' := Y_X8_outputByte) (R' := R_X8_outputByte) (idx := 385) (n := 1) (b := m) (as := [(0, (zscr g (i.toNat + 1)))]) (rest := []) (cn := 8) (C' := C') (D' := D') k0_X8_outputByte kV_X8_outputByte kl_L_385 ⟨by decide, by decide⟩ dL_law_3883 rfl rfl (Nat.le_of_ble_eq_true rfl) (by have e : R_X8_outputByte.cells = 0 := rfl; omega) (by have e : R_X8_outputByte.slots = 0 := rfl; omega) rfl hm1 ⟨_, hb⟩ (fun r hr => m_X8_outputByte hl0 ⟨r, hr, hr⟩) (fun ex τ n q hq hn => by rw [hb] at hq; cases hq) (fun v9 τ9 hq => ?_)
  obtain ⟨e1, e2⟩ : v9 = b ∧ τ9 = τ1 := by rw [hb] at hq; cases hq; exact ⟨rfl, rfl⟩
  rw [e1, e2]
  refine r_istore (L' := [(7, (0, b)), (6, (0, c)), (0, (6, 200)), (1, (4, x)), (2, (4, m)), (3, (4, o)), (4, (4, d)), (5, (0, i))]) dL_law_3886 (by decide) rfl ?_
  refine r_aload_n 4 dL_law_3888 rfl ?_
  refine r_callVC (K' := Y_X8_thrown) (R' := R_X8_thrown) (idx := 195) (n := 0) (b := m) (as := []) (rest := []) (cn := 8) (C' := C') (D' := D') k0_X8_thrown kV_X8_thrown kl_L_195 ⟨by decide, by decide⟩ dL_law_3889 rfl rfl (Nat.le_of_ble_eq_true rfl) (by have e : R_X8_thrown.cells = 0 := rfl; omega) (by have e : R_X8_thrown.slots = 0 := rfl; omega) rfl hm2 ⟨_, ht⟩ (fun r hr => m_X8_thrown hl0 ⟨r, hr, hr⟩) (fun ex τ n q hq hn => by rw [ht] at hq; cases hq) (fun v9 τ9 hq => ?_)
  obtain ⟨e1, e2⟩ : v9 = t ∧ τ9 = τ2 := by rw [ht] at hq; cases hq; exact ⟨rfl, rfl⟩
  rw [e1, e2]
  refine r_iload 1 dL_law_3892 rfl ?_
  refine r_icmp_eq 3899 dL_law_3894 (by decide) (z_yes (σ := σ) hc) (fun _ => ?_) (fun h => by obtain ⟨r, h, -⟩ := h; cases h)
  refine r_iload 1 dL_law_3899 rfl ?_
  refine r_if_ne 3916 dL_law_3901 (by decide) (z_br (σ := σ)) (fun _ => ?_) (fun h => ?_)
  · refine r_goto 3919 dL_law_3916 (by decide) ?_
    refine r_weak (L' := [(0, (6, 200)), (1, (4, x)), (2, (4, m)), (3, (4, o)), (4, (4, d)), (5, (0, i))]) [2, 3, 4, 5, 6, 7] rfl ?_
    exact kk _ hP
  · have hv := hv (zite_p h)
    refine r_aload_n 5 dL_law_3904 rfl ?_
    refine r_iconst (v := 0) dL_law_3905 rfl rfl ?_
    refine r_lald dL_law_3906 hv (fun v h => ?_)
    refine r_iload 0 dL_law_3907 rfl ?_
    refine r_i2l dL_law_3909 ?_
    refine r_lcmp dL_law_3910 ?_
    refine r_if_eq 3916 dL_law_3911 (by decide) (z_yes (σ := σ) (zlc_eq (zite_p h))) (fun _ => ?_) (fun h => by obtain ⟨r, h, -⟩ := h; cases h)
    refine r_goto 3919 dL_law_3916 (by decide) ?_
    refine r_weak (L' := [(0, (6, 200)), (1, (4, x)), (2, (4, m)), (3, (4, o)), (4, (4, d)), (5, (0, i))]) [2, 3, 4, 5, 6, 7] rfl ?_
    exact kk _ hP
