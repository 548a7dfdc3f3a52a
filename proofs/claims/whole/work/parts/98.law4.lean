set_option maxHeartbeats 4000000 in
theorem t_L_36 {g : zF} (hl0 : g.2.2.2.1.stackTraces = false) (hL9 : zsl9 g ≤ 3072) {x m o d i : Int} {σ : zS} {C' D' : Nat} {P : zS → Prop} (hi : 0 ≤ i) (hi6 : i + 6 ≤ (zsl9 g : Int)) (hx : σ.1.1 x = some (0, 7)) (h : q_L_36 x m o d (fun j => zscr g (i.toNat + j)) P σ) (kk : ∀ τ, P τ → zw g Y_L_law room_1 3919 [(0, (6, 200)), (1, (4, x)), (2, (4, m)), (3, (4, o)), (4, (4, d)), (5, (0, i))] [] τ C' D' zQ1) : zw g Y_L_law room_1 2519 [(0, (6, 200)), (1, (4, x)), (2, (4, m)), (3, (4, o)), (4, (4, d)), (5, (0, i))] [] σ (C' + 31) (D' + 7344) zQ1 := by
  unfold q_L_36 at h
  refine r_aload_n 1 dL_law_2519 rfl ?_
  refine r_scrk (k := 1) 0 5 hL9 hi (by omega) dL_law_2520 rfl dL_law_2521 rfl dL_law_2523 dL_law_2524 dL_law_2525 ?_
  refine r_scrk (k := 2) 0 5 hL9 hi (by omega) dL_law_2526 rfl dL_law_2527 rfl dL_law_2529 dL_law_2530 dL_law_2531 ?_
  refine r_scrk (k := 3) 0 5 hL9 hi (by omega) dL_law_2532 rfl dL_law_2533 rfl dL_law_2535 dL_law_2536 dL_law_2537 ?_
  refine r_aload_n 3 dL_law_2538 rfl ?_
  refine r_callSH (K' := Y_L_widthAfter) (R' := R_L_widthAfter) (idx := 313) (n := 5) (as := [(4, x), (0, (zscr g (i.toNat + 1))), (0, (zscr g (i.toNat + 2))), (0, (zscr g (i.toNat + 3))), (4, o)]) (rest := []) (C' := C') (D' := D') k0_L_widthAfter wl_1226 wl_1225 ⟨by decide, by decide⟩ dL_law_2539 rfl rfl (Nat.le_of_ble_eq_true rfl) (by have e : R_L_widthAfter.cells = 3 := rfl; omega) (by have e : R_L_widthAfter.slots = 18 := rfl; omega) (m_L_widthAfter hl0 hx h) (fun e τ hq => by obtain ⟨c, τ', e0, -⟩ := hq; cases e0) (fun c9 τ9 hq => ?_)
  obtain ⟨c, τ, e0, hk⟩ := hq
  obtain ⟨e1, e2⟩ : c9 = c ∧ τ9 = τ := by cases e0; exact ⟨rfl, rfl⟩
  rw [e1, e2]
  obtain ⟨hm1, b, τ1, hb, hm2, t, τ2, ht, hc, hv, hP⟩ := hk
  refine r_istore (L' := [(6, (0, c)), (0, (6, 200)), (1, (4, x)), (2, (4, m)), (3, (4, o)), (4, (4, d)), (5, (0, i))]) dL_law_2542 (by decide) rfl ?_
  refine r_aload_n 3 dL_law_2544 rfl ?_
  refine r_scrk (k := 1) 1 6 hL9 hi (by omega) dL_law_2545 rfl dL_law_2546 rfl dL_law_2548 dL_law_2549 dL_law_2550 ?_
  refine r_scrk (k := 2) 1 6 hL9 hi (by omega) dL_law_2551 rfl dL_law_2552 rfl dL_law_2554 dL_law_2555 dL_law_2556 ?_
  refine r_scrk (k := 3) 1 6 hL9 hi (by omega) dL_law_2557 rfl dL_law_2558 rfl dL_law_2560 dL_law_2561 dL_law_2562 ?_
  refine r_callVC (K' := Y_X8_widthAfter) (R' := R_X8_widthAfter) (idx := 315) (n := 3) (b := m) (as := [(0, (zscr g (i.toNat + 1))), (0, (zscr g (i.toNat + 2))), (0, (zscr g (i.toNat + 3)))]) (rest := []) (cn := 8) (C' := C') (D' := D') k0_X8_widthAfter kV_X8_widthAfter kl_L_315 ⟨by decide, by decide⟩ dL_law_2563 rfl rfl (Nat.le_of_ble_eq_true rfl) (by have e : R_X8_widthAfter.cells = 0 := rfl; omega) (by have e : R_X8_widthAfter.slots = 0 := rfl; omega) rfl hm1 ⟨_, hb⟩ (fun r hr => m_X8_widthAfter hl0 ⟨r, hr, hr⟩) (fun ex τ n q hq hn => by rw [hb] at hq; cases hq) (fun v9 τ9 hq => ?_)
  obtain ⟨e1, e2⟩ : v9 = b ∧ τ9 = τ1 := by rw [hb] at hq; cases hq; exact ⟨rfl, rfl⟩
  rw [e1, e2]
  refine r_istore (L' := [(7, (0, b)), (6, (0, c)), (0, (6, 200)), (1, (4, x)), (2, (4, m)), (3, (4, o)), (4, (4, d)), (5, (0, i))]) dL_law_2566 (by decide) rfl ?_
  refine r_aload_n 4 dL_law_2568 rfl ?_
  refine r_callVC (K' := Y_X8_thrown) (R' := R_X8_thrown) (idx := 195) (n := 0) (b := m) (as := []) (rest := []) (cn := 8) (C' := C') (D' := D') k0_X8_thrown kV_X8_thrown kl_L_195 ⟨by decide, by decide⟩ dL_law_2569 rfl rfl (Nat.le_of_ble_eq_true rfl) (by have e : R_X8_thrown.cells = 0 := rfl; omega) (by have e : R_X8_thrown.slots = 0 := rfl; omega) rfl hm2 ⟨_, ht⟩ (fun r hr => m_X8_thrown hl0 ⟨r, hr, hr⟩) (fun ex τ n q hq hn => by rw [ht] at hq; cases hq) (fun v9 τ9 hq => ?_)
  obtain ⟨e1, e2⟩ : v9 = t ∧ τ9 = τ2 := by rw [ht] at hq; cases hq; exact ⟨rfl, rfl⟩
  rw [e1, e2]
  refine r_iload 1 dL_law_2572 rfl ?_
  refine r_icmp_eq 2579 dL_law_2574 (by decide) (z_yes (σ := σ) hc) (fun _ => ?_) (fun h => by obtain ⟨r, h, -⟩ := h; cases h)
  refine r_iload 1 dL_law_2579 rfl ?_
  refine r_if_ne 2596 dL_law_2581 (by decide) (z_br (σ := σ)) (fun _ => ?_) (fun h => ?_)
  · refine r_goto 3919 dL_law_2596 (by decide) ?_
    refine r_weak (L' := [(0, (6, 200)), (1, (4, x)), (2, (4, m)), (3, (4, o)), (4, (4, d)), (5, (0, i))]) [2, 3, 4, 5, 6, 7] rfl ?_
    exact kk _ hP
  · have hv := hv (zite_p h)
    refine r_aload_n 5 dL_law_2584 rfl ?_
    refine r_iconst (v := 0) dL_law_2585 rfl rfl ?_
    refine r_lald dL_law_2586 hv (fun v h => ?_)
    refine r_iload 0 dL_law_2587 rfl ?_
    refine r_i2l dL_law_2589 ?_
    refine r_lcmp dL_law_2590 ?_
    refine r_if_eq 2596 dL_law_2591 (by decide) (z_yes (σ := σ) (zlc_eq (zite_p h))) (fun _ => ?_) (fun h => by obtain ⟨r, h, -⟩ := h; cases h)
    refine r_goto 3919 dL_law_2596 (by decide) ?_
    refine r_weak (L' := [(0, (6, 200)), (1, (4, x)), (2, (4, m)), (3, (4, o)), (4, (4, d)), (5, (0, i))]) [2, 3, 4, 5, 6, 7] rfl ?_
    exact kk _ hP
set_option maxHeartbeats 4000000 in
theorem t_L_37 {g : zF} (hl0 : g.2.2.2.1.stackTraces = false) (hL9 : zsl9 g ≤ 3072) {x m o d i : Int} {σ : zS} {C' D' : Nat} {P : zS → Prop} (hi : 0 ≤ i) (hi6 : i + 6 ≤ (zsl9 g : Int)) (hx : σ.1.1 x = some (0, 7)) (h : q_L_37 x m o d (fun j => zscr g (i.toNat + j)) P σ) (kk : ∀ τ, P τ → zw g Y_L_law room_1 3919 [(0, (6, 200)), (1, (4, x)), (2, (4, m)), (3, (4, o)), (4, (4, d)), (5, (0, i))] [] τ C' D' zQ1) : zw g Y_L_law room_1 2599 [(0, (6, 200)), (1, (4, x)), (2, (4, m)), (3, (4, o)), (4, (4, d)), (5, (0, i))] [] σ (C' + 31) (D' + 7344) zQ1 := by
  unfold q_L_37 at h
  refine r_aload_n 1 dL_law_2599 rfl ?_
  refine r_scrk (k := 1) 0 5 hL9 hi (by omega) dL_law_2600 rfl dL_law_2601 rfl dL_law_2603 dL_law_2604 dL_law_2605 ?_
  refine r_scrk (k := 2) 0 5 hL9 hi (by omega) dL_law_2606 rfl dL_law_2607 rfl dL_law_2609 dL_law_2610 dL_law_2611 ?_
  refine r_scrk (k := 3) 0 5 hL9 hi (by omega) dL_law_2612 rfl dL_law_2613 rfl dL_law_2615 dL_law_2616 dL_law_2617 ?_
  refine r_aload_n 3 dL_law_2618 rfl ?_
  refine r_callSH (K' := Y_L_widthWithout) (R' := R_L_widthWithout) (idx := 316) (n := 5) (as := [(4, x), (0, (zscr g (i.toNat + 1))), (0, (zscr g (i.toNat + 2))), (0, (zscr g (i.toNat + 3))), (4, o)]) (rest := []) (C' := C') (D' := D') k0_L_widthWithout wl_1237 wl_1236 ⟨by decide, by decide⟩ dL_law_2619 rfl rfl (Nat.le_of_ble_eq_true rfl) (by have e : R_L_widthWithout.cells = 3 := rfl; omega) (by have e : R_L_widthWithout.slots = 18 := rfl; omega) (m_L_widthWithout hl0 hx h) (fun e τ hq => by obtain ⟨c, τ', e0, -⟩ := hq; cases e0) (fun c9 τ9 hq => ?_)
  obtain ⟨c, τ, e0, hk⟩ := hq
  obtain ⟨e1, e2⟩ : c9 = c ∧ τ9 = τ := by cases e0; exact ⟨rfl, rfl⟩
  rw [e1, e2]
  obtain ⟨hm1, b, τ1, hb, hm2, t, τ2, ht, hc, hv, hP⟩ := hk
  refine r_istore (L' := [(6, (0, c)), (0, (6, 200)), (1, (4, x)), (2, (4, m)), (3, (4, o)), (4, (4, d)), (5, (0, i))]) dL_law_2622 (by decide) rfl ?_
  refine r_aload_n 3 dL_law_2624 rfl ?_
  refine r_scrk (k := 1) 1 6 hL9 hi (by omega) dL_law_2625 rfl dL_law_2626 rfl dL_law_2628 dL_law_2629 dL_law_2630 ?_
  refine r_scrk (k := 2) 1 6 hL9 hi (by omega) dL_law_2631 rfl dL_law_2632 rfl dL_law_2634 dL_law_2635 dL_law_2636 ?_
  refine r_scrk (k := 3) 1 6 hL9 hi (by omega) dL_law_2637 rfl dL_law_2638 rfl dL_law_2640 dL_law_2641 dL_law_2642 ?_
  refine r_callVC (K' := Y_X8_widthWithout) (R' := R_X8_widthWithout) (idx := 318) (n := 3) (b := m) (as := [(0, (zscr g (i.toNat + 1))), (0, (zscr g (i.toNat + 2))), (0, (zscr g (i.toNat + 3)))]) (rest := []) (cn := 8) (C' := C') (D' := D') k0_X8_widthWithout kV_X8_widthWithout kl_L_318 ⟨by decide, by decide⟩ dL_law_2643 rfl rfl (Nat.le_of_ble_eq_true rfl) (by have e : R_X8_widthWithout.cells = 0 := rfl; omega) (by have e : R_X8_widthWithout.slots = 0 := rfl; omega) rfl hm1 ⟨_, hb⟩ (fun r hr => m_X8_widthWithout hl0 ⟨r, hr, hr⟩) (fun ex τ n q hq hn => by rw [hb] at hq; cases hq) (fun v9 τ9 hq => ?_)
  obtain ⟨e1, e2⟩ : v9 = b ∧ τ9 = τ1 := by rw [hb] at hq; cases hq; exact ⟨rfl, rfl⟩
  rw [e1, e2]
  refine r_istore (L' := [(7, (0, b)), (6, (0, c)), (0, (6, 200)), (1, (4, x)), (2, (4, m)), (3, (4, o)), (4, (4, d)), (5, (0, i))]) dL_law_2646 (by decide) rfl ?_
  refine r_aload_n 4 dL_law_2648 rfl ?_
  refine r_callVC (K' := Y_X8_thrown) (R' := R_X8_thrown) (idx := 195) (n := 0) (b := m) (as := []) (rest := []) (cn := 8) (C' := C') (D' := D') k0_X8_thrown kV_X8_thrown kl_L_195 ⟨by decide, by decide⟩ dL_law_2649 rfl rfl (Nat.le_of_ble_eq_true rfl) (by have e : R_X8_thrown.cells = 0 := rfl; omega) (by have e : R_X8_thrown.slots = 0 := rfl; omega) rfl hm2 ⟨_, ht⟩ (fun r hr => m_X8_thrown hl0 ⟨r, hr, hr⟩) (fun ex τ n q hq hn => by rw [ht] at hq; cases hq) (fun v9 τ9 hq => ?_)
  obtain ⟨e1, e2⟩ : v9 = t ∧ τ9 = τ2 := by rw [ht] at hq; cases hq; exact ⟨rfl, rfl⟩
  rw [e1, e2]
  refine r_iload 1 dL_law_2652 rfl ?_
  refine r_icmp_eq 2659 dL_law_2654 (by decide) (z_yes (σ := σ) hc) (fun _ => ?_) (fun h => by obtain ⟨r, h, -⟩ := h; cases h)
  refine r_iload 1 dL_law_2659 rfl ?_
  refine r_if_ne 2676 dL_law_2661 (by decide) (z_br (σ := σ)) (fun _ => ?_) (fun h => ?_)
  · refine r_goto 3919 dL_law_2676 (by decide) ?_
    refine r_weak (L' := [(0, (6, 200)), (1, (4, x)), (2, (4, m)), (3, (4, o)), (4, (4, d)), (5, (0, i))]) [2, 3, 4, 5, 6, 7] rfl ?_
    exact kk _ hP
  · have hv := hv (zite_p h)
    refine r_aload_n 5 dL_law_2664 rfl ?_
    refine r_iconst (v := 0) dL_law_2665 rfl rfl ?_
    refine r_lald dL_law_2666 hv (fun v h => ?_)
    refine r_iload 0 dL_law_2667 rfl ?_
    refine r_i2l dL_law_2669 ?_
    refine r_lcmp dL_law_2670 ?_
    refine r_if_eq 2676 dL_law_2671 (by decide) (z_yes (σ := σ) (zlc_eq (zite_p h))) (fun _ => ?_) (fun h => by obtain ⟨r, h, -⟩ := h; cases h)
    refine r_goto 3919 dL_law_2676 (by decide) ?_
    refine r_weak (L' := [(0, (6, 200)), (1, (4, x)), (2, (4, m)), (3, (4, o)), (4, (4, d)), (5, (0, i))]) [2, 3, 4, 5, 6, 7] rfl ?_
    exact kk _ hP
set_option maxHeartbeats 4000000 in
theorem t_L_38 {g : zF} (hl0 : g.2.2.2.1.stackTraces = false) (hL9 : zsl9 g ≤ 3072) {x m o d i : Int} {σ : zS} {C' D' : Nat} {P : zS → Prop} (hi : 0 ≤ i) (hi6 : i + 6 ≤ (zsl9 g : Int)) (hx : σ.1.1 x = some (0, 7)) (h : q_L_38 x m o d (fun j => zscr g (i.toNat + j)) P σ) (kk : ∀ τ, P τ → zw g Y_L_law room_1 3919 [(0, (6, 200)), (1, (4, x)), (2, (4, m)), (3, (4, o)), (4, (4, d)), (5, (0, i))] [] τ C' D' zQ1) : zw g Y_L_law room_1 2679 [(0, (6, 200)), (1, (4, x)), (2, (4, m)), (3, (4, o)), (4, (4, d)), (5, (0, i))] [] σ (C' + 31) (D' + 7344) zQ1 := by
  unfold q_L_38 at h
  refine r_aload_n 1 dL_law_2679 rfl ?_
  refine r_scrk (k := 1) 0 5 hL9 hi (by omega) dL_law_2680 rfl dL_law_2681 rfl dL_law_2683 dL_law_2684 dL_law_2685 ?_
  refine r_aload_n 3 dL_law_2686 rfl ?_
  refine r_callSH (K' := Y_L_mostUseful) (R' := R_L_mostUseful) (idx := 319) (n := 3) (as := [(4, x), (0, (zscr g (i.toNat + 1))), (4, o)]) (rest := []) (C' := C') (D' := D') k0_L_mostUseful wl_1244 wl_1243 ⟨by decide, by decide⟩ dL_law_2687 rfl rfl (Nat.le_of_ble_eq_true rfl) (by have e : R_L_mostUseful.cells = 1 := rfl; omega) (by have e : R_L_mostUseful.slots = 6 := rfl; omega) (m_L_mostUseful hl0 hx h) (fun e τ hq => by obtain ⟨c, τ', e0, -⟩ := hq; cases e0) (fun c9 τ9 hq => ?_)
  obtain ⟨c, τ, e0, hk⟩ := hq
  obtain ⟨e1, e2⟩ : c9 = c ∧ τ9 = τ := by cases e0; exact ⟨rfl, rfl⟩
  rw [e1, e2]
  obtain ⟨hm1, b, τ1, hb, hm2, t, τ2, ht, hc, hv, hP⟩ := hk
  refine r_istore (L' := [(6, (0, c)), (0, (6, 200)), (1, (4, x)), (2, (4, m)), (3, (4, o)), (4, (4, d)), (5, (0, i))]) dL_law_2690 (by decide) rfl ?_
  refine r_aload_n 3 dL_law_2692 rfl ?_
  refine r_scrk (k := 1) 1 6 hL9 hi (by omega) dL_law_2693 rfl dL_law_2694 rfl dL_law_2696 dL_law_2697 dL_law_2698 ?_
  refine r_callVC (K' := Y_X8_mostUseful) (R' := R_X8_mostUseful) (idx := 321) (n := 1) (b := m) (as := [(0, (zscr g (i.toNat + 1)))]) (rest := []) (cn := 8) (C' := C') (D' := D') k0_X8_mostUseful kV_X8_mostUseful kl_L_321 ⟨by decide, by decide⟩ dL_law_2699 rfl rfl (Nat.le_of_ble_eq_true rfl) (by have e : R_X8_mostUseful.cells = 0 := rfl; omega) (by have e : R_X8_mostUseful.slots = 0 := rfl; omega) rfl hm1 ⟨_, hb⟩ (fun r hr => m_X8_mostUseful hl0 ⟨r, hr, hr⟩) (fun ex τ n q hq hn => by rw [hb] at hq; cases hq) (fun v9 τ9 hq => ?_)
  obtain ⟨e1, e2⟩ : v9 = b ∧ τ9 = τ1 := by rw [hb] at hq; cases hq; exact ⟨rfl, rfl⟩
  rw [e1, e2]
  refine r_istore (L' := [(7, (0, b)), (6, (0, c)), (0, (6, 200)), (1, (4, x)), (2, (4, m)), (3, (4, o)), (4, (4, d)), (5, (0, i))]) dL_law_2702 (by decide) rfl ?_
  refine r_aload_n 4 dL_law_2704 rfl ?_
  refine r_callVC (K' := Y_X8_thrown) (R' := R_X8_thrown) (idx := 195) (n := 0) (b := m) (as := []) (rest := []) (cn := 8) (C' := C') (D' := D') k0_X8_thrown kV_X8_thrown kl_L_195 ⟨by decide, by decide⟩ dL_law_2705 rfl rfl (Nat.le_of_ble_eq_true rfl) (by have e : R_X8_thrown.cells = 0 := rfl; omega) (by have e : R_X8_thrown.slots = 0 := rfl; omega) rfl hm2 ⟨_, ht⟩ (fun r hr => m_X8_thrown hl0 ⟨r, hr, hr⟩) (fun ex τ n q hq hn => by rw [ht] at hq; cases hq) (fun v9 τ9 hq => ?_)
  obtain ⟨e1, e2⟩ : v9 = t ∧ τ9 = τ2 := by rw [ht] at hq; cases hq; exact ⟨rfl, rfl⟩
  rw [e1, e2]
  refine r_iload 1 dL_law_2708 rfl ?_
  refine r_icmp_eq 2715 dL_law_2710 (by decide) (z_yes (σ := σ) hc) (fun _ => ?_) (fun h => by obtain ⟨r, h, -⟩ := h; cases h)
  refine r_iload 1 dL_law_2715 rfl ?_
  refine r_if_ne 2732 dL_law_2717 (by decide) (z_br (σ := σ)) (fun _ => ?_) (fun h => ?_)
  · refine r_goto 3919 dL_law_2732 (by decide) ?_
    refine r_weak (L' := [(0, (6, 200)), (1, (4, x)), (2, (4, m)), (3, (4, o)), (4, (4, d)), (5, (0, i))]) [2, 3, 4, 5, 6, 7] rfl ?_
    exact kk _ hP
  · have hv := hv (zite_p h)
    refine r_aload_n 5 dL_law_2720 rfl ?_
    refine r_iconst (v := 0) dL_law_2721 rfl rfl ?_
    refine r_lald dL_law_2722 hv (fun v h => ?_)
    refine r_iload 0 dL_law_2723 rfl ?_
    refine r_i2l dL_law_2725 ?_
    refine r_lcmp dL_law_2726 ?_
    refine r_if_eq 2732 dL_law_2727 (by decide) (z_yes (σ := σ) (zlc_eq (zite_p h))) (fun _ => ?_) (fun h => by obtain ⟨r, h, -⟩ := h; cases h)
    refine r_goto 3919 dL_law_2732 (by decide) ?_
    refine r_weak (L' := [(0, (6, 200)), (1, (4, x)), (2, (4, m)), (3, (4, o)), (4, (4, d)), (5, (0, i))]) [2, 3, 4, 5, 6, 7] rfl ?_
    exact kk _ hP
set_option maxHeartbeats 4000000 in
theorem t_L_39 {g : zF} (hl0 : g.2.2.2.1.stackTraces = false) (hL9 : zsl9 g ≤ 3072) {x m o d i : Int} {σ : zS} {C' D' : Nat} {P : zS → Prop} (hi : 0 ≤ i) (hi6 : i + 6 ≤ (zsl9 g : Int)) (hx : σ.1.1 x = some (0, 7)) (h : q_L_39 x m o d (fun j => zscr g (i.toNat + j)) P σ) (kk : ∀ τ, P τ → zw g Y_L_law room_1 3919 [(0, (6, 200)), (1, (4, x)), (2, (4, m)), (3, (4, o)), (4, (4, d)), (5, (0, i))] [] τ C' D' zQ1) : zw g Y_L_law room_1 2735 [(0, (6, 200)), (1, (4, x)), (2, (4, m)), (3, (4, o)), (4, (4, d)), (5, (0, i))] [] σ (C' + 31) (D' + 7344) zQ1 := by
  unfold q_L_39 at h
  refine r_aload_n 1 dL_law_2735 rfl ?_
  refine r_scrk (k := 1) 0 5 hL9 hi (by omega) dL_law_2736 rfl dL_law_2737 rfl dL_law_2739 dL_law_2740 dL_law_2741 ?_
  refine r_aload_n 3 dL_law_2742 rfl ?_
  refine r_callSH (K' := Y_L_bestThen) (R' := R_L_bestThen) (idx := 322) (n := 3) (as := [(4, x), (0, (zscr g (i.toNat + 1))), (4, o)]) (rest := []) (C' := C') (D' := D') k0_L_bestThen wl_1255 wl_1254 ⟨by decide, by decide⟩ dL_law_2743 rfl rfl (Nat.le_of_ble_eq_true rfl) (by have e : R_L_bestThen.cells = 1 := rfl; omega) (by have e : R_L_bestThen.slots = 6 := rfl; omega) (m_L_bestThen hl0 hx h) (fun e τ hq => by obtain ⟨c, τ', e0, -⟩ := hq; cases e0) (fun c9 τ9 hq => ?_)
  obtain ⟨c, τ, e0, hk⟩ := hq
  obtain ⟨e1, e2⟩ : c9 = c ∧ τ9 = τ := by cases e0; exact ⟨rfl, rfl⟩
  rw [e1, e2]
  obtain ⟨hm1, b, τ1, hb, hm2, t, τ2, ht, hc, hv, hP⟩ := hk
  refine r_istore (L' := [(6, (0, c)), (0, (6, 200)), (1, (4, x)), (2, (4, m)), (3, (4, o)), (4, (4, d)), (5, (0, i))]) dL_law_2746 (by decide) rfl ?_
  refine r_aload_n 3 dL_law_2748 rfl ?_
  refine r_scrk (k := 1) 1 6 hL9 hi (by omega) dL_law_2749 rfl dL_law_2750 rfl dL_law_2752 dL_law_2753 dL_law_2754 ?_
  refine r_callVC (K' := Y_X8_bestThen) (R' := R_X8_bestThen) (idx := 324) (n := 1) (b := m) (as := [(0, (zscr g (i.toNat + 1)))]) (rest := []) (cn := 8) (C' := C') (D' := D') k0_X8_bestThen kV_X8_bestThen kl_L_324 ⟨by decide, by decide⟩ dL_law_2755 rfl rfl (Nat.le_of_ble_eq_true rfl) (by have e : R_X8_bestThen.cells = 0 := rfl; omega) (by have e : R_X8_bestThen.slots = 0 := rfl; omega) rfl hm1 ⟨_, hb⟩ (fun r hr => m_X8_bestThen hl0 ⟨r, hr, hr⟩) (fun ex τ n q hq hn => by rw [hb] at hq; cases hq) (fun v9 τ9 hq => ?_)
  obtain ⟨e1, e2⟩ : v9 = b ∧ τ9 = τ1 := by rw [hb] at hq; cases hq; exact ⟨rfl, rfl⟩
  rw [e1, e2]
  refine r_istore (L' := [(7, (0, b)), (6, (0, c)), (0, (6, 200)), (1, (4, x)), (2, (4, m)), (3, (4, o)), (4, (4, d)), (5, (0, i))]) dL_law_2758 (by decide) rfl ?_
  refine r_aload_n 4 dL_law_2760 rfl ?_
  refine r_callVC (K' := Y_X8_thrown) (R' := R_X8_thrown) (idx := 195) (n := 0) (b := m) (as := []) (rest := []) (cn := 8) (C' := C') (D' := D') k0_X8_thrown kV_X8_thrown kl_L_195 ⟨by decide, by decide⟩ dL_law_2761 rfl rfl (Nat.le_of_ble_eq_true rfl) (by have e : R_X8_thrown.cells = 0 := rfl; omega) (by have e : R_X8_thrown.slots = 0 := rfl; omega) rfl hm2 ⟨_, ht⟩ (fun r hr => m_X8_thrown hl0 ⟨r, hr, hr⟩) (fun ex τ n q hq hn => by rw [ht] at hq; cases hq) (fun v9 τ9 hq => ?_)
  obtain ⟨e1, e2⟩ : v9 = t ∧ τ9 = τ2 := by rw [ht] at hq; cases hq; exact ⟨rfl, rfl⟩
  rw [e1, e2]
  refine r_iload 1 dL_law_2764 rfl ?_
  refine r_icmp_eq 2771 dL_law_2766 (by decide) (z_yes (σ := σ) hc) (fun _ => ?_) (fun h => by obtain ⟨r, h, -⟩ := h; cases h)
  refine r_iload 1 dL_law_2771 rfl ?_
  refine r_if_ne 2788 dL_law_2773 (by decide) (z_br (σ := σ)) (fun _ => ?_) (fun h => ?_)
  · refine r_goto 3919 dL_law_2788 (by decide) ?_
    refine r_weak (L' := [(0, (6, 200)), (1, (4, x)), (2, (4, m)), (3, (4, o)), (4, (4, d)), (5, (0, i))]) [2, 3, 4, 5, 6, 7] rfl ?_
    exact kk _ hP
  · have hv := hv (zite_p h)
    refine r_aload_n 5 dL_law_2776 rfl ?_
    refine r_iconst (v := 0) dL_law_2777 rfl rfl ?_
    refine r_lald dL_law_2778 hv (fun v h => ?_)
    refine r_iload 0 dL_law_2779 rfl ?_
    refine r_i2l dL_law_2781 ?_
    refine r_lcmp dL_law_2782 ?_
    refine r_if_eq 2788 dL_law_2783 (by decide) (z_yes (σ := σ) (zlc_eq (zite_p h))) (fun _ => ?_) (fun h => by obtain ⟨r, h, -⟩ := h; cases h)
    refine r_goto 3919 dL_law_2788 (by decide) ?_
    refine r_weak (L' := [(0, (6, 200)), (1, (4, x)), (2, (4, m)), (3, (4, o)), (4, (4, d)), (5, (0, i))]) [2, 3, 4, 5, 6, 7] rfl ?_
    exact kk _ hP
set_option maxHeartbeats 4000000 in
theorem t_L_40 {g : zF} (hl0 : g.2.2.2.1.stackTraces = false) (hL9 : zsl9 g ≤ 3072) {x m o d i : Int} {σ : zS} {C' D' : Nat} {P : zS → Prop} (hi : 0 ≤ i) (hi6 : i + 6 ≤ (zsl9 g : Int)) (hx : σ.1.1 x = some (0, 7)) (h : q_L_40 x m o d (fun j => zscr g (i.toNat + j)) P σ) (kk : ∀ τ, P τ → zw g Y_L_law room_1 3919 [(0, (6, 200)), (1, (4, x)), (2, (4, m)), (3, (4, o)), (4, (4, d)), (5, (0, i))] [] τ C' D' zQ1) : zw g Y_L_law room_1 2791 [(0, (6, 200)), (1, (4, x)), (2, (4, m)), (3, (4, o)), (4, (4, d)), (5, (0, i))] [] σ (C' + 31) (D' + 7344) zQ1 := by
  unfold q_L_40 at h
  refine r_aload_n 1 dL_law_2791 rfl ?_
  refine r_scrk (k := 1) 0 5 hL9 hi (by omega) dL_law_2792 rfl dL_law_2793 rfl dL_law_2795 dL_law_2796 dL_law_2797 ?_
  refine r_scrk (k := 2) 0 5 hL9 hi (by omega) dL_law_2798 rfl dL_law_2799 rfl dL_law_2801 dL_law_2802 dL_law_2803 ?_
  refine r_scrk (k := 3) 0 5 hL9 hi (by omega) dL_law_2804 rfl dL_law_2805 rfl dL_law_2807 dL_law_2808 dL_law_2809 ?_
  refine r_scrk (k := 4) 0 5 hL9 hi (by omega) dL_law_2810 rfl dL_law_2811 rfl dL_law_2813 dL_law_2814 dL_law_2815 ?_
  refine r_aload_n 3 dL_law_2816 rfl ?_
  refine r_callSH (K' := Y_L_probe) (R' := R_L_probe) (idx := 325) (n := 6) (as := [(4, x), (0, (zscr g (i.toNat + 1))), (0, (zscr g (i.toNat + 2))), (0, (zscr g (i.toNat + 3))), (0, (zscr g (i.toNat + 4))), (4, o)]) (rest := []) (C' := C') (D' := D') k0_L_probe wl_1263 wl_1262 ⟨by decide, by decide⟩ dL_law_2817 rfl rfl (Nat.le_of_ble_eq_true rfl) (by have e : R_L_probe.cells = 31 := rfl; omega) (by have e : R_L_probe.slots = 7344 := rfl; omega) (m_L_probe hl0 hx h) (fun e τ hq => by obtain ⟨c, τ', e0, -⟩ := hq; cases e0) (fun c9 τ9 hq => ?_)
  obtain ⟨c, τ, e0, hk⟩ := hq
  obtain ⟨e1, e2⟩ : c9 = c ∧ τ9 = τ := by cases e0; exact ⟨rfl, rfl⟩
  rw [e1, e2]
  obtain ⟨hm1, b, τ1, hb, hm2, t, τ2, ht, hc, hv, hP⟩ := hk
  refine r_istore (L' := [(6, (0, c)), (0, (6, 200)), (1, (4, x)), (2, (4, m)), (3, (4, o)), (4, (4, d)), (5, (0, i))]) dL_law_2820 (by decide) rfl ?_
  refine r_aload_n 3 dL_law_2822 rfl ?_
  refine r_scrk (k := 1) 1 6 hL9 hi (by omega) dL_law_2823 rfl dL_law_2824 rfl dL_law_2826 dL_law_2827 dL_law_2828 ?_
  refine r_scrk (k := 2) 1 6 hL9 hi (by omega) dL_law_2829 rfl dL_law_2830 rfl dL_law_2832 dL_law_2833 dL_law_2834 ?_
  refine r_scrk (k := 3) 1 6 hL9 hi (by omega) dL_law_2835 rfl dL_law_2836 rfl dL_law_2838 dL_law_2839 dL_law_2840 ?_
  refine r_scrk (k := 4) 1 6 hL9 hi (by omega) dL_law_2841 rfl dL_law_2842 rfl dL_law_2844 dL_law_2845 dL_law_2846 ?_
  refine r_callVC (K' := Y_X8_probe) (R' := R_X8_probe) (idx := 328) (n := 4) (b := m) (as := [(0, (zscr g (i.toNat + 1))), (0, (zscr g (i.toNat + 2))), (0, (zscr g (i.toNat + 3))), (0, (zscr g (i.toNat + 4)))]) (rest := []) (cn := 8) (C' := C') (D' := D') k0_X8_probe kV_X8_probe kl_L_328 ⟨by decide, by decide⟩ dL_law_2847 rfl rfl (Nat.le_of_ble_eq_true rfl) (by have e : R_X8_probe.cells = 0 := rfl; omega) (by have e : R_X8_probe.slots = 0 := rfl; omega) rfl hm1 ⟨_, hb⟩ (fun r hr => m_X8_probe hl0 ⟨r, hr, hr⟩) (fun ex τ n q hq hn => by rw [hb] at hq; cases hq) (fun v9 τ9 hq => ?_)
  obtain ⟨e1, e2⟩ : v9 = b ∧ τ9 = τ1 := by rw [hb] at hq; cases hq; exact ⟨rfl, rfl⟩
  rw [e1, e2]
  refine r_istore (L' := [(7, (0, b)), (6, (0, c)), (0, (6, 200)), (1, (4, x)), (2, (4, m)), (3, (4, o)), (4, (4, d)), (5, (0, i))]) dL_law_2850 (by decide) rfl ?_
  refine r_aload_n 4 dL_law_2852 rfl ?_
  refine r_callVC (K' := Y_X8_thrown) (R' := R_X8_thrown) (idx := 195) (n := 0) (b := m) (as := []) (rest := []) (cn := 8) (C' := C') (D' := D') k0_X8_thrown kV_X8_thrown kl_L_195 ⟨by decide, by decide⟩ dL_law_2853 rfl rfl (Nat.le_of_ble_eq_true rfl) (by have e : R_X8_thrown.cells = 0 := rfl; omega) (by have e : R_X8_thrown.slots = 0 := rfl; omega) rfl hm2 ⟨_, ht⟩ (fun r hr => m_X8_thrown hl0 ⟨r, hr, hr⟩) (fun ex τ n q hq hn => by rw [ht] at hq; cases hq) (fun v9 τ9 hq => ?_)
  obtain ⟨e1, e2⟩ : v9 = t ∧ τ9 = τ2 := by rw [ht] at hq; cases hq; exact ⟨rfl, rfl⟩
  rw [e1, e2]
  refine r_iload 1 dL_law_2856 rfl ?_
  refine r_icmp_eq 2863 dL_law_2858 (by decide) (z_yes (σ := σ) hc) (fun _ => ?_) (fun h => by obtain ⟨r, h, -⟩ := h; cases h)
  refine r_iload 1 dL_law_2863 rfl ?_
  refine r_if_ne 2880 dL_law_2865 (by decide) (z_br (σ := σ)) (fun _ => ?_) (fun h => ?_)
  · refine r_goto 3919 dL_law_2880 (by decide) ?_
    refine r_weak (L' := [(0, (6, 200)), (1, (4, x)), (2, (4, m)), (3, (4, o)), (4, (4, d)), (5, (0, i))]) [2, 3, 4, 5, 6, 7] rfl ?_
    exact kk _ hP
  · have hv := hv (zite_p h)
    refine r_aload_n 5 dL_law_2868 rfl ?_
    refine r_iconst (v := 0) dL_law_2869 rfl rfl ?_
    refine r_lald dL_law_2870 hv (fun v h => ?_)
    refine r_iload 0 dL_law_2871 rfl ?_
    refine r_i2l dL_law_2873 ?_
    refine r_lcmp dL_law_2874 ?_
    refine r_if_eq 2880 dL_law_2875 (by decide) (z_yes (σ := σ) (zlc_eq (zite_p h))) (fun _ => ?_) (fun h => by obtain ⟨r, h, -⟩ := h; cases h)
    refine r_goto 3919 dL_law_2880 (by decide) ?_
    refine r_weak (L' := [(0, (6, 200)), (1, (4, x)), (2, (4, m)), (3, (4, o)), (4, (4, d)), (5, (0, i))]) [2, 3, 4, 5, 6, 7] rfl ?_
    exact kk _ hP
set_option maxHeartbeats 4000000 in
theorem t_L_41 {g : zF} (hl0 : g.2.2.2.1.stackTraces = false) (hL9 : zsl9 g ≤ 3072) {x m o d i : Int} {σ : zS} {C' D' : Nat} {P : zS → Prop} (hi : 0 ≤ i) (hi6 : i + 6 ≤ (zsl9 g : Int)) (hx : σ.1.1 x = some (0, 7)) (h : q_L_41 x m o d (fun j => zscr g (i.toNat + j)) P σ) (kk : ∀ τ, P τ → zw g Y_L_law room_1 3919 [(0, (6, 200)), (1, (4, x)), (2, (4, m)), (3, (4, o)), (4, (4, d)), (5, (0, i))] [] τ C' D' zQ1) : zw g Y_L_law room_1 2883 [(0, (6, 200)), (1, (4, x)), (2, (4, m)), (3, (4, o)), (4, (4, d)), (5, (0, i))] [] σ (C' + 31) (D' + 7344) zQ1 := by
  unfold q_L_41 at h
  refine r_aload_n 1 dL_law_2883 rfl ?_
  refine r_scrk (k := 1) 0 5 hL9 hi (by omega) dL_law_2884 rfl dL_law_2885 rfl dL_law_2887 dL_law_2888 dL_law_2889 ?_
  refine r_aload_n 3 dL_law_2890 rfl ?_
  refine r_callSH (K' := Y_L_share) (R' := R_L_share) (idx := 329) (n := 3) (as := [(4, x), (0, (zscr g (i.toNat + 1))), (4, o)]) (rest := []) (C' := C') (D' := D') k0_L_share wl_1270 wl_1269 ⟨by decide, by decide⟩ dL_law_2891 rfl rfl (Nat.le_of_ble_eq_true rfl) (by have e : R_L_share.cells = 28 := rfl; omega) (by have e : R_L_share.slots = 7326 := rfl; omega) (m_L_share hl0 hx h) (fun e τ hq => by obtain ⟨c, τ', e0, -⟩ := hq; cases e0) (fun c9 τ9 hq => ?_)
  obtain ⟨c, τ, e0, hk⟩ := hq
  obtain ⟨e1, e2⟩ : c9 = c ∧ τ9 = τ := by cases e0; exact ⟨rfl, rfl⟩
  rw [e1, e2]
  obtain ⟨hm1, b, τ1, hb, hm2, t, τ2, ht, hc, hv, hP⟩ := hk
  refine r_istore (L' := [(6, (0, c)), (0, (6, 200)), (1, (4, x)), (2, (4, m)), (3, (4, o)), (4, (4, d)), (5, (0, i))]) dL_law_2894 (by decide) rfl ?_
  refine r_aload_n 3 dL_law_2896 rfl ?_
  refine r_scrk (k := 1) 1 6 hL9 hi (by omega) dL_law_2897 rfl dL_law_2898 rfl dL_law_2900 dL_law_2901 dL_law_2902 ?_
  refine r_callVC (K' := Y_X8_share) (R' := R_X8_share) (idx := 331) (n := 1) (b := m) (as := [(0, (zscr g (i.toNat + 1)))]) (rest := []) (cn := 8) (C' := C') (D' := D') k0_X8_share kV_X8_share kl_L_331 ⟨by decide, by decide⟩ dL_law_2903 rfl rfl (Nat.le_of_ble_eq_true rfl) (by have e : R_X8_share.cells = 0 := rfl; omega) (by have e : R_X8_share.slots = 0 := rfl; omega) rfl hm1 ⟨_, hb⟩ (fun r hr => m_X8_share hl0 ⟨r, hr, hr⟩) (fun ex τ n q hq hn => by rw [hb] at hq; cases hq) (fun v9 τ9 hq => ?_)
  obtain ⟨e1, e2⟩ : v9 = b ∧ τ9 = τ1 := by rw [hb] at hq; cases hq; exact ⟨rfl, rfl⟩
  rw [e1, e2]
  refine r_istore (L' := [(7, (0, b)), (6, (0, c)), (0, (6, 200)), (1, (4, x)), (2, (4, m)), (3, (4, o)), (4, (4, d)), (5, (0, i))]) dL_law_2906 (by decide) rfl ?_
  refine r_aload_n 4 dL_law_2908 rfl ?_
  refine r_callVC (K' := Y_X8_thrown) (R' := R_X8_thrown) (idx := 195) (n := 0) (b := m) (as := []) (rest := []) (cn := 8) (C' := C') (D' := D') k0_X8_thrown kV_X8_thrown kl_L_195 ⟨by decide, by decide⟩ dL_law_2909 rfl rfl (Nat.le_of_ble_eq_true rfl) (by have e : R_X8_thrown.cells = 0 := rfl; omega) (by have e : R_X8_thrown.slots = 0 := rfl; omega) rfl hm2 ⟨_, ht⟩ (fun r hr => m_X8_thrown hl0 ⟨r, hr, hr⟩) (fun ex τ n q hq hn => by rw [ht] at hq; cases hq) (fun v9 τ9 hq => ?_)
  obtain ⟨e1, e2⟩ : v9 = t ∧ τ9 = τ2 := by rw [ht] at hq; cases hq; exact ⟨rfl, rfl⟩
  rw [e1, e2]
  refine r_iload 1 dL_law_2912 rfl ?_
  refine r_icmp_eq 2919 dL_law_2914 (by decide) (z_yes (σ := σ) hc) (fun _ => ?_) (fun h => by obtain ⟨r, h, -⟩ := h; cases h)
  refine r_iload 1 dL_law_2919 rfl ?_
  refine r_if_ne 2936 dL_law_2921 (by decide) (z_br (σ := σ)) (fun _ => ?_) (fun h => ?_)
  · refine r_goto 3919 dL_law_2936 (by decide) ?_
    refine r_weak (L' := [(0, (6, 200)), (1, (4, x)), (2, (4, m)), (3, (4, o)), (4, (4, d)), (5, (0, i))]) [2, 3, 4, 5, 6, 7] rfl ?_
    exact kk _ hP
  · have hv := hv (zite_p h)
    refine r_aload_n 5 dL_law_2924 rfl ?_
    refine r_iconst (v := 0) dL_law_2925 rfl rfl ?_
    refine r_lald dL_law_2926 hv (fun v h => ?_)
    refine r_iload 0 dL_law_2927 rfl ?_
    refine r_i2l dL_law_2929 ?_
    refine r_lcmp dL_law_2930 ?_
    refine r_if_eq 2936 dL_law_2931 (by decide) (z_yes (σ := σ) (zlc_eq (zite_p h))) (fun _ => ?_) (fun h => by obtain ⟨r, h, -⟩ := h; cases h)
    refine r_goto 3919 dL_law_2936 (by decide) ?_
    refine r_weak (L' := [(0, (6, 200)), (1, (4, x)), (2, (4, m)), (3, (4, o)), (4, (4, d)), (5, (0, i))]) [2, 3, 4, 5, 6, 7] rfl ?_
    exact kk _ hP
set_option maxHeartbeats 4000000 in
theorem t_L_42 {g : zF} (hl0 : g.2.2.2.1.stackTraces = false) (hL9 : zsl9 g ≤ 3072) {x m o d i : Int} {σ : zS} {C' D' : Nat} {P : zS → Prop} (hi : 0 ≤ i) (hi6 : i + 6 ≤ (zsl9 g : Int)) (hx : σ.1.1 x = some (0, 7)) (h : q_L_42 x m o d (fun j => zscr g (i.toNat + j)) P σ) (kk : ∀ τ, P τ → zw g Y_L_law room_1 3919 [(0, (6, 200)), (1, (4, x)), (2, (4, m)), (3, (4, o)), (4, (4, d)), (5, (0, i))] [] τ C' D' zQ1) : zw g Y_L_law room_1 2939 [(0, (6, 200)), (1, (4, x)), (2, (4, m)), (3, (4, o)), (4, (4, d)), (5, (0, i))] [] σ (C' + 31) (D' + 7344) zQ1 := by
  unfold q_L_42 at h
  refine r_aload_n 1 dL_law_2939 rfl ?_
  refine r_scrk (k := 1) 0 5 hL9 hi (by omega) dL_law_2940 rfl dL_law_2941 rfl dL_law_2943 dL_law_2944 dL_law_2945 ?_
  refine r_aload_n 3 dL_law_2946 rfl ?_
  refine r_callSH (K' := Y_L_relay) (R' := R_L_relay) (idx := 332) (n := 3) (as := [(4, x), (0, (zscr g (i.toNat + 1))), (4, o)]) (rest := []) (C' := C') (D' := D') k0_L_relay wl_1278 wl_1277 ⟨by decide, by decide⟩ dL_law_2947 rfl rfl (Nat.le_of_ble_eq_true rfl) (by have e : R_L_relay.cells = 28 := rfl; omega) (by have e : R_L_relay.slots = 7326 := rfl; omega) (m_L_relay hl0 hx h) (fun e τ hq => by obtain ⟨c, τ', e0, -⟩ := hq; cases e0) (fun c9 τ9 hq => ?_)
  obtain ⟨c, τ, e0, hk⟩ := hq
  obtain ⟨e1, e2⟩ : c9 = c ∧ τ9 = τ := by cases e0; exact ⟨rfl, rfl⟩
  rw [e1, e2]
  obtain ⟨hm1, b, τ1, hb, hm2, t, τ2, ht, hc, hv, hP⟩ := hk
  refine r_istore (L' := [(6, (0, c)), (0, (6, 200)), (1, (4, x)), (2, (4, m)), (3, (4, o)), (4, (4, d)), (5, (0, i))]) dL_law_2950 (by decide) rfl ?_
  refine r_aload_n 3 dL_law_2952 rfl ?_
  refine r_scrk (k := 1) 1 6 hL9 hi (by omega) dL_law_2953 rfl dL_law_2954 rfl dL_law_2956 dL_law_2957 dL_law_2958 ?_
  refine r_callVC (K' := Y_X8_relay) (R' := R_X8_relay) (idx := 334) (n := 1) (b := m) (as := [(0, (zscr g (i.toNat + 1)))]) (rest := []) (cn := 8) (C' := C') (D' := D') k0_X8_relay kV_X8_relay kl_L_334 ⟨by decide, by decide⟩ dL_law_2959 rfl rfl (Nat.le_of_ble_eq_true rfl) (by have e : R_X8_relay.cells = 0 := rfl; omega) (by have e : R_X8_relay.slots = 0 := rfl; omega) rfl hm1 ⟨_, hb⟩ (fun r hr => m_X8_relay hl0 ⟨r, hr, hr⟩) (fun ex τ n q hq hn => by rw [hb] at hq; cases hq) (fun v9 τ9 hq => ?_)
  obtain ⟨e1, e2⟩ : v9 = b ∧ τ9 = τ1 := by rw [hb] at hq; cases hq; exact ⟨rfl, rfl⟩
  rw [e1, e2]
  refine r_istore (L' := [(7, (0, b)), (6, (0, c)), (0, (6, 200)), (1, (4, x)), (2, (4, m)), (3, (4, o)), (4, (4, d)), (5, (0, i))]) dL_law_2962 (by decide) rfl ?_
  refine r_aload_n 4 dL_law_2964 rfl ?_
  refine r_callVC (K' := Y_X8_thrown) (R' := R_X8_thrown) (idx := 195) (n := 0) (b := m) (as := []) (rest := []) (cn := 8) (C' := C') (D' := D') k0_X8_thrown kV_X8_thrown kl_L_195 ⟨by decide, by decide⟩ dL_law_2965 rfl rfl (Nat.le_of_ble_eq_true rfl) (by have e : R_X8_thrown.cells = 0 := rfl; omega) (by have e : R_X8_thrown.slots = 0 := rfl; omega) rfl hm2 ⟨_, ht⟩ (fun r hr => m_X8_thrown hl0 ⟨r, hr, hr⟩) (fun ex τ n q hq hn => by rw [ht] at hq; cases hq) (fun v9 τ9 hq => ?_)
  obtain ⟨e1, e2⟩ : v9 = t ∧ τ9 = τ2 := by rw [ht] at hq; cases hq; exact ⟨rfl, rfl⟩
  rw [e1, e2]
  refine r_iload 1 dL_law_2968 rfl ?_
  refine r_icmp_eq 2975 dL_law_2970 (by decide) (z_yes (σ := σ) hc) (fun _ => ?_) (fun h => by obtain ⟨r, h, -⟩ := h; cases h)
  refine r_iload 1 dL_law_2975 rfl ?_
  refine r_if_ne 2992 dL_law_2977 (by decide) (z_br (σ := σ)) (fun _ => ?_) (fun h => ?_)
  · refine r_goto 3919 dL_law_2992 (by decide) ?_
    refine r_weak (L' := [(0, (6, 200)), (1, (4, x)), (2, (4, m)), (3, (4, o)), (4, (4, d)), (5, (0, i))]) [2, 3, 4, 5, 6, 7] rfl ?_
    exact kk _ hP
  · have hv := hv (zite_p h)
    refine r_aload_n 5 dL_law_2980 rfl ?_
    refine r_iconst (v := 0) dL_law_2981 rfl rfl ?_
    refine r_lald dL_law_2982 hv (fun v h => ?_)
    refine r_iload 0 dL_law_2983 rfl ?_
    refine r_i2l dL_law_2985 ?_
    refine r_lcmp dL_law_2986 ?_
    refine r_if_eq 2992 dL_law_2987 (by decide) (z_yes (σ := σ) (zlc_eq (zite_p h))) (fun _ => ?_) (fun h => by obtain ⟨r, h, -⟩ := h; cases h)
    refine r_goto 3919 dL_law_2992 (by decide) ?_
    refine r_weak (L' := [(0, (6, 200)), (1, (4, x)), (2, (4, m)), (3, (4, o)), (4, (4, d)), (5, (0, i))]) [2, 3, 4, 5, 6, 7] rfl ?_
    exact kk _ hP
set_option maxHeartbeats 4000000 in
theorem t_L_43 {g : zF} (hl0 : g.2.2.2.1.stackTraces = false) (hL9 : zsl9 g ≤ 3072) {x m o d i : Int} {σ : zS} {C' D' : Nat} {P : zS → Prop} (hi : 0 ≤ i) (hi6 : i + 6 ≤ (zsl9 g : Int)) (hx : σ.1.1 x = some (0, 7)) (h : q_L_43 x m o d (fun j => zscr g (i.toNat + j)) P σ) (kk : ∀ τ, P τ → zw g Y_L_law room_1 3919 [(0, (6, 200)), (1, (4, x)), (2, (4, m)), (3, (4, o)), (4, (4, d)), (5, (0, i))] [] τ C' D' zQ1) : zw g Y_L_law room_1 2995 [(0, (6, 200)), (1, (4, x)), (2, (4, m)), (3, (4, o)), (4, (4, d)), (5, (0, i))] [] σ (C' + 31) (D' + 7344) zQ1 := by
  unfold q_L_43 at h
  refine r_aload_n 1 dL_law_2995 rfl ?_
  refine r_scrk (k := 1) 0 5 hL9 hi (by omega) dL_law_2996 rfl dL_law_2997 rfl dL_law_2999 dL_law_3000 dL_law_3001 ?_
  refine r_aload_n 3 dL_law_3002 rfl ?_
  refine r_callSH (K' := Y_L_deliver) (R' := R_L_deliver) (idx := 335) (n := 3) (as := [(4, x), (0, (zscr g (i.toNat + 1))), (4, o)]) (rest := []) (C' := C') (D' := D') k0_L_deliver wl_1285 wl_1284 ⟨by decide, by decide⟩ dL_law_3003 rfl rfl (Nat.le_of_ble_eq_true rfl) (by have e : R_L_deliver.cells = 28 := rfl; omega) (by have e : R_L_deliver.slots = 7326 := rfl; omega) (m_L_deliver hl0 hx h) (fun e τ hq => by obtain ⟨c, τ', e0, -⟩ := hq; cases e0) (fun c9 τ9 hq => ?_)
  obtain ⟨c, τ, e0, hk⟩ := hq
  obtain ⟨e1, e2⟩ : c9 = c ∧ τ9 = τ := by cases e0; exact ⟨rfl, rfl⟩
  rw [e1, e2]
  obtain ⟨hm1, b, τ1, hb, hm2, t, τ2, ht, hc, hv, hP⟩ := hk
  refine r_istore (L' := [(6, (0, c)), (0, (6, 200)), (1, (4, x)), (2, (4, m)), (3, (4, o)), (4, (4, d)), (5, (0, i))]) dL_law_3006 (by decide) rfl ?_
  refine r_aload_n 3 dL_law_3008 rfl ?_
  refine r_scrk (k := 1) 1 6 hL9 hi (by omega) dL_law_3009 rfl dL_law_3010 rfl dL_law_3012 dL_law_3013 dL_law_3014 ?_
  refine r_callVC (K' := Y_X8_deliver) (R' := R_X8_deliver) (idx := 337) (n := 1) (b := m) (as := [(0, (zscr g (i.toNat + 1)))]) (rest := []) (cn := 8) (C' := C') (D' := D') k0_X8_deliver kV_X8_deliver kl_L_337 ⟨by decide, by decide⟩ dL_law_3015 rfl rfl (Nat.le_of_ble_eq_true rfl) (by have e : R_X8_deliver.cells = 0 := rfl; omega) (by have e : R_X8_deliver.slots = 0 := rfl; omega) rfl hm1 ⟨_, hb⟩ (fun r hr => m_X8_deliver hl0 ⟨r, hr, hr⟩) (fun ex τ n q hq hn => by rw [hb] at hq; cases hq) (fun v9 τ9 hq => ?_)
  obtain ⟨e1, e2⟩ : v9 = b ∧ τ9 = τ1 := by rw [hb] at hq; cases hq; exact ⟨rfl, rfl⟩
  rw [e1, e2]
  refine r_istore (L' := [(7, (0, b)), (6, (0, c)), (0, (6, 200)), (1, (4, x)), (2, (4, m)), (3, (4, o)), (4, (4, d)), (5, (0, i))]) dL_law_3018 (by decide) rfl ?_
  refine r_aload_n 4 dL_law_3020 rfl ?_
  refine r_callVC (K' := Y_X8_thrown) (R' := R_X8_thrown) (idx := 195) (n := 0) (b := m) (as := []) (rest := []) (cn := 8) (C' := C') (D' := D') k0_X8_thrown kV_X8_thrown kl_L_195 ⟨by decide, by decide⟩ dL_law_3021 rfl rfl (Nat.le_of_ble_eq_true rfl) (by have e : R_X8_thrown.cells = 0 := rfl; omega) (by have e : R_X8_thrown.slots = 0 := rfl; omega) rfl hm2 ⟨_, ht⟩ (fun r hr => m_X8_thrown hl0 ⟨r, hr, hr⟩) (fun ex τ n q hq hn => by rw [ht] at hq; cases hq) (fun v9 τ9 hq => ?_)
  obtain ⟨e1, e2⟩ : v9 = t ∧ τ9 = τ2 := by rw [ht] at hq; cases hq; exact ⟨rfl, rfl⟩
  rw [e1, e2]
  refine r_iload 1 dL_law_3024 rfl ?_
  refine r_icmp_eq 3031 dL_law_3026 (by decide) (z_yes (σ := σ) hc) (fun _ => ?_) (fun h => by obtain ⟨r, h, -⟩ := h; cases h)
  refine r_iload 1 dL_law_3031 rfl ?_
  refine r_if_ne 3048 dL_law_3033 (by decide) (z_br (σ := σ)) (fun _ => ?_) (fun h => ?_)
  · refine r_goto 3919 dL_law_3048 (by decide) ?_
    refine r_weak (L' := [(0, (6, 200)), (1, (4, x)), (2, (4, m)), (3, (4, o)), (4, (4, d)), (5, (0, i))]) [2, 3, 4, 5, 6, 7] rfl ?_
    exact kk _ hP
  · have hv := hv (zite_p h)
    refine r_aload_n 5 dL_law_3036 rfl ?_
    refine r_iconst (v := 0) dL_law_3037 rfl rfl ?_
    refine r_lald dL_law_3038 hv (fun v h => ?_)
    refine r_iload 0 dL_law_3039 rfl ?_
    refine r_i2l dL_law_3041 ?_
    refine r_lcmp dL_law_3042 ?_
    refine r_if_eq 3048 dL_law_3043 (by decide) (z_yes (σ := σ) (zlc_eq (zite_p h))) (fun _ => ?_) (fun h => by obtain ⟨r, h, -⟩ := h; cases h)
    refine r_goto 3919 dL_law_3048 (by decide) ?_
    refine r_weak (L' := [(0, (6, 200)), (1, (4, x)), (2, (4, m)), (3, (4, o)), (4, (4, d)), (5, (0, i))]) [2, 3, 4, 5, 6, 7] rfl ?_
    exact kk _ hP
set_option maxHeartbeats 4000000 in
theorem t_L_44 {g : zF} (hl0 : g.2.2.2.1.stackTraces = false) (hL9 : zsl9 g ≤ 3072) {x m o d i : Int} {σ : zS} {C' D' : Nat} {P : zS → Prop} (hi : 0 ≤ i) (hi6 : i + 6 ≤ (zsl9 g : Int)) (hx : σ.1.1 x = some (0, 7)) (h : q_L_44 x m o d (fun j => zscr g (i.toNat + j)) P σ) (kk : ∀ τ, P τ → zw g Y_L_law room_1 3919 [(0, (6, 200)), (1, (4, x)), (2, (4, m)), (3, (4, o)), (4, (4, d)), (5, (0, i))] [] τ C' D' zQ1) : zw g Y_L_law room_1 3051 [(0, (6, 200)), (1, (4, x)), (2, (4, m)), (3, (4, o)), (4, (4, d)), (5, (0, i))] [] σ (C' + 31) (D' + 7344) zQ1 := by
  unfold q_L_44 at h
  refine r_aload_n 1 dL_law_3051 rfl ?_
  refine r_aload_n 3 dL_law_3052 rfl ?_
  refine r_callSH (K' := Y_L_lose) (R' := R_L_lose) (idx := 338) (n := 2) (as := [(4, x), (4, o)]) (rest := []) (C' := C') (D' := D') k0_L_lose wl_1292 wl_1291 ⟨by decide, by decide⟩ dL_law_3053 rfl rfl (Nat.le_of_ble_eq_true rfl) (by have e : R_L_lose.cells = 27 := rfl; omega) (by have e : R_L_lose.slots = 7320 := rfl; omega) (m_L_lose hl0 hx h) (fun e τ hq => by obtain ⟨c, τ', e0, -⟩ := hq; cases e0) (fun c9 τ9 hq => ?_)
  obtain ⟨c, τ, e0, hk⟩ := hq
  obtain ⟨e1, e2⟩ : c9 = c ∧ τ9 = τ := by cases e0; exact ⟨rfl, rfl⟩
  rw [e1, e2]
  obtain ⟨hm1, b, τ1, hb, hm2, t, τ2, ht, hc, hv, hP⟩ := hk
  refine r_istore (L' := [(6, (0, c)), (0, (6, 200)), (1, (4, x)), (2, (4, m)), (3, (4, o)), (4, (4, d)), (5, (0, i))]) dL_law_3056 (by decide) rfl ?_
  refine r_aload_n 3 dL_law_3058 rfl ?_
  refine r_callVC (K' := Y_X8_lose) (R' := R_X8_lose) (idx := 341) (n := 0) (b := m) (as := []) (rest := []) (cn := 8) (C' := C') (D' := D') k0_X8_lose kV_X8_lose kl_L_341 ⟨by decide, by decide⟩ dL_law_3059 rfl rfl (Nat.le_of_ble_eq_true rfl) (by have e : R_X8_lose.cells = 0 := rfl; omega) (by have e : R_X8_lose.slots = 0 := rfl; omega) rfl hm1 ⟨_, hb⟩ (fun r hr => m_X8_lose hl0 ⟨r, hr, hr⟩) (fun ex τ n q hq hn => by rw [hb] at hq; cases hq) (fun v9 τ9 hq => ?_)
  obtain ⟨e1, e2⟩ : v9 = b ∧ τ9 = τ1 := by rw [hb] at hq; cases hq; exact ⟨rfl, rfl⟩
  rw [e1, e2]
  refine r_istore (L' := [(7, (0, b)), (6, (0, c)), (0, (6, 200)), (1, (4, x)), (2, (4, m)), (3, (4, o)), (4, (4, d)), (5, (0, i))]) dL_law_3062 (by decide) rfl ?_
  refine r_aload_n 4 dL_law_3064 rfl ?_
  refine r_callVC (K' := Y_X8_thrown) (R' := R_X8_thrown) (idx := 195) (n := 0) (b := m) (as := []) (rest := []) (cn := 8) (C' := C') (D' := D') k0_X8_thrown kV_X8_thrown kl_L_195 ⟨by decide, by decide⟩ dL_law_3065 rfl rfl (Nat.le_of_ble_eq_true rfl) (by have e : R_X8_thrown.cells = 0 := rfl; omega) (by have e : R_X8_thrown.slots = 0 := rfl; omega) rfl hm2 ⟨_, ht⟩ (fun r hr => m_X8_thrown hl0 ⟨r, hr, hr⟩) (fun ex τ n q hq hn => by rw [ht] at hq; cases hq) (fun v9 τ9 hq => ?_)
  obtain ⟨e1, e2⟩ : v9 = t ∧ τ9 = τ2 := by rw [ht] at hq; cases hq; exact ⟨rfl, rfl⟩
  rw [e1, e2]
  refine r_iload 1 dL_law_3068 rfl ?_
  refine r_icmp_eq 3075 dL_law_3070 (by decide) (z_yes (σ := σ) hc) (fun _ => ?_) (fun h => by obtain ⟨r, h, -⟩ := h; cases h)
  refine r_iload 1 dL_law_3075 rfl ?_
  refine r_if_ne 3092 dL_law_3077 (by decide) (z_br (σ := σ)) (fun _ => ?_) (fun h => ?_)
  · refine r_goto 3919 dL_law_3092 (by decide) ?_
    refine r_weak (L' := [(0, (6, 200)), (1, (4, x)), (2, (4, m)), (3, (4, o)), (4, (4, d)), (5, (0, i))]) [2, 3, 4, 5, 6, 7] rfl ?_
    exact kk _ hP
  · have hv := hv (zite_p h)
    refine r_aload_n 5 dL_law_3080 rfl ?_
    refine r_iconst (v := 0) dL_law_3081 rfl rfl ?_
    refine r_lald dL_law_3082 hv (fun v h => ?_)
    refine r_iload 0 dL_law_3083 rfl ?_
    refine r_i2l dL_law_3085 ?_
    refine r_lcmp dL_law_3086 ?_
    refine r_if_eq 3092 dL_law_3087 (by decide) (z_yes (σ := σ) (zlc_eq (zite_p h))) (fun _ => ?_) (fun h => by obtain ⟨r, h, -⟩ := h; cases h)
    refine r_goto 3919 dL_law_3092 (by decide) ?_
    refine r_weak (L' := [(0, (6, 200)), (1, (4, x)), (2, (4, m)), (3, (4, o)), (4, (4, d)), (5, (0, i))]) [2, 3, 4, 5, 6, 7] rfl ?_
    exact kk _ hP
set_option maxHeartbeats 4000000 in
theorem t_L_45 {g : zF} (hl0 : g.2.2.2.1.stackTraces = false) (hL9 : zsl9 g ≤ 3072) {x m o d i : Int} {σ : zS} {C' D' : Nat} {P : zS → Prop} (hi : 0 ≤ i) (hi6 : i + 6 ≤ (zsl9 g : Int)) (hx : σ.1.1 x = some (0, 7)) (h : q_L_45 x m o d (fun j => zscr g (i.toNat + j)) P σ) (kk : ∀ τ, P τ → zw g Y_L_law room_1 3919 [(0, (6, 200)), (1, (4, x)), (2, (4, m)), (3, (4, o)), (4, (4, d)), (5, (0, i))] [] τ C' D' zQ1) : zw g Y_L_law room_1 3095 [(0, (6, 200)), (1, (4, x)), (2, (4, m)), (3, (4, o)), (4, (4, d)), (5, (0, i))] [] σ (C' + 31) (D' + 7344) zQ1 := by
  unfold q_L_45 at h
  refine r_aload_n 1 dL_law_3095 rfl ?_
  refine r_scrk (k := 1) 0 5 hL9 hi (by omega) dL_law_3096 rfl dL_law_3097 rfl dL_law_3099 dL_law_3100 dL_law_3101 ?_
  refine r_aload_n 3 dL_law_3102 rfl ?_
  refine r_callSH (K' := Y_L_exchange) (R' := R_L_exchange) (idx := 342) (n := 3) (as := [(4, x), (0, (zscr g (i.toNat + 1))), (4, o)]) (rest := []) (C' := C') (D' := D') k0_L_exchange wl_1301 wl_1300 ⟨by decide, by decide⟩ dL_law_3103 rfl rfl (Nat.le_of_ble_eq_true rfl) (by have e : R_L_exchange.cells = 28 := rfl; omega) (by have e : R_L_exchange.slots = 7326 := rfl; omega) (m_L_exchange hl0 hx h) (fun e τ hq => by obtain ⟨c, τ', e0, -⟩ := hq; cases e0) (fun c9 τ9 hq => ?_)
  obtain ⟨c, τ, e0, hk⟩ := hq
  obtain ⟨e1, e2⟩ : c9 = c ∧ τ9 = τ := by cases e0; exact ⟨rfl, rfl⟩
  rw [e1, e2]
  obtain ⟨hm1, b, τ1, hb, hm2, t, τ2, ht, hc, hv, hP⟩ := hk
  refine r_istore (L' := [(6, (0, c)), (0, (6, 200)), (1, (4, x)), (2, (4, m)), (3, (4, o)), (4, (4, d)), (5, (0, i))]) dL_law_3106 (by decide) rfl ?_
  refine r_aload_n 3 dL_law_3108 rfl ?_
  refine r_scrk (k := 1) 1 6 hL9 hi (by omega) dL_law_3109 rfl dL_law_3110 rfl dL_law_3112 dL_law_3113 dL_law_3114 ?_
  refine r_callVC (K' := Y_X8_exchange) (R' := R_X8_exchange) (idx := 344) (n := 1) (b := m) (as := [(0, (zscr g (i.toNat + 1)))]) (rest := []) (cn := 8) (C' := C') (D' := D') k0_X8_exchange kV_X8_exchange kl_L_344 ⟨by decide, by decide⟩ dL_law_3115 rfl rfl (Nat.le_of_ble_eq_true rfl) (by have e : R_X8_exchange.cells = 0 := rfl; omega) (by have e : R_X8_exchange.slots = 0 := rfl; omega) rfl hm1 ⟨_, hb⟩ (fun r hr => m_X8_exchange hl0 ⟨r, hr, hr⟩) (fun ex τ n q hq hn => by rw [hb] at hq; cases hq) (fun v9 τ9 hq => ?_)
  obtain ⟨e1, e2⟩ : v9 = b ∧ τ9 = τ1 := by rw [hb] at hq; cases hq; exact ⟨rfl, rfl⟩
  rw [e1, e2]
  refine r_istore (L' := [(7, (0, b)), (6, (0, c)), (0, (6, 200)), (1, (4, x)), (2, (4, m)), (3, (4, o)), (4, (4, d)), (5, (0, i))]) dL_law_3118 (by decide) rfl ?_
  refine r_aload_n 4 dL_law_3120 rfl ?_
  refine r_callVC (K' := Y_X8_thrown) (R' := R_X8_thrown) (idx := 195) (n := 0) (b := m) (as := []) (rest := []) (cn := 8) (C' := C') (D' := D') k0_X8_thrown kV_X8_thrown kl_L_195 ⟨by decide, by decide⟩ dL_law_3121 rfl rfl (Nat.le_of_ble_eq_true rfl) (by have e : R_X8_thrown.cells = 0 := rfl; omega) (by have e : R_X8_thrown.slots = 0 := rfl; omega) rfl hm2 ⟨_, ht⟩ (fun r hr => m_X8_thrown hl0 ⟨r, hr, hr⟩) (fun ex τ n q hq hn => by rw [ht] at hq; cases hq) (fun v9 τ9 hq => ?_)
  obtain ⟨e1, e2⟩ : v9 = t ∧ τ9 = τ2 := by rw [ht] at hq; cases hq; exact ⟨rfl, rfl⟩
  rw [e1, e2]
  refine r_iload 1 dL_law_3124 rfl ?_
  refine r_icmp_eq 3131 dL_law_3126 (by decide) (z_yes (σ := σ) hc) (fun _ => ?_) (fun h => by obtain ⟨r, h, -⟩ := h; cases h)
  refine r_iload 1 dL_law_3131 rfl ?_
  refine r_if_ne 3148 dL_law_3133 (by decide) (z_br (σ := σ)) (fun _ => ?_) (fun h => ?_)
  · refine r_goto 3919 dL_law_3148 (by decide) ?_
    refine r_weak (L' := [(0, (6, 200)), (1, (4, x)), (2, (4, m)), (3, (4, o)), (4, (4, d)), (5, (0, i))]) [2, 3, 4, 5, 6, 7] rfl ?_
    exact kk _ hP
  · have hv := hv (zite_p h)
    refine r_aload_n 5 dL_law_3136 rfl ?_
    refine r_iconst (v := 0) dL_law_3137 rfl rfl ?_
    refine r_lald dL_law_3138 hv (fun v h => ?_)
    refine r_iload 0 dL_law_3139 rfl ?_
    refine r_i2l dL_law_3141 ?_
    refine r_lcmp dL_law_3142 ?_
    refine r_if_eq 3148 dL_law_3143 (by decide) (z_yes (σ := σ) (zlc_eq (zite_p h))) (fun _ => ?_) (fun h => by obtain ⟨r, h, -⟩ := h; cases h)
    refine r_goto 3919 dL_law_3148 (by decide) ?_
    refine r_weak (L' := [(0, (6, 200)), (1, (4, x)), (2, (4, m)), (3, (4, o)), (4, (4, d)), (5, (0, i))]) [2, 3, 4, 5, 6, 7] rfl ?_
    exact kk _ hP
set_option maxHeartbeats 4000000 in
theorem t_L_46 {g : zF} (hl0 : g.2.2.2.1.stackTraces = false) (hL9 : zsl9 g ≤ 3072) {x m o d i : Int} {σ : zS} {C' D' : Nat} {P : zS → Prop} (hi : 0 ≤ i) (hi6 : i + 6 ≤ (zsl9 g : Int)) (hx : σ.1.1 x = some (0, 7)) (h : q_L_46 x m o d (fun j => zscr g (i.toNat + j)) P σ) (kk : ∀ τ, P τ → zw g Y_L_law room_1 3919 [(0, (6, 200)), (1, (4, x)), (2, (4, m)), (3, (4, o)), (4, (4, d)), (5, (0, i))] [] τ C' D' zQ1) : zw g Y_L_law room_1 3151 [(0, (6, 200)), (1, (4, x)), (2, (4, m)), (3, (4, o)), (4, (4, d)), (5, (0, i))] [] σ (C' + 31) (D' + 7344) zQ1 := by
  unfold q_L_46 at h
  refine r_aload_n 1 dL_law_3151 rfl ?_
  refine r_scrk (k := 1) 0 5 hL9 hi (by omega) dL_law_3152 rfl dL_law_3153 rfl dL_law_3155 dL_law_3156 dL_law_3157 ?_
  refine r_aload_n 3 dL_law_3158 rfl ?_
  refine r_callSH (K' := Y_L_pass) (R' := R_L_pass) (idx := 345) (n := 3) (as := [(4, x), (0, (zscr g (i.toNat + 1))), (4, o)]) (rest := []) (C' := C') (D' := D') k0_L_pass wl_1308 wl_1307 ⟨by decide, by decide⟩ dL_law_3159 rfl rfl (Nat.le_of_ble_eq_true rfl) (by have e : R_L_pass.cells = 28 := rfl; omega) (by have e : R_L_pass.slots = 7326 := rfl; omega) (m_L_pass hl0 hx h) (fun e τ hq => by obtain ⟨c, τ', e0, -⟩ := hq; cases e0) (fun c9 τ9 hq => ?_)
  obtain ⟨c, τ, e0, hk⟩ := hq
  obtain ⟨e1, e2⟩ : c9 = c ∧ τ9 = τ := by cases e0; exact ⟨rfl, rfl⟩
  rw [e1, e2]
  obtain ⟨hm1, b, τ1, hb, hm2, t, τ2, ht, hc, hv, hP⟩ := hk
  refine r_istore (L' := [(6, (0, c)), (0, (6, 200)), (1, (4, x)), (2, (4, m)), (3, (4, o)), (4, (4, d)), (5, (0, i))]) dL_law_3162 (by decide) rfl ?_
  refine r_aload_n 3 dL_law_3164 rfl ?_
  refine r_scrk (k := 1) 1 6 hL9 hi (by omega) dL_law_3165 rfl dL_law_3166 rfl dL_law_3168 dL_law_3169 dL_law_3170 ?_
  refine r_callVC (K' := Y_X8_pass) (R' := R_X8_pass) (idx := 347) (n := 1) (b := m) (as := [(0, (zscr g (i.toNat + 1)))]) (rest := []) (cn := 8) (C' := C') (D' := D') k0_X8_pass kV_X8_pass kl_L_347 ⟨by decide, by decide⟩ dL_law_3171 rfl rfl (Nat.le_of_ble_eq_true rfl) (by have e : R_X8_pass.cells = 0 := rfl; omega) (by have e : R_X8_pass.slots = 0 := rfl; omega) rfl hm1 ⟨_, hb⟩ (fun r hr => m_X8_pass hl0 ⟨r, hr, hr⟩) (fun ex τ n q hq hn => by rw [hb] at hq; cases hq) (fun v9 τ9 hq => ?_)
  obtain ⟨e1, e2⟩ : v9 = b ∧ τ9 = τ1 := by rw [hb] at hq; cases hq; exact ⟨rfl, rfl⟩
  rw [e1, e2]
  refine r_istore (L' := [(7, (0, b)), (6, (0, c)), (0, (6, 200)), (1, (4, x)), (2, (4, m)), (3, (4, o)), (4, (4, d)), (5, (0, i))]) dL_law_3174 (by decide) rfl ?_
  refine r_aload_n 4 dL_law_3176 rfl ?_
  refine r_callVC (K' := Y_X8_thrown) (R' := R_X8_thrown) (idx := 195) (n := 0) (b := m) (as := []) (rest := []) (cn := 8) (C' := C') (D' := D') k0_X8_thrown kV_X8_thrown kl_L_195 ⟨by decide, by decide⟩ dL_law_3177 rfl rfl (Nat.le_of_ble_eq_true rfl) (by have e : R_X8_thrown.cells = 0 := rfl; omega) (by have e : R_X8_thrown.slots = 0 := rfl; omega) rfl hm2 ⟨_, ht⟩ (fun r hr => m_X8_thrown hl0 ⟨r, hr, hr⟩) (fun ex τ n q hq hn => by rw [ht] at hq; cases hq) (fun v9 τ9 hq => ?_)
  obtain ⟨e1, e2⟩ : v9 = t ∧ τ9 = τ2 := by rw [ht] at hq; cases hq; exact ⟨rfl, rfl⟩
  rw [e1, e2]
  refine r_iload 1 dL_law_3180 rfl ?_
  refine r_icmp_eq 3187 dL_law_3182 (by decide) (z_yes (σ := σ) hc) (fun _ => ?_) (fun h => by obtain ⟨r, h, -⟩ := h; cases h)
  refine r_iload 1 dL_law_3187 rfl ?_
  refine r_if_ne 3204 dL_law_3189 (by decide) (z_br (σ := σ)) (fun _ => ?_) (fun h => ?_)
  · refine r_goto 3919 dL_law_3204 (by decide) ?_
    refine r_weak (L' := [(0, (6, 200)), (1, (4, x)), (2, (4, m)), (3, (4, o)), (4, (4, d)), (5, (0, i))]) [2, 3, 4, 5, 6, 7] rfl ?_
    exact kk _ hP
  · have hv := hv (zite_p h)
    refine r_aload_n 5 dL_law_3192 rfl ?_
    refine r_iconst (v := 0) dL_law_3193 rfl rfl ?_
    refine r_lald dL_law_3194 hv (fun v h => ?_)
    refine r_iload 0 dL_law_3195 rfl ?_
    refine r_i2l dL_law_3197 ?_
    refine r_lcmp dL_law_3198 ?_
    refine r_if_eq 3204 dL_law_3199 (by decide) (z_yes (σ := σ) (zlc_eq (zite_p h))) (fun _ => ?_) (fun h => by obtain ⟨r, h, -⟩ := h; cases h)
    refine r_goto 3919 dL_law_3204 (by decide) ?_
    refine r_weak (L' := [(0, (6, 200)), (1, (4, x)), (2, (4, m)), (3, (4, o)), (4, (4, d)), (5, (0, i))]) [2, 3, 4, 5, 6, 7] rfl ?_
    exact kk _ hP
set_option maxHeartbeats 4000000 in
theorem t_L_47 {g : zF} (hl0 : g.2.2.2.1.stackTraces = false) (hL9 : zsl9 g ≤ 3072) {x m o d i : Int} {σ : zS} {C' D' : Nat} {P : zS → Prop} (hi : 0 ≤ i) (hi6 : i + 6 ≤ (zsl9 g : Int)) (hx : σ.1.1 x = some (0, 7)) (h : q_L_47 x m o d (fun j => zscr g (i.toNat + j)) P σ) (kk : ∀ τ, P τ → zw g Y_L_law room_1 3919 [(0, (6, 200)), (1, (4, x)), (2, (4, m)), (3, (4, o)), (4, (4, d)), (5, (0, i))] [] τ C' D' zQ1) : zw g Y_L_law room_1 3207 [(0, (6, 200)), (1, (4, x)), (2, (4, m)), (3, (4, o)), (4, (4, d)), (5, (0, i))] [] σ (C' + 31) (D' + 7344) zQ1 := by
  unfold q_L_47 at h
  refine r_aload_n 1 dL_law_3207 rfl ?_
  refine r_scrk (k := 1) 0 5 hL9 hi (by omega) dL_law_3208 rfl dL_law_3209 rfl dL_law_3211 dL_law_3212 dL_law_3213 ?_
  refine r_scrk (k := 2) 0 5 hL9 hi (by omega) dL_law_3214 rfl dL_law_3215 rfl dL_law_3217 dL_law_3218 dL_law_3219 ?_
  refine r_scrk (k := 3) 0 5 hL9 hi (by omega) dL_law_3220 rfl dL_law_3221 rfl dL_law_3223 dL_law_3224 dL_law_3225 ?_
  refine r_bnz 3233 3234 dL_law_3226 (by decide) dL_law_3229 dL_law_3230 (by decide) dL_law_3233 rfl ?_
  refine r_aload_n 3 dL_law_3234 rfl ?_
  refine r_callSH (K' := Y_L_link) (R' := R_L_link) (idx := 348) (n := 5) (as := [(4, x), (0, (zscr g (i.toNat + 1))), (0, (zscr g (i.toNat + 2))), (0, (zbz (zscr g (i.toNat + 3)))), (4, o)]) (rest := []) (C' := C') (D' := D') k0_L_link wl_1315 wl_1314 ⟨by decide, by decide⟩ dL_law_3235 rfl rfl (Nat.le_of_ble_eq_true rfl) (by have e : R_L_link.cells = 29 := rfl; omega) (by have e : R_L_link.slots = 7332 := rfl; omega) (m_L_link hl0 hx h) (fun e τ hq => by obtain ⟨c, τ', e0, -⟩ := hq; cases e0) (fun c9 τ9 hq => ?_)
  obtain ⟨c, τ, e0, hk⟩ := hq
  obtain ⟨e1, e2⟩ : c9 = c ∧ τ9 = τ := by cases e0; exact ⟨rfl, rfl⟩
  rw [e1, e2]
  obtain ⟨hm1, b, τ1, hb, hm2, t, τ2, ht, hc, hv, hP⟩ := hk
  refine r_istore (L' := [(6, (0, c)), (0, (6, 200)), (1, (4, x)), (2, (4, m)), (3, (4, o)), (4, (4, d)), (5, (0, i))]) dL_law_3238 (by decide) rfl ?_
  refine r_aload_n 3 dL_law_3240 rfl ?_
  refine r_scrk (k := 1) 1 6 hL9 hi (by omega) dL_law_3241 rfl dL_law_3242 rfl dL_law_3244 dL_law_3245 dL_law_3246 ?_
  refine r_scrk (k := 2) 1 6 hL9 hi (by omega) dL_law_3247 rfl dL_law_3248 rfl dL_law_3250 dL_law_3251 dL_law_3252 ?_
  refine r_scrk (k := 3) 1 6 hL9 hi (by omega) dL_law_3253 rfl dL_law_3254 rfl dL_law_3256 dL_law_3257 dL_law_3258 ?_
  refine r_bnz 3266 3267 dL_law_3259 (by decide) dL_law_3262 dL_law_3263 (by decide) dL_law_3266 rfl ?_
  refine r_callVC (K' := Y_X8_link) (R' := R_X8_link) (idx := 351) (n := 3) (b := m) (as := [(0, (zscr g (i.toNat + 1))), (0, (zscr g (i.toNat + 2))), (0, (zbz (zscr g (i.toNat + 3))))]) (rest := []) (cn := 8) (C' := C') (D' := D') k0_X8_link kV_X8_link kl_L_351 ⟨by decide, by decide⟩ dL_law_3267 rfl rfl (Nat.le_of_ble_eq_true rfl) (by have e : R_X8_link.cells = 0 := rfl; omega) (by have e : R_X8_link.slots = 0 := rfl; omega) rfl hm1 ⟨_, hb⟩ (fun r hr => m_X8_link hl0 ⟨r, hr, hr⟩) (fun ex τ n q hq hn => by rw [hb] at hq; cases hq) (fun v9 τ9 hq => ?_)
  obtain ⟨e1, e2⟩ : v9 = b ∧ τ9 = τ1 := by rw [hb] at hq; cases hq; exact ⟨rfl, rfl⟩
  rw [e1, e2]
  refine r_istore (L' := [(7, (0, b)), (6, (0, c)), (0, (6, 200)), (1, (4, x)), (2, (4, m)), (3, (4, o)), (4, (4, d)), (5, (0, i))]) dL_law_3270 (by decide) rfl ?_
  refine r_aload_n 4 dL_law_3272 rfl ?_
  refine r_callVC (K' := Y_X8_thrown) (R' := R_X8_thrown) (idx := 195) (n := 0) (b := m) (as := []) (rest := []) (cn := 8) (C' := C') (D' := D') k0_X8_thrown kV_X8_thrown kl_L_195 ⟨by decide, by decide⟩ dL_law_3273 rfl rfl (Nat.le_of_ble_eq_true rfl) (by have e : R_X8_thrown.cells = 0 := rfl; omega) (by have e : R_X8_thrown.slots = 0 := rfl; omega) rfl hm2 ⟨_, ht⟩ (fun r hr => m_X8_thrown hl0 ⟨r, hr, hr⟩) (fun ex τ n q hq hn => by rw [ht] at hq; cases hq) (fun v9 τ9 hq => ?_)
  obtain ⟨e1, e2⟩ : v9 = t ∧ τ9 = τ2 := by rw [ht] at hq; cases hq; exact ⟨rfl, rfl⟩
  rw [e1, e2]
  refine r_iload 1 dL_law_3276 rfl ?_
  refine r_icmp_eq 3283 dL_law_3278 (by decide) (z_yes (σ := σ) hc) (fun _ => ?_) (fun h => by obtain ⟨r, h, -⟩ := h; cases h)
  refine r_iload 1 dL_law_3283 rfl ?_
  refine r_if_ne 3307 dL_law_3285 (by decide) (z_br (σ := σ)) (fun _ => ?_) (fun h => ?_)
  · refine r_goto 3919 dL_law_3307 (by decide) ?_
    refine r_weak (L' := [(0, (6, 200)), (1, (4, x)), (2, (4, m)), (3, (4, o)), (4, (4, d)), (5, (0, i))]) [2, 3, 4, 5, 6, 7] rfl ?_
    exact kk _ hP
  · have hv := hv (zite_p h)
    refine r_aload_n 5 dL_law_3288 rfl ?_
    refine r_iconst (v := 0) dL_law_3289 rfl rfl ?_
    refine r_lald dL_law_3290 hv (fun v h => ?_)
    refine r_iload 0 dL_law_3291 rfl ?_
    refine r_lbnz 3300 3301 dL_law_3293 (by decide) dL_law_3296 dL_law_3297 (by decide) dL_law_3300 rfl ?_
    refine r_lcmp dL_law_3301 ?_
    refine r_if_eq 3307 dL_law_3302 (by decide) (z_yes (σ := σ) (zlc_eq (zite_p h))) (fun _ => ?_) (fun h => by obtain ⟨r, h, -⟩ := h; cases h)
    refine r_goto 3919 dL_law_3307 (by decide) ?_
    refine r_weak (L' := [(0, (6, 200)), (1, (4, x)), (2, (4, m)), (3, (4, o)), (4, (4, d)), (5, (0, i))]) [2, 3, 4, 5, 6, 7] rfl ?_
    exact kk _ hP
