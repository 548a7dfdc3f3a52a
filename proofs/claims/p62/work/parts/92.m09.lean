/- L_width -/

set_option maxRecDepth 100000 in
set_option maxHeartbeats 4000000 in
theorem t_L_width {g : zF} (hl0 : g.2.2.2.1.stackTraces = false) {Q : zR × zS → Prop}   {a0 a1 a2 : Int} {σ : zS} (h : zo (f_L_width  a0 a1 a2 σ) Q) : zw g Y_L_width R_L_width 0 [(0, (4, a0)), (1, (0, a1)), (2, (0, a2))] [] σ 0 0 Q := by
  unfold f_L_width at h
  refine r_aload_n 0 dL_width_0 rfl ?_
  refine r_iload_n 1 dL_width_1 rfl ?_
  refine r_iload_n 2 dL_width_2 rfl ?_
  refine r_iconst (v := 1) dL_width_3 rfl rfl ?_
  refine r_callV (K' := Y_X7_belief) (R' := R_X7_belief) (idx := 195) (n := 3) (b := a0) (as := [(0, a1), (0, a2), (0, 1)]) (rest := []) (C' := 0) (D' := 0) (cn := 7) rfl k0_X7_belief kV_X7_belief kl_L_195 ⟨by decide, by decide⟩ dL_width_4 rfl rfl (Nat.le_of_ble_eq_true rfl) (by decide) (by decide) rfl h (fun r hr => m_X7_belief hl0 ⟨r, hr, hr⟩) (fun x1 τ2 _ h => ?_)
  refine r_aload_n 0 dL_width_7 rfl ?_
  refine r_iload_n 1 dL_width_8 rfl ?_
  refine r_iload_n 2 dL_width_9 rfl ?_
  refine r_iconst (v := 0) dL_width_10 rfl rfl ?_
  refine r_callV (K' := Y_X7_belief) (R' := R_X7_belief) (idx := 195) (n := 3) (b := a0) (as := [(0, a1), (0, a2), (0, 0)]) (rest := [(0, x1)]) (C' := 0) (D' := 0) (cn := 7) rfl k0_X7_belief kV_X7_belief kl_L_195 ⟨by decide, by decide⟩ dL_width_11 rfl rfl (Nat.le_of_ble_eq_true rfl) (by decide) (by decide) rfl h (fun r hr => m_X7_belief hl0 ⟨r, hr, hr⟩) (fun x3 τ4 _ h => ?_)
  refine r_isub dL_width_14 ?_
  exact r_iret rfl dL_width_15 h
theorem m_L_width {g : zF} (hl0 : g.2.2.2.1.stackTraces = false) {Q : zR × zS → Prop} {a0 a1 a2 : Int} {σ : zS} (h : zo (f_L_width a0 a1 a2 σ) Q) : zm g Y_L_width R_L_width [(4, a0), (0, a1), (0, a2)] σ Q := zm_of (by decide) rfl (Nat.le_of_ble_eq_true rfl) (t_L_width hl0 h)


/- L_chooses -/

set_option maxRecDepth 100000 in
set_option maxHeartbeats 4000000 in
theorem t_L_chooses_493 {g : zF} (hl0 : g.2.2.2.1.stackTraces = false) {Q : zR × zS → Prop}   {a0 a1 a2 s0 s1 : Int} {σ : zS} (h : zo (f_L_chooses_493  a0 a1 a2 s0 s1 σ) Q) : zw g Y_L_chooses R_L_chooses 493 [(0, (4, a0)), (1, (0, a1)), (2, (4, a2))] [(0, s1), (0, s0)] σ 0 0 Q := by
  unfold f_L_chooses_493 at h
  refine r_icmp_ne 527 dL_chooses_493 (by decide) h (fun h => ?_) (fun h => ?_)
  · refine r_iconst (v := 0) dL_chooses_527 rfl rfl ?_
    exact r_zretc (by decide) rfl dL_chooses_528 h
  · refine r_aload_n 0 dL_chooses_496 rfl ?_
    refine r_iload_n 1 dL_chooses_497 rfl ?_
    refine r_callV (K' := Y_X7_regret) (R' := R_X7_regret) (idx := 233) (n := 1) (b := a0) (as := [(0, a1)]) (rest := []) (C' := 0) (D' := 0) (cn := 7) rfl k0_X7_regret kV_X7_regret kl_L_233 ⟨by decide, by decide⟩ dL_chooses_498 rfl rfl (Nat.le_of_ble_eq_true rfl) (by decide) (by decide) rfl h (fun r hr => m_X7_regret hl0 ⟨r, hr, hr⟩) (fun x1 τ2 _ h => ?_)
    refine r_aload_n 0 dL_chooses_501 rfl ?_
    refine r_iload_n 1 dL_chooses_502 rfl ?_
    refine r_aload_n 2 dL_chooses_503 rfl ?_
    refine r_iconst (v := 0) dL_chooses_504 rfl rfl ?_
    refine r_iald dL_chooses_505 h (fun x3 h => ?_)
    refine r_iconst (v := 1) dL_chooses_506 rfl rfl ?_
    refine r_callV (K' := Y_X7_belief) (R' := R_X7_belief) (idx := 195) (n := 3) (b := a0) (as := [(0, a1), (0, x3), (0, 1)]) (rest := [(0, x1)]) (C' := 0) (D' := 0) (cn := 7) rfl k0_X7_belief kV_X7_belief kl_L_195 ⟨by decide, by decide⟩ dL_chooses_507 rfl rfl (Nat.le_of_ble_eq_true rfl) (by decide) (by decide) rfl h (fun r hr => m_X7_belief hl0 ⟨r, hr, hr⟩) (fun x4 τ5 _ h => ?_)
    refine r_aload_n 0 dL_chooses_510 rfl ?_
    refine r_iload_n 1 dL_chooses_511 rfl ?_
    refine r_aload_n 2 dL_chooses_512 rfl ?_
    refine r_iconst (v := 1) dL_chooses_513 rfl rfl ?_
    refine r_iald dL_chooses_514 h (fun x6 h => ?_)
    refine r_iconst (v := 0) dL_chooses_515 rfl rfl ?_
    refine r_callV (K' := Y_X7_belief) (R' := R_X7_belief) (idx := 195) (n := 3) (b := a0) (as := [(0, a1), (0, x6), (0, 0)]) (rest := [(0, x4), (0, x1)]) (C' := 0) (D' := 0) (cn := 7) rfl k0_X7_belief kV_X7_belief kl_L_195 ⟨by decide, by decide⟩ dL_chooses_516 rfl rfl (Nat.le_of_ble_eq_true rfl) (by decide) (by decide) rfl h (fun r hr => m_X7_belief hl0 ⟨r, hr, hr⟩) (fun x7 τ8 _ h => ?_)
    refine r_isub dL_chooses_519 ?_
    refine r_icmp_ne 527 dL_chooses_520 (by decide) h (fun h => ?_) (fun h => ?_)
    · refine r_iconst (v := 0) dL_chooses_527 rfl rfl ?_
      exact r_zretc (by decide) rfl dL_chooses_528 h
    · refine r_iconst (v := 1) dL_chooses_523 rfl rfl ?_
      refine r_goto 528 dL_chooses_524 (by decide) ?_
      exact r_zretc (by decide) rfl dL_chooses_528 h

set_option maxRecDepth 100000 in
set_option maxHeartbeats 4000000 in
theorem t_L_chooses_467 {g : zF} (hl0 : g.2.2.2.1.stackTraces = false) {Q : zR × zS → Prop}   {a0 a1 a2 a4 a5 : Int} {σ : zS} (h : zo (f_L_chooses_467  a0 a1 a2 a4 a5 σ) Q) : zw g Y_L_chooses R_L_chooses 467 [(0, (4, a0)), (1, (0, a1)), (2, (4, a2)), (4, (0, a4)), (5, (0, a5))] [] σ 0 0 Q := by
  unfold f_L_chooses_467 at h
  refine r_aload_n 0 dL_chooses_467 rfl ?_
  refine r_iload_n 1 dL_chooses_468 rfl ?_
  refine r_callV (K' := Y_X7_rivals) (R' := R_X7_rivals) (idx := 227) (n := 1) (b := a0) (as := [(0, a1)]) (rest := []) (C' := 0) (D' := 0) (cn := 7) rfl k0_X7_rivals kV_X7_rivals kl_L_227 ⟨by decide, by decide⟩ dL_chooses_469 rfl rfl (Nat.le_of_ble_eq_true rfl) (by decide) (by decide) rfl h (fun r hr => m_X7_rivals hl0 ⟨r, hr, hr⟩) (fun x1 τ2 _ h => ?_)
  refine r_iload 3 dL_chooses_472 rfl ?_
  refine r_icmp_ne 527 dL_chooses_474 (by decide) h (fun h => ?_) (fun h => ?_)
  · refine r_iconst (v := 0) dL_chooses_527 rfl rfl ?_
    exact r_zretc (by decide) rfl dL_chooses_528 h
  · refine r_aload_n 0 dL_chooses_477 rfl ?_
    refine r_iload_n 1 dL_chooses_478 rfl ?_
    refine r_callV (K' := Y_X7_nextProbe) (R' := R_X7_nextProbe) (idx := 230) (n := 1) (b := a0) (as := [(0, a1)]) (rest := []) (C' := 0) (D' := 0) (cn := 7) rfl k0_X7_nextProbe kV_X7_nextProbe kl_L_230 ⟨by decide, by decide⟩ dL_chooses_479 rfl rfl (Nat.le_of_ble_eq_true rfl) (by decide) (by decide) rfl h (fun r hr => m_X7_nextProbe hl0 ⟨r, hr, hr⟩) (fun x3 τ4 _ h => ?_)
    refine r_iload 3 dL_chooses_482 rfl ?_
    refine r_if_ne 491 dL_chooses_484 (by decide) h (fun h => ?_) (fun h => ?_)
    · refine r_iload 4 dL_chooses_491 rfl ?_
      refine r_weak (L' := [(0, (4, a0)), (1, (0, a1)), (2, (4, a2))]) [0, 1, 2] rfl ?_
      refine r_room (C' := 0) (D' := 0) (by omega) (by omega) ?_
      exact t_L_chooses_493 hl0    h
    · refine r_iconst (v := (-1)) dL_chooses_487 rfl rfl ?_
      refine r_goto 493 dL_chooses_488 (by decide) ?_
      refine r_weak (L' := [(0, (4, a0)), (1, (0, a1)), (2, (4, a2))]) [0, 1, 2] rfl ?_
      refine r_room (C' := 0) (D' := 0) (by omega) (by omega) ?_
      exact t_L_chooses_493 hl0    h

set_option maxRecDepth 100000 in
set_option maxHeartbeats 4000000 in
theorem t_L_chooses_461 {g : zF} (hl0 : g.2.2.2.1.stackTraces = false) {Q : zR × zS → Prop} (r408 : Int → Int → Int → Int → Int → Int → zS → zFn) (hr408 : ∀ b0 b1 b2 b4 b5 b6 τ, zo (r408 b0 b1 b2 b4 b5 b6 τ) Q → zw g Y_L_chooses R_L_chooses 408 [(0, (4, b0)), (1, (0, b1)), (2, (4, b2)), (4, (0, b4)), (5, (0, b5)), (6, (0, b6))] [] τ 0 0 Q) {a0 a1 a2 a4 a5 a6 : Int} {σ : zS} (h : zo (f_L_chooses_461 r408 a0 a1 a2 a4 a5 a6 σ) Q) : zw g Y_L_chooses R_L_chooses 461 [(0, (4, a0)), (1, (0, a1)), (2, (4, a2)), (4, (0, a4)), (5, (0, a5)), (6, (0, a6))] [] σ 0 0 Q := by
  unfold f_L_chooses_461 at h
  refine r_iinc (L' := [(6, (0, (w32 (a6 + 1)))), (0, (4, a0)), (1, (0, a1)), (2, (4, a2)), (4, (0, a4)), (5, (0, a5))]) 5 dL_chooses_461 rfl (by decide) rfl ?_
  refine r_goto 408 dL_chooses_464 (by decide) ?_
  refine r_weak (L' := [(0, (4, a0)), (1, (0, a1)), (2, (4, a2)), (4, (0, a4)), (5, (0, a5)), (6, (0, (w32 (a6 + 1))))]) [1, 2, 3, 4, 5, 0] rfl ?_
  refine r_room (C' := 0) (D' := 0) (by omega) (by omega) ?_
  exact hr408 _ _ _ _ _ _ _ h

set_option maxRecDepth 100000 in
set_option maxHeartbeats 4000000 in
theorem t_L_chooses_457 {g : zF} (hl0 : g.2.2.2.1.stackTraces = false) {Q : zR × zS → Prop} (r408 : Int → Int → Int → Int → Int → Int → zS → zFn) (hr408 : ∀ b0 b1 b2 b4 b5 b6 τ, zo (r408 b0 b1 b2 b4 b5 b6 τ) Q → zw g Y_L_chooses R_L_chooses 408 [(0, (4, b0)), (1, (0, b1)), (2, (4, b2)), (4, (0, b4)), (5, (0, b5)), (6, (0, b6))] [] τ 0 0 Q) {a0 a1 a2 a4 a6 : Int} {σ : zS} (h : zo (f_L_chooses_457 r408 a0 a1 a2 a4 a6 σ) Q) : zw g Y_L_chooses R_L_chooses 457 [(0, (4, a0)), (1, (0, a1)), (2, (4, a2)), (4, (0, a4)), (6, (0, a6))] [] σ 0 0 Q := by
  unfold f_L_chooses_457 at h
  refine r_iload 4 dL_chooses_457 rfl ?_
  refine r_istore (L' := [(5, (0, a6)), (0, (4, a0)), (1, (0, a1)), (2, (4, a2)), (4, (0, a4)), (6, (0, a6))]) dL_chooses_459 (by decide) rfl ?_
  refine r_weak (L' := [(0, (4, a0)), (1, (0, a1)), (2, (4, a2)), (4, (0, a4)), (5, (0, a6)), (6, (0, a6))]) [1, 2, 3, 4, 0, 5] rfl ?_
  refine r_room (C' := 0) (D' := 0) (by omega) (by omega) ?_
  exact t_L_chooses_461 hl0  r408 hr408 h

set_option maxRecDepth 100000 in
set_option maxHeartbeats 4000000 in
theorem t_L_chooses_408 {g : zF} (hl0 : g.2.2.2.1.stackTraces = false) {Q : zR × zS → Prop}   : ∀ (n : Nat) (a0 a1 a2 a4 a5 a6 : Int) (σ : zS), zo (f_L_chooses_408  n a0 a1 a2 a4 a5 a6 σ) Q → zw g Y_L_chooses R_L_chooses 408 [(0, (4, a0)), (1, (0, a1)), (2, (4, a2)), (4, (0, a4)), (5, (0, a5)), (6, (0, a6))] [] σ 0 0 Q := by
  intro n
  induction n with
  | zero => intro a0 a1 a2 a4 a5 a6 σ h; obtain ⟨r, h, -⟩ := h; cases h
  | succ n ih =>
    intro a0 a1 a2 a4 a5 a6 σ h
    unfold f_L_chooses_408 at h
    refine r_iload 5 dL_chooses_408 rfl ?_
    refine r_aload_n 0 dL_chooses_410 rfl ?_
    refine r_iconst (v := 1) dL_chooses_411 rfl rfl ?_
    refine r_callV (K' := Y_X7_property) (R' := R_X7_property) (idx := 104) (n := 1) (b := a0) (as := [(0, 1)]) (rest := [(0, a6)]) (C' := 0) (D' := 0) (cn := 7) rfl k0_X7_property kV_X7_property kl_L_104 ⟨by decide, by decide⟩ dL_chooses_412 rfl rfl (Nat.le_of_ble_eq_true rfl) (by decide) (by decide) rfl h (fun r hr => m_X7_property hl0 ⟨r, hr, hr⟩) (fun x1 τ2 _ h => ?_)
    refine r_icmp_ge 467 dL_chooses_415 (by decide) h (fun h => ?_) (fun h => ?_)
    · refine r_weak (L' := [(0, (4, a0)), (1, (0, a1)), (2, (4, a2)), (4, (0, a4)), (5, (0, a5))]) [0, 1, 2, 3, 4] rfl ?_
      refine r_room (C' := 0) (D' := 0) (by omega) (by omega) ?_
      exact t_L_chooses_467 hl0    h
    · refine r_iload 3 dL_chooses_418 rfl ?_
      refine r_iconst (v := 1) dL_chooses_420 rfl rfl ?_
      refine r_aload_n 2 dL_chooses_421 rfl ?_
      refine r_iconst (v := 0) dL_chooses_422 rfl rfl ?_
      refine r_iald dL_chooses_423 h (fun x3 h => ?_)
      refine r_ishl dL_chooses_424 ?_
      refine r_ior dL_chooses_425 ?_
      refine r_iload 5 dL_chooses_426 rfl ?_
      refine r_ishr dL_chooses_428 ?_
      refine r_iconst (v := 1) dL_chooses_429 rfl rfl ?_
      refine r_iand dL_chooses_430 ?_
      refine r_iconst (v := 1) dL_chooses_431 rfl rfl ?_
      refine r_icmp_ne 461 dL_chooses_432 (by decide) h (fun h => ?_) (fun h => ?_)
      · refine r_room (C' := 0) (D' := 0) (by omega) (by omega) ?_
        exact t_L_chooses_461 hl0  (f_L_chooses_408  n) (fun b0 b1 b2 b4 b5 b6 τ h => ih b0 b1 b2 b4 b5 b6 τ h) h
      · refine r_iload 4 dL_chooses_435 rfl ?_
        refine r_if_lt 457 dL_chooses_437 (by decide) h (fun h => ?_) (fun h => ?_)
        · refine r_weak (L' := [(0, (4, a0)), (1, (0, a1)), (2, (4, a2)), (4, (0, a4)), (6, (0, a6))]) [0, 1, 2, 3, 5] rfl ?_
          refine r_room (C' := 0) (D' := 0) (by omega) (by omega) ?_
          exact t_L_chooses_457 hl0  (f_L_chooses_408  n) (fun b0 b1 b2 b4 b5 b6 τ h => ih b0 b1 b2 b4 b5 b6 τ h) h
        · refine r_aload_n 0 dL_chooses_440 rfl ?_
          refine r_iload_n 1 dL_chooses_441 rfl ?_
          refine r_iload 5 dL_chooses_442 rfl ?_
          refine r_callS (K' := Y_L_width) (R' := R_L_width) (idx := 236) (n := 3) (as := [(4, a0), (0, a1), (0, a6)]) (rest := []) (C' := 0) (D' := 0) rfl k0_L_width wd_1289 kl_L_236 ⟨by decide, by decide⟩ dL_chooses_444 rfl rfl (Nat.le_of_ble_eq_true rfl) (by decide) (by decide) h (fun r hr => m_L_width hl0 ⟨r, hr, hr⟩) (fun x4 τ5 _ h => ?_)
          refine r_aload_n 0 dL_chooses_447 rfl ?_
          refine r_iload_n 1 dL_chooses_448 rfl ?_
          refine r_iload 4 dL_chooses_449 rfl ?_
          refine r_callS (K' := Y_L_width) (R' := R_L_width) (idx := 236) (n := 3) (as := [(4, a0), (0, a1), (0, a5)]) (rest := [(0, x4)]) (C' := 0) (D' := 0) rfl k0_L_width wd_1289 kl_L_236 ⟨by decide, by decide⟩ dL_chooses_451 rfl rfl (Nat.le_of_ble_eq_true rfl) (by decide) (by decide) h (fun r hr => m_L_width hl0 ⟨r, hr, hr⟩) (fun x6 τ7 _ h => ?_)
          refine r_icmp_le 461 dL_chooses_454 (by decide) h (fun h => ?_) (fun h => ?_)
          · refine r_room (C' := 0) (D' := 0) (by omega) (by omega) ?_
            exact t_L_chooses_461 hl0  (f_L_chooses_408  n) (fun b0 b1 b2 b4 b5 b6 τ h => ih b0 b1 b2 b4 b5 b6 τ h) h
          · refine r_weak (L' := [(0, (4, a0)), (1, (0, a1)), (2, (4, a2)), (4, (0, a4)), (6, (0, a6))]) [0, 1, 2, 3, 5] rfl ?_
            refine r_room (C' := 0) (D' := 0) (by omega) (by omega) ?_
            exact t_L_chooses_457 hl0  (f_L_chooses_408  n) (fun b0 b1 b2 b4 b5 b6 τ h => ih b0 b1 b2 b4 b5 b6 τ h) h

set_option maxRecDepth 100000 in
set_option maxHeartbeats 4000000 in
theorem t_L_chooses_402 {g : zF} (hl0 : g.2.2.2.1.stackTraces = false) {Q : zR × zS → Prop}   {a0 a1 a2 a4 : Int} {σ : zS} (h : zo (f_L_chooses_402  a0 a1 a2 a4 σ) Q) : zw g Y_L_chooses R_L_chooses 402 [(0, (4, a0)), (1, (0, a1)), (2, (4, a2)), (4, (0, a4))] [] σ 0 0 Q := by
  unfold f_L_chooses_402 at h
  refine r_iconst (v := (-1)) dL_chooses_402 rfl rfl ?_
  refine r_istore (L' := [(5, (0, (-1))), (0, (4, a0)), (1, (0, a1)), (2, (4, a2)), (4, (0, a4))]) dL_chooses_403 (by decide) rfl ?_
  refine r_iconst (v := 0) dL_chooses_405 rfl rfl ?_
  refine r_istore (L' := [(6, (0, 0)), (5, (0, (-1))), (0, (4, a0)), (1, (0, a1)), (2, (4, a2)), (4, (0, a4))]) dL_chooses_406 (by decide) rfl ?_
  refine r_weak (L' := [(0, (4, a0)), (1, (0, a1)), (2, (4, a2)), (4, (0, a4)), (5, (0, (-1))), (6, (0, 0))]) [2, 3, 4, 5, 1, 0] rfl ?_
  refine r_room (C' := 0) (D' := 0) (by omega) (by omega) ?_
  exact t_L_chooses_408 hl0    zFU _ _ _ _ _ _ _ h

set_option maxRecDepth 100000 in
set_option maxHeartbeats 4000000 in
theorem t_L_chooses_393 {g : zF} (hl0 : g.2.2.2.1.stackTraces = false) {Q : zR × zS → Prop} (r345 : Int → Int → Int → Int → Int → zS → zFn) (hr345 : ∀ b0 b1 b2 b4 b5 τ, zo (r345 b0 b1 b2 b4 b5 τ) Q → zw g Y_L_chooses R_L_chooses 345 [(0, (4, b0)), (1, (0, b1)), (2, (4, b2)), (4, (0, b4)), (5, (0, b5))] [] τ 0 0 Q) {a0 a1 a2 a5 s0 s1 : Int} {σ : zS} (h : zo (f_L_chooses_393 r345 a0 a1 a2 a5 s0 s1 σ) Q) : zw g Y_L_chooses R_L_chooses 393 [(0, (4, a0)), (1, (0, a1)), (2, (4, a2)), (5, (0, a5))] [(0, s1), (0, s0)] σ 0 0 Q := by
  unfold f_L_chooses_393 at h
  refine r_ior dL_chooses_393 ?_
  refine r_istore (L' := [(4, (0, (zor s0 s1))), (0, (4, a0)), (1, (0, a1)), (2, (4, a2)), (5, (0, a5))]) dL_chooses_394 (by decide) rfl ?_
  refine r_iinc (L' := [(5, (0, (w32 (a5 + 1)))), (4, (0, (zor s0 s1))), (0, (4, a0)), (1, (0, a1)), (2, (4, a2))]) 4 dL_chooses_396 rfl (by decide) rfl ?_
  refine r_goto 345 dL_chooses_399 (by decide) ?_
  refine r_weak (L' := [(0, (4, a0)), (1, (0, a1)), (2, (4, a2)), (4, (0, (zor s0 s1))), (5, (0, (w32 (a5 + 1))))]) [2, 3, 4, 1, 0] rfl ?_
  refine r_room (C' := 0) (D' := 0) (by omega) (by omega) ?_
  exact hr345 _ _ _ _ _ _ h

set_option maxRecDepth 100000 in
set_option maxHeartbeats 4000000 in
theorem t_L_chooses_392 {g : zF} (hl0 : g.2.2.2.1.stackTraces = false) {Q : zR × zS → Prop} (r345 : Int → Int → Int → Int → Int → zS → zFn) (hr345 : ∀ b0 b1 b2 b4 b5 τ, zo (r345 b0 b1 b2 b4 b5 τ) Q → zw g Y_L_chooses R_L_chooses 345 [(0, (4, b0)), (1, (0, b1)), (2, (4, b2)), (4, (0, b4)), (5, (0, b5))] [] τ 0 0 Q) {a0 a1 a2 a5 s0 : Int} {σ : zS} (h : zo (f_L_chooses_392 r345 a0 a1 a2 a5 s0 σ) Q) : zw g Y_L_chooses R_L_chooses 392 [(0, (4, a0)), (1, (0, a1)), (2, (4, a2)), (5, (0, a5))] [(0, s0)] σ 0 0 Q := by
  unfold f_L_chooses_392 at h
  refine r_iconst (v := 0) dL_chooses_392 rfl rfl ?_
  refine r_room (C' := 0) (D' := 0) (by omega) (by omega) ?_
  exact t_L_chooses_393 hl0  r345 hr345 h

set_option maxRecDepth 100000 in
set_option maxHeartbeats 4000000 in
theorem t_L_chooses_345 {g : zF} (hl0 : g.2.2.2.1.stackTraces = false) {Q : zR × zS → Prop}   : ∀ (n : Nat) (a0 a1 a2 a4 a5 : Int) (σ : zS), zo (f_L_chooses_345  n a0 a1 a2 a4 a5 σ) Q → zw g Y_L_chooses R_L_chooses 345 [(0, (4, a0)), (1, (0, a1)), (2, (4, a2)), (4, (0, a4)), (5, (0, a5))] [] σ 0 0 Q := by
  intro n
  induction n with
  | zero => intro a0 a1 a2 a4 a5 σ h; obtain ⟨r, h, -⟩ := h; cases h
  | succ n ih =>
    intro a0 a1 a2 a4 a5 σ h
    unfold f_L_chooses_345 at h
    refine r_iload 4 dL_chooses_345 rfl ?_
    refine r_aload_n 0 dL_chooses_347 rfl ?_
    refine r_iconst (v := 1) dL_chooses_348 rfl rfl ?_
    refine r_callV (K' := Y_X7_property) (R' := R_X7_property) (idx := 104) (n := 1) (b := a0) (as := [(0, 1)]) (rest := [(0, a5)]) (C' := 0) (D' := 0) (cn := 7) rfl k0_X7_property kV_X7_property kl_L_104 ⟨by decide, by decide⟩ dL_chooses_349 rfl rfl (Nat.le_of_ble_eq_true rfl) (by decide) (by decide) rfl h (fun r hr => m_X7_property hl0 ⟨r, hr, hr⟩) (fun x1 τ2 _ h => ?_)
    refine r_icmp_ge 402 dL_chooses_352 (by decide) h (fun h => ?_) (fun h => ?_)
    · refine r_weak (L' := [(0, (4, a0)), (1, (0, a1)), (2, (4, a2)), (4, (0, a4))]) [0, 1, 2, 3] rfl ?_
      refine r_room (C' := 0) (D' := 0) (by omega) (by omega) ?_
      exact t_L_chooses_402 hl0    h
    · refine r_iload 3 dL_chooses_355 rfl ?_
      refine r_iload 4 dL_chooses_357 rfl ?_
      refine r_aload_n 2 dL_chooses_359 rfl ?_
      refine r_iconst (v := 0) dL_chooses_360 rfl rfl ?_
      refine r_iald dL_chooses_361 h (fun x3 h => ?_)
      refine r_icmp_eq 392 dL_chooses_362 (by decide) h (fun h => ?_) (fun h => ?_)
      · refine r_weak (L' := [(0, (4, a0)), (1, (0, a1)), (2, (4, a2)), (5, (0, a5))]) [0, 1, 2, 4] rfl ?_
        refine r_room (C' := 0) (D' := 0) (by omega) (by omega) ?_
        exact t_L_chooses_392 hl0  (f_L_chooses_345  n) (fun b0 b1 b2 b4 b5 τ h => ih b0 b1 b2 b4 b5 τ h) h
      · refine r_aload_n 0 dL_chooses_365 rfl ?_
        refine r_iload_n 1 dL_chooses_366 rfl ?_
        refine r_iload 4 dL_chooses_367 rfl ?_
        refine r_iconst (v := 0) dL_chooses_369 rfl rfl ?_
        refine r_callV (K' := Y_X7_belief) (R' := R_X7_belief) (idx := 195) (n := 3) (b := a0) (as := [(0, a1), (0, a5), (0, 0)]) (rest := [(0, a4)]) (C' := 0) (D' := 0) (cn := 7) rfl k0_X7_belief kV_X7_belief kl_L_195 ⟨by decide, by decide⟩ dL_chooses_370 rfl rfl (Nat.le_of_ble_eq_true rfl) (by decide) (by decide) rfl h (fun r hr => m_X7_belief hl0 ⟨r, hr, hr⟩) (fun x4 τ5 _ h => ?_)
        refine r_aload_n 0 dL_chooses_373 rfl ?_
        refine r_iload_n 1 dL_chooses_374 rfl ?_
        refine r_aload_n 2 dL_chooses_375 rfl ?_
        refine r_iconst (v := 0) dL_chooses_376 rfl rfl ?_
        refine r_iald dL_chooses_377 h (fun x6 h => ?_)
        refine r_iconst (v := 1) dL_chooses_378 rfl rfl ?_
        refine r_callV (K' := Y_X7_belief) (R' := R_X7_belief) (idx := 195) (n := 3) (b := a0) (as := [(0, a1), (0, x6), (0, 1)]) (rest := [(0, x4), (0, a4)]) (C' := 0) (D' := 0) (cn := 7) rfl k0_X7_belief kV_X7_belief kl_L_195 ⟨by decide, by decide⟩ dL_chooses_379 rfl rfl (Nat.le_of_ble_eq_true rfl) (by decide) (by decide) rfl h (fun r hr => m_X7_belief hl0 ⟨r, hr, hr⟩) (fun x7 τ8 _ h => ?_)
        refine r_icmp_ge 392 dL_chooses_382 (by decide) h (fun h => ?_) (fun h => ?_)
        · refine r_weak (L' := [(0, (4, a0)), (1, (0, a1)), (2, (4, a2)), (5, (0, a5))]) [0, 1, 2, 4] rfl ?_
          refine r_room (C' := 0) (D' := 0) (by omega) (by omega) ?_
          exact t_L_chooses_392 hl0  (f_L_chooses_345  n) (fun b0 b1 b2 b4 b5 τ h => ih b0 b1 b2 b4 b5 τ h) h
        · refine r_iconst (v := 1) dL_chooses_385 rfl rfl ?_
          refine r_iload 4 dL_chooses_386 rfl ?_
          refine r_ishl dL_chooses_388 ?_
          refine r_goto 393 dL_chooses_389 (by decide) ?_
          refine r_weak (L' := [(0, (4, a0)), (1, (0, a1)), (2, (4, a2)), (5, (0, a5))]) [0, 1, 2, 4] rfl ?_
          refine r_room (C' := 0) (D' := 0) (by omega) (by omega) ?_
          exact t_L_chooses_393 hl0  (f_L_chooses_345  n) (fun b0 b1 b2 b4 b5 τ h => ih b0 b1 b2 b4 b5 τ h) h

set_option maxRecDepth 100000 in
set_option maxHeartbeats 4000000 in
theorem t_L_chooses_290 {g : zF} (hl0 : g.2.2.2.1.stackTraces = false) {Q : zR × zS → Prop}   {a0 a1 a2 a3 : Int} {σ : zS} (h : zo (f_L_chooses_290  a0 a1 a2 a3 σ) Q) : zw g Y_L_chooses R_L_chooses 290 [(0, (4, a0)), (1, (0, a1)), (2, (4, a2)), (3, (0, a3))] [] σ 0 0 Q := by
  unfold f_L_chooses_290 at h
  refine r_aload_n 0 dL_chooses_290 rfl ?_
  refine r_iload_n 1 dL_chooses_291 rfl ?_
  refine r_callV (K' := Y_X7_saved) (R' := R_X7_saved) (idx := 224) (n := 1) (b := a0) (as := [(0, a1)]) (rest := []) (C' := 0) (D' := 0) (cn := 7) rfl k0_X7_saved kV_X7_saved kl_L_224 ⟨by decide, by decide⟩ dL_chooses_292 rfl rfl (Nat.le_of_ble_eq_true rfl) (by decide) (by decide) rfl h (fun r hr => m_X7_saved hl0 ⟨r, hr, hr⟩) (fun x1 τ2 _ h => ?_)
  refine r_iload_n 3 dL_chooses_295 rfl ?_
  refine r_icmp_eq 301 dL_chooses_296 (by decide) h (fun h => ?_) (fun h => ?_)
  · refine r_aload_n 2 dL_chooses_301 rfl ?_
    refine r_iconst (v := 0) dL_chooses_302 rfl rfl ?_
    refine r_iald dL_chooses_303 h (fun x3 h => ?_)
    refine r_if_ge 339 dL_chooses_304 (by decide) h (fun h => ?_) (fun h => ?_)
    · refine r_iconst (v := 0) dL_chooses_339 rfl rfl ?_
      refine r_istore (L' := [(4, (0, 0)), (0, (4, a0)), (1, (0, a1)), (2, (4, a2)), (3, (0, a3))]) dL_chooses_340 (by decide) rfl ?_
      refine r_iconst (v := 0) dL_chooses_342 rfl rfl ?_
      refine r_istore (L' := [(5, (0, 0)), (4, (0, 0)), (0, (4, a0)), (1, (0, a1)), (2, (4, a2)), (3, (0, a3))]) dL_chooses_343 (by decide) rfl ?_
      refine r_weak (L' := [(0, (4, a0)), (1, (0, a1)), (2, (4, a2)), (4, (0, 0)), (5, (0, 0))]) [2, 3, 4, 1, 0] rfl ?_
      refine r_room (C' := 0) (D' := 0) (by omega) (by omega) ?_
      exact t_L_chooses_345 hl0    zFU _ _ _ _ _ _ h
    · refine r_aload_n 0 dL_chooses_307 rfl ?_
      refine r_iload_n 1 dL_chooses_308 rfl ?_
      refine r_callV (K' := Y_X7_rivals) (R' := R_X7_rivals) (idx := 227) (n := 1) (b := a0) (as := [(0, a1)]) (rest := []) (C' := 0) (D' := 0) (cn := 7) rfl k0_X7_rivals kV_X7_rivals kl_L_227 ⟨by decide, by decide⟩ dL_chooses_309 rfl rfl (Nat.le_of_ble_eq_true rfl) (by decide) (by decide) rfl h (fun r hr => m_X7_rivals hl0 ⟨r, hr, hr⟩) (fun x4 τ5 _ h => ?_)
      refine r_if_ne 337 dL_chooses_312 (by decide) h (fun h => ?_) (fun h => ?_)
      · refine r_iconst (v := 0) dL_chooses_337 rfl rfl ?_
        exact r_zretc (by decide) rfl dL_chooses_338 h
      · refine r_aload_n 0 dL_chooses_315 rfl ?_
        refine r_iload_n 1 dL_chooses_316 rfl ?_
        refine r_callV (K' := Y_X7_nextProbe) (R' := R_X7_nextProbe) (idx := 230) (n := 1) (b := a0) (as := [(0, a1)]) (rest := []) (C' := 0) (D' := 0) (cn := 7) rfl k0_X7_nextProbe kV_X7_nextProbe kl_L_230 ⟨by decide, by decide⟩ dL_chooses_317 rfl rfl (Nat.le_of_ble_eq_true rfl) (by decide) (by decide) rfl h (fun r hr => m_X7_nextProbe hl0 ⟨r, hr, hr⟩) (fun x6 τ7 _ h => ?_)
        refine r_iconst (v := (-1)) dL_chooses_320 rfl rfl ?_
        refine r_icmp_ne 337 dL_chooses_321 (by decide) h (fun h => ?_) (fun h => ?_)
        · refine r_iconst (v := 0) dL_chooses_337 rfl rfl ?_
          exact r_zretc (by decide) rfl dL_chooses_338 h
        · refine r_aload_n 0 dL_chooses_324 rfl ?_
          refine r_iload_n 1 dL_chooses_325 rfl ?_
          refine r_callV (K' := Y_X7_regret) (R' := R_X7_regret) (idx := 233) (n := 1) (b := a0) (as := [(0, a1)]) (rest := []) (C' := 0) (D' := 0) (cn := 7) rfl k0_X7_regret kV_X7_regret kl_L_233 ⟨by decide, by decide⟩ dL_chooses_326 rfl rfl (Nat.le_of_ble_eq_true rfl) (by decide) (by decide) rfl h (fun r hr => m_X7_regret hl0 ⟨r, hr, hr⟩) (fun x8 τ9 _ h => ?_)
          refine r_iconst (v := (-1)) dL_chooses_329 rfl rfl ?_
          refine r_icmp_ne 337 dL_chooses_330 (by decide) h (fun h => ?_) (fun h => ?_)
          · refine r_iconst (v := 0) dL_chooses_337 rfl rfl ?_
            exact r_zretc (by decide) rfl dL_chooses_338 h
          · refine r_iconst (v := 1) dL_chooses_333 rfl rfl ?_
            refine r_goto 338 dL_chooses_334 (by decide) ?_
            exact r_zretc (by decide) rfl dL_chooses_338 h
  · refine r_iconst (v := 0) dL_chooses_299 rfl rfl ?_
    exact r_zretc (by decide) rfl dL_chooses_300 h

set_option maxRecDepth 100000 in
set_option maxHeartbeats 4000000 in
theorem t_L_chooses_262 {g : zF} (hl0 : g.2.2.2.1.stackTraces = false) {Q : zR × zS → Prop}   : ∀ (n : Nat) (a0 a1 a2 a3 a4 : Int) (σ : zS), zo (f_L_chooses_262  n a0 a1 a2 a3 a4 σ) Q → zw g Y_L_chooses R_L_chooses 262 [(0, (4, a0)), (1, (0, a1)), (2, (4, a2)), (3, (0, a3)), (4, (0, a4))] [] σ 0 0 Q := by
  intro n
  induction n with
  | zero => intro a0 a1 a2 a3 a4 σ h; obtain ⟨r, h, -⟩ := h; cases h
  | succ n ih =>
    intro a0 a1 a2 a3 a4 σ h
    unfold f_L_chooses_262 at h
    refine r_iload 4 dL_chooses_262 rfl ?_
    refine r_iconst (v := 3) dL_chooses_264 rfl rfl ?_
    refine r_icmp_ge 290 dL_chooses_265 (by decide) h (fun h => ?_) (fun h => ?_)
    · refine r_weak (L' := [(0, (4, a0)), (1, (0, a1)), (2, (4, a2)), (3, (0, a3))]) [0, 1, 2, 3] rfl ?_
      refine r_room (C' := 0) (D' := 0) (by omega) (by omega) ?_
      exact t_L_chooses_290 hl0    h
    · refine r_aload_n 0 dL_chooses_268 rfl ?_
      refine r_iload_n 1 dL_chooses_269 rfl ?_
      refine r_iload 4 dL_chooses_270 rfl ?_
      refine r_callV (K' := Y_X7_best) (R' := R_X7_best) (idx := 221) (n := 2) (b := a0) (as := [(0, a1), (0, a4)]) (rest := []) (C' := 0) (D' := 0) (cn := 7) rfl k0_X7_best kV_X7_best kl_L_221 ⟨by decide, by decide⟩ dL_chooses_272 rfl rfl (Nat.le_of_ble_eq_true rfl) (by decide) (by decide) rfl h (fun r hr => m_X7_best hl0 ⟨r, hr, hr⟩) (fun x1 τ2 _ h => ?_)
      refine r_aload_n 2 dL_chooses_275 rfl ?_
      refine r_iload 4 dL_chooses_276 rfl ?_
      refine r_iald dL_chooses_278 h (fun x3 h => ?_)
      refine r_icmp_eq 284 dL_chooses_279 (by decide) h (fun h => ?_) (fun h => ?_)
      · refine r_iinc (L' := [(4, (0, (w32 (a4 + 1)))), (0, (4, a0)), (1, (0, a1)), (2, (4, a2)), (3, (0, a3))]) 4 dL_chooses_284 rfl (by decide) rfl ?_
        refine r_goto 262 dL_chooses_287 (by decide) ?_
        refine r_weak (L' := [(0, (4, a0)), (1, (0, a1)), (2, (4, a2)), (3, (0, a3)), (4, (0, (w32 (a4 + 1))))]) [1, 2, 3, 4, 0] rfl ?_
        refine r_room (C' := 0) (D' := 0) (by omega) (by omega) ?_
        exact ih _ _ _ _ _ _ h
      · refine r_iconst (v := 0) dL_chooses_282 rfl rfl ?_
        exact r_zretc (by decide) rfl dL_chooses_283 h

set_option maxRecDepth 100000 in
set_option maxHeartbeats 4000000 in
theorem t_L_chooses_259 {g : zF} (hl0 : g.2.2.2.1.stackTraces = false) {Q : zR × zS → Prop}   {a0 a1 a2 a3 : Int} {σ : zS} (h : zo (f_L_chooses_259  a0 a1 a2 a3 σ) Q) : zw g Y_L_chooses R_L_chooses 259 [(0, (4, a0)), (1, (0, a1)), (2, (4, a2)), (3, (0, a3))] [] σ 0 0 Q := by
  unfold f_L_chooses_259 at h
  refine r_iconst (v := 0) dL_chooses_259 rfl rfl ?_
  refine r_istore (L' := [(4, (0, 0)), (0, (4, a0)), (1, (0, a1)), (2, (4, a2)), (3, (0, a3))]) dL_chooses_260 (by decide) rfl ?_
  refine r_weak (L' := [(0, (4, a0)), (1, (0, a1)), (2, (4, a2)), (3, (0, a3)), (4, (0, 0))]) [1, 2, 3, 4, 0] rfl ?_
  refine r_room (C' := 0) (D' := 0) (by omega) (by omega) ?_
  exact t_L_chooses_262 hl0    zFU _ _ _ _ _ _ h

set_option maxRecDepth 100000 in
set_option maxHeartbeats 4000000 in
theorem t_L_chooses_251 {g : zF} (hl0 : g.2.2.2.1.stackTraces = false) {Q : zR × zS → Prop} (r21 : Int → Int → Int → Int → Int → zS → zFn) (hr21 : ∀ b0 b1 b2 b3 b4 τ, zo (r21 b0 b1 b2 b3 b4 τ) Q → zw g Y_L_chooses R_L_chooses 21 [(0, (4, b0)), (1, (0, b1)), (2, (4, b2)), (3, (0, b3)), (4, (0, b4))] [] τ 0 0 Q) {a0 a1 a2 a4 s0 s1 : Int} {σ : zS} (h : zo (f_L_chooses_251 r21 a0 a1 a2 a4 s0 s1 σ) Q) : zw g Y_L_chooses R_L_chooses 251 [(0, (4, a0)), (1, (0, a1)), (2, (4, a2)), (4, (0, a4))] [(0, s1), (0, s0)] σ 0 0 Q := by
  unfold f_L_chooses_251 at h
  refine r_iadd dL_chooses_251 ?_
  refine r_istore_n (L' := [(3, (0, (w32 (s0 + s1)))), (0, (4, a0)), (1, (0, a1)), (2, (4, a2)), (4, (0, a4))]) dL_chooses_252 (by decide) rfl ?_
  refine r_iinc (L' := [(4, (0, (w32 (a4 + 1)))), (3, (0, (w32 (s0 + s1)))), (0, (4, a0)), (1, (0, a1)), (2, (4, a2))]) 4 dL_chooses_253 rfl (by decide) rfl ?_
  refine r_goto 21 dL_chooses_256 (by decide) ?_
  refine r_weak (L' := [(0, (4, a0)), (1, (0, a1)), (2, (4, a2)), (3, (0, (w32 (s0 + s1)))), (4, (0, (w32 (a4 + 1))))]) [2, 3, 4, 1, 0] rfl ?_
  refine r_room (C' := 0) (D' := 0) (by omega) (by omega) ?_
  exact hr21 _ _ _ _ _ _ h

set_option maxRecDepth 100000 in
set_option maxHeartbeats 4000000 in
theorem t_L_chooses_250 {g : zF} (hl0 : g.2.2.2.1.stackTraces = false) {Q : zR × zS → Prop} (r21 : Int → Int → Int → Int → Int → zS → zFn) (hr21 : ∀ b0 b1 b2 b3 b4 τ, zo (r21 b0 b1 b2 b3 b4 τ) Q → zw g Y_L_chooses R_L_chooses 21 [(0, (4, b0)), (1, (0, b1)), (2, (4, b2)), (3, (0, b3)), (4, (0, b4))] [] τ 0 0 Q) {a0 a1 a2 a4 s0 : Int} {σ : zS} (h : zo (f_L_chooses_250 r21 a0 a1 a2 a4 s0 σ) Q) : zw g Y_L_chooses R_L_chooses 250 [(0, (4, a0)), (1, (0, a1)), (2, (4, a2)), (4, (0, a4))] [(0, s0)] σ 0 0 Q := by
  unfold f_L_chooses_250 at h
  refine r_iconst (v := 0) dL_chooses_250 rfl rfl ?_
  refine r_room (C' := 0) (D' := 0) (by omega) (by omega) ?_
  exact t_L_chooses_251 hl0  r21 hr21 h

set_option maxRecDepth 100000 in
set_option maxHeartbeats 4000000 in
theorem t_L_chooses_246 {g : zF} (hl0 : g.2.2.2.1.stackTraces = false) {Q : zR × zS → Prop} (r21 : Int → Int → Int → Int → Int → zS → zFn) (hr21 : ∀ b0 b1 b2 b3 b4 τ, zo (r21 b0 b1 b2 b3 b4 τ) Q → zw g Y_L_chooses R_L_chooses 21 [(0, (4, b0)), (1, (0, b1)), (2, (4, b2)), (3, (0, b3)), (4, (0, b4))] [] τ 0 0 Q) {a0 a1 a2 a4 s0 : Int} {σ : zS} (h : zo (f_L_chooses_246 r21 a0 a1 a2 a4 s0 σ) Q) : zw g Y_L_chooses R_L_chooses 246 [(0, (4, a0)), (1, (0, a1)), (2, (4, a2)), (4, (0, a4))] [(0, s0)] σ 0 0 Q := by
  unfold f_L_chooses_246 at h
  refine r_iconst (v := 1) dL_chooses_246 rfl rfl ?_
  refine r_goto 251 dL_chooses_247 (by decide) ?_
  refine r_room (C' := 0) (D' := 0) (by omega) (by omega) ?_
  exact t_L_chooses_251 hl0  r21 hr21 h

set_option maxRecDepth 100000 in
set_option maxHeartbeats 4000000 in
theorem t_L_chooses_213 {g : zF} (hl0 : g.2.2.2.1.stackTraces = false) {Q : zR × zS → Prop} (r21 : Int → Int → Int → Int → Int → zS → zFn) (hr21 : ∀ b0 b1 b2 b3 b4 τ, zo (r21 b0 b1 b2 b3 b4 τ) Q → zw g Y_L_chooses R_L_chooses 21 [(0, (4, b0)), (1, (0, b1)), (2, (4, b2)), (3, (0, b3)), (4, (0, b4))] [] τ 0 0 Q) {a0 a1 a2 a3 a4 a5 a6 a7 : Int} {σ : zS} (h : zo (f_L_chooses_213 r21 a0 a1 a2 a3 a4 a5 a6 a7 σ) Q) : zw g Y_L_chooses R_L_chooses 213 [(0, (4, a0)), (1, (0, a1)), (2, (4, a2)), (3, (0, a3)), (4, (0, a4)), (5, (0, a5)), (6, (0, a6)), (7, (0, a7))] [] σ 0 0 Q := by
  unfold f_L_chooses_213 at h
  refine r_aload_n 0 dL_chooses_213 rfl ?_
  refine r_iload_n 1 dL_chooses_214 rfl ?_
  refine r_iload 4 dL_chooses_215 rfl ?_
  refine r_callV (K' := Y_X7_own) (R' := R_X7_own) (idx := 218) (n := 2) (b := a0) (as := [(0, a1), (0, a4)]) (rest := []) (C' := 0) (D' := 0) (cn := 7) rfl k0_X7_own kV_X7_own kl_L_218 ⟨by decide, by decide⟩ dL_chooses_217 rfl rfl (Nat.le_of_ble_eq_true rfl) (by decide) (by decide) rfl h (fun r hr => m_X7_own hl0 ⟨r, hr, hr⟩) (fun x1 τ2 _ h => ?_)
  refine r_iload 7 dL_chooses_220 rfl ?_
  refine r_icmp_eq 227 dL_chooses_222 (by decide) h (fun h => ?_) (fun h => ?_)
  · refine r_iload_n 3 dL_chooses_227 rfl ?_
    refine r_iload 7 dL_chooses_228 rfl ?_
    refine r_if_ge 250 dL_chooses_230 (by decide) h (fun h => ?_) (fun h => ?_)
    · refine r_weak (L' := [(0, (4, a0)), (1, (0, a1)), (2, (4, a2)), (4, (0, a4))]) [0, 1, 2, 4] rfl ?_
      refine r_room (C' := 0) (D' := 0) (by omega) (by omega) ?_
      exact t_L_chooses_250 hl0  r21 hr21 h
    · refine r_iload 5 dL_chooses_233 rfl ?_
      refine r_if_gt 246 dL_chooses_235 (by decide) h (fun h => ?_) (fun h => ?_)
      · refine r_weak (L' := [(0, (4, a0)), (1, (0, a1)), (2, (4, a2)), (4, (0, a4))]) [0, 1, 2, 4] rfl ?_
        refine r_room (C' := 0) (D' := 0) (by omega) (by omega) ?_
        exact t_L_chooses_246 hl0  r21 hr21 h
      · refine r_iload 6 dL_chooses_238 rfl ?_
        refine r_sipush (v := 999) dL_chooses_240 rfl rfl ?_
        refine r_icmp_ge 250 dL_chooses_243 (by decide) h (fun h => ?_) (fun h => ?_)
        · refine r_weak (L' := [(0, (4, a0)), (1, (0, a1)), (2, (4, a2)), (4, (0, a4))]) [0, 1, 2, 4] rfl ?_
          refine r_room (C' := 0) (D' := 0) (by omega) (by omega) ?_
          exact t_L_chooses_250 hl0  r21 hr21 h
        · refine r_weak (L' := [(0, (4, a0)), (1, (0, a1)), (2, (4, a2)), (4, (0, a4))]) [0, 1, 2, 4] rfl ?_
          refine r_room (C' := 0) (D' := 0) (by omega) (by omega) ?_
          exact t_L_chooses_246 hl0  r21 hr21 h
  · refine r_iconst (v := 0) dL_chooses_225 rfl rfl ?_
    exact r_zretc (by decide) rfl dL_chooses_226 h

set_option maxRecDepth 100000 in
set_option maxHeartbeats 4000000 in
theorem t_L_chooses_205 {g : zF} (hl0 : g.2.2.2.1.stackTraces = false) {Q : zR × zS → Prop} (r21 : Int → Int → Int → Int → Int → zS → zFn) (r163 : Int → Int → Int → Int → Int → Int → Int → Int → Int → zS → zFn) (hr21 : ∀ b0 b1 b2 b3 b4 τ, zo (r21 b0 b1 b2 b3 b4 τ) Q → zw g Y_L_chooses R_L_chooses 21 [(0, (4, b0)), (1, (0, b1)), (2, (4, b2)), (3, (0, b3)), (4, (0, b4))] [] τ 0 0 Q) (hr163 : ∀ b0 b1 b2 b3 b4 b5 b6 b7 b8 τ, zo (r163 b0 b1 b2 b3 b4 b5 b6 b7 b8 τ) Q → zw g Y_L_chooses R_L_chooses 163 [(0, (4, b0)), (1, (0, b1)), (2, (4, b2)), (3, (0, b3)), (4, (0, b4)), (5, (0, b5)), (6, (0, b6)), (7, (0, b7)), (8, (0, b8))] [] τ 0 0 Q) {a0 a1 a2 a3 a4 a5 a6 a8 s0 : Int} {σ : zS} (h : zo (f_L_chooses_205 r21 r163 a0 a1 a2 a3 a4 a5 a6 a8 s0 σ) Q) : zw g Y_L_chooses R_L_chooses 205 [(0, (4, a0)), (1, (0, a1)), (2, (4, a2)), (3, (0, a3)), (4, (0, a4)), (5, (0, a5)), (6, (0, a6)), (8, (0, a8))] [(0, s0)] σ 0 0 Q := by
  unfold f_L_chooses_205 at h
  refine r_istore (L' := [(7, (0, s0)), (0, (4, a0)), (1, (0, a1)), (2, (4, a2)), (3, (0, a3)), (4, (0, a4)), (5, (0, a5)), (6, (0, a6)), (8, (0, a8))]) dL_chooses_205 (by decide) rfl ?_
  refine r_iinc (L' := [(8, (0, (w32 (a8 + 1)))), (7, (0, s0)), (0, (4, a0)), (1, (0, a1)), (2, (4, a2)), (3, (0, a3)), (4, (0, a4)), (5, (0, a5)), (6, (0, a6))]) 8 dL_chooses_207 rfl (by decide) rfl ?_
  refine r_goto 163 dL_chooses_210 (by decide) ?_
  refine r_weak (L' := [(0, (4, a0)), (1, (0, a1)), (2, (4, a2)), (3, (0, a3)), (4, (0, a4)), (5, (0, a5)), (6, (0, a6)), (7, (0, s0)), (8, (0, (w32 (a8 + 1))))]) [2, 3, 4, 5, 6, 7, 8, 1, 0] rfl ?_
  refine r_room (C' := 0) (D' := 0) (by omega) (by omega) ?_
  exact hr163 _ _ _ _ _ _ _ _ _ _ h

set_option maxRecDepth 100000 in
set_option maxHeartbeats 4000000 in
theorem t_L_chooses_203 {g : zF} (hl0 : g.2.2.2.1.stackTraces = false) {Q : zR × zS → Prop} (r21 : Int → Int → Int → Int → Int → zS → zFn) (r163 : Int → Int → Int → Int → Int → Int → Int → Int → Int → zS → zFn) (hr21 : ∀ b0 b1 b2 b3 b4 τ, zo (r21 b0 b1 b2 b3 b4 τ) Q → zw g Y_L_chooses R_L_chooses 21 [(0, (4, b0)), (1, (0, b1)), (2, (4, b2)), (3, (0, b3)), (4, (0, b4))] [] τ 0 0 Q) (hr163 : ∀ b0 b1 b2 b3 b4 b5 b6 b7 b8 τ, zo (r163 b0 b1 b2 b3 b4 b5 b6 b7 b8 τ) Q → zw g Y_L_chooses R_L_chooses 163 [(0, (4, b0)), (1, (0, b1)), (2, (4, b2)), (3, (0, b3)), (4, (0, b4)), (5, (0, b5)), (6, (0, b6)), (7, (0, b7)), (8, (0, b8))] [] τ 0 0 Q) {a0 a1 a2 a3 a4 a5 a6 a7 a8 : Int} {σ : zS} (h : zo (f_L_chooses_203 r21 r163 a0 a1 a2 a3 a4 a5 a6 a7 a8 σ) Q) : zw g Y_L_chooses R_L_chooses 203 [(0, (4, a0)), (1, (0, a1)), (2, (4, a2)), (3, (0, a3)), (4, (0, a4)), (5, (0, a5)), (6, (0, a6)), (7, (0, a7)), (8, (0, a8))] [] σ 0 0 Q := by
  unfold f_L_chooses_203 at h
  refine r_iload 7 dL_chooses_203 rfl ?_
  refine r_weak (L' := [(0, (4, a0)), (1, (0, a1)), (2, (4, a2)), (3, (0, a3)), (4, (0, a4)), (5, (0, a5)), (6, (0, a6)), (8, (0, a8))]) [0, 1, 2, 3, 4, 5, 6, 8] rfl ?_
  refine r_room (C' := 0) (D' := 0) (by omega) (by omega) ?_
  exact t_L_chooses_205 hl0  r21 r163 hr21 hr163 h

set_option maxRecDepth 100000 in
set_option maxHeartbeats 4000000 in
theorem t_L_chooses_163 {g : zF} (hl0 : g.2.2.2.1.stackTraces = false) {Q : zR × zS → Prop} (r21 : Int → Int → Int → Int → Int → zS → zFn) (hr21 : ∀ b0 b1 b2 b3 b4 τ, zo (r21 b0 b1 b2 b3 b4 τ) Q → zw g Y_L_chooses R_L_chooses 21 [(0, (4, b0)), (1, (0, b1)), (2, (4, b2)), (3, (0, b3)), (4, (0, b4))] [] τ 0 0 Q) : ∀ (n : Nat) (a0 a1 a2 a3 a4 a5 a6 a7 a8 : Int) (σ : zS), zo (f_L_chooses_163 r21 n a0 a1 a2 a3 a4 a5 a6 a7 a8 σ) Q → zw g Y_L_chooses R_L_chooses 163 [(0, (4, a0)), (1, (0, a1)), (2, (4, a2)), (3, (0, a3)), (4, (0, a4)), (5, (0, a5)), (6, (0, a6)), (7, (0, a7)), (8, (0, a8))] [] σ 0 0 Q := by
  intro n
  induction n with
  | zero => intro a0 a1 a2 a3 a4 a5 a6 a7 a8 σ h; obtain ⟨r, h, -⟩ := h; cases h
  | succ n ih =>
    intro a0 a1 a2 a3 a4 a5 a6 a7 a8 σ h
    unfold f_L_chooses_163 at h
    refine r_iload 8 dL_chooses_163 rfl ?_
    refine r_aload_n 0 dL_chooses_165 rfl ?_
    refine r_iload_n 1 dL_chooses_166 rfl ?_
    refine r_callV (K' := Y_X7_reports) (R' := R_X7_reports) (idx := 159) (n := 1) (b := a0) (as := [(0, a1)]) (rest := [(0, a8)]) (C' := 0) (D' := 0) (cn := 7) rfl k0_X7_reports kV_X7_reports kl_L_159 ⟨by decide, by decide⟩ dL_chooses_167 rfl rfl (Nat.le_of_ble_eq_true rfl) (by decide) (by decide) rfl h (fun r hr => m_X7_reports hl0 ⟨r, hr, hr⟩) (fun x1 τ2 _ h => ?_)
    refine r_icmp_ge 213 dL_chooses_170 (by decide) h (fun h => ?_) (fun h => ?_)
    · refine r_weak (L' := [(0, (4, a0)), (1, (0, a1)), (2, (4, a2)), (3, (0, a3)), (4, (0, a4)), (5, (0, a5)), (6, (0, a6)), (7, (0, a7))]) [0, 1, 2, 3, 4, 5, 6, 7] rfl ?_
      refine r_room (C' := 0) (D' := 0) (by omega) (by omega) ?_
      exact t_L_chooses_213 hl0  r21 hr21 h
    · refine r_aload_n 0 dL_chooses_173 rfl ?_
      refine r_iload_n 1 dL_chooses_174 rfl ?_
      refine r_iload 8 dL_chooses_175 rfl ?_
      refine r_iconst (v := 0) dL_chooses_177 rfl rfl ?_
      refine r_callV (K' := Y_X7_report) (R' := R_X7_report) (idx := 140) (n := 3) (b := a0) (as := [(0, a1), (0, a8), (0, 0)]) (rest := []) (C' := 0) (D' := 0) (cn := 7) rfl k0_X7_report kV_X7_report kl_L_140 ⟨by decide, by decide⟩ dL_chooses_178 rfl rfl (Nat.le_of_ble_eq_true rfl) (by decide) (by decide) rfl h (fun r hr => m_X7_report hl0 ⟨r, hr, hr⟩) (fun x3 τ4 _ h => ?_)
      refine r_iload_n 1 dL_chooses_181 rfl ?_
      refine r_icmp_ne 203 dL_chooses_182 (by decide) h (fun h => ?_) (fun h => ?_)
      · refine r_room (C' := 0) (D' := 0) (by omega) (by omega) ?_
        exact t_L_chooses_203 hl0  r21 (f_L_chooses_163 r21 n) hr21 (fun b0 b1 b2 b3 b4 b5 b6 b7 b8 τ h => ih b0 b1 b2 b3 b4 b5 b6 b7 b8 τ h) h
      · refine r_aload_n 0 dL_chooses_185 rfl ?_
        refine r_iload_n 1 dL_chooses_186 rfl ?_
        refine r_iload 8 dL_chooses_187 rfl ?_
        refine r_iconst (v := 3) dL_chooses_189 rfl rfl ?_
        refine r_callV (K' := Y_X7_report) (R' := R_X7_report) (idx := 140) (n := 3) (b := a0) (as := [(0, a1), (0, a8), (0, 3)]) (rest := []) (C' := 0) (D' := 0) (cn := 7) rfl k0_X7_report kV_X7_report kl_L_140 ⟨by decide, by decide⟩ dL_chooses_190 rfl rfl (Nat.le_of_ble_eq_true rfl) (by decide) (by decide) rfl h (fun r hr => m_X7_report hl0 ⟨r, hr, hr⟩) (fun x5 τ6 _ h => ?_)
        refine r_iload 4 dL_chooses_193 rfl ?_
        refine r_icmp_ne 203 dL_chooses_195 (by decide) h (fun h => ?_) (fun h => ?_)
        · refine r_room (C' := 0) (D' := 0) (by omega) (by omega) ?_
          exact t_L_chooses_203 hl0  r21 (f_L_chooses_163 r21 n) hr21 (fun b0 b1 b2 b3 b4 b5 b6 b7 b8 τ h => ih b0 b1 b2 b3 b4 b5 b6 b7 b8 τ h) h
        · refine r_iload 8 dL_chooses_198 rfl ?_
          refine r_goto 205 dL_chooses_200 (by decide) ?_
          refine r_weak (L' := [(0, (4, a0)), (1, (0, a1)), (2, (4, a2)), (3, (0, a3)), (4, (0, a4)), (5, (0, a5)), (6, (0, a6)), (8, (0, a8))]) [0, 1, 2, 3, 4, 5, 6, 8] rfl ?_
          refine r_room (C' := 0) (D' := 0) (by omega) (by omega) ?_
          exact t_L_chooses_205 hl0  r21 (f_L_chooses_163 r21 n) hr21 (fun b0 b1 b2 b3 b4 b5 b6 b7 b8 τ h => ih b0 b1 b2 b3 b4 b5 b6 b7 b8 τ h) h

set_option maxRecDepth 100000 in
set_option maxHeartbeats 4000000 in
theorem t_L_chooses_156 {g : zF} (hl0 : g.2.2.2.1.stackTraces = false) {Q : zR × zS → Prop} (r21 : Int → Int → Int → Int → Int → zS → zFn) (hr21 : ∀ b0 b1 b2 b3 b4 τ, zo (r21 b0 b1 b2 b3 b4 τ) Q → zw g Y_L_chooses R_L_chooses 21 [(0, (4, b0)), (1, (0, b1)), (2, (4, b2)), (3, (0, b3)), (4, (0, b4))] [] τ 0 0 Q) {a0 a1 a2 a3 a4 a5 a6 s0 s1 s2 : Int} {σ : zS} (h : zo (f_L_chooses_156 r21 a0 a1 a2 a3 a4 a5 a6 s0 s1 s2 σ) Q) : zw g Y_L_chooses R_L_chooses 156 [(0, (4, a0)), (1, (0, a1)), (2, (4, a2)), (3, (0, a3)), (4, (0, a4)), (5, (0, a5)), (6, (0, a6))] [(0, s2), (0, s1), (4, s0)] σ 0 0 Q := by
  unfold f_L_chooses_156 at h
  refine r_iast dL_chooses_156 h (fun τ1 h => ?_)
  refine r_iconst (v := (-1)) dL_chooses_157 rfl rfl ?_
  refine r_istore (L' := [(7, (0, (-1))), (0, (4, a0)), (1, (0, a1)), (2, (4, a2)), (3, (0, a3)), (4, (0, a4)), (5, (0, a5)), (6, (0, a6))]) dL_chooses_158 (by decide) rfl ?_
  refine r_iconst (v := 0) dL_chooses_160 rfl rfl ?_
  refine r_istore (L' := [(8, (0, 0)), (7, (0, (-1))), (0, (4, a0)), (1, (0, a1)), (2, (4, a2)), (3, (0, a3)), (4, (0, a4)), (5, (0, a5)), (6, (0, a6))]) dL_chooses_161 (by decide) rfl ?_
  refine r_weak (L' := [(0, (4, a0)), (1, (0, a1)), (2, (4, a2)), (3, (0, a3)), (4, (0, a4)), (5, (0, a5)), (6, (0, a6)), (7, (0, (-1))), (8, (0, 0))]) [2, 3, 4, 5, 6, 7, 8, 1, 0] rfl ?_
  refine r_room (C' := 0) (D' := 0) (by omega) (by omega) ?_
  exact t_L_chooses_163 hl0  r21 hr21 zFU _ _ _ _ _ _ _ _ _ _ h

set_option maxRecDepth 100000 in
set_option maxHeartbeats 4000000 in
theorem t_L_chooses_148 {g : zF} (hl0 : g.2.2.2.1.stackTraces = false) {Q : zR × zS → Prop} (r21 : Int → Int → Int → Int → Int → zS → zFn) (hr21 : ∀ b0 b1 b2 b3 b4 τ, zo (r21 b0 b1 b2 b3 b4 τ) Q → zw g Y_L_chooses R_L_chooses 21 [(0, (4, b0)), (1, (0, b1)), (2, (4, b2)), (3, (0, b3)), (4, (0, b4))] [] τ 0 0 Q) {a0 a1 a2 a3 a4 a5 a6 s0 s1 : Int} {σ : zS} (h : zo (f_L_chooses_148 r21 a0 a1 a2 a3 a4 a5 a6 s0 s1 σ) Q) : zw g Y_L_chooses R_L_chooses 148 [(0, (4, a0)), (1, (0, a1)), (2, (4, a2)), (3, (0, a3)), (4, (0, a4)), (5, (0, a5)), (6, (0, a6))] [(0, s1), (4, s0)] σ 0 0 Q := by
  unfold f_L_chooses_148 at h
  refine r_iload 4 dL_chooses_148 rfl ?_
  refine r_goto 156 dL_chooses_150 (by decide) ?_
  refine r_room (C' := 0) (D' := 0) (by omega) (by omega) ?_
  exact t_L_chooses_156 hl0  r21 hr21 h

set_option maxRecDepth 100000 in
set_option maxHeartbeats 4000000 in
theorem t_L_chooses_112 {g : zF} (hl0 : g.2.2.2.1.stackTraces = false) {Q : zR × zS → Prop} (r21 : Int → Int → Int → Int → Int → zS → zFn) (hr21 : ∀ b0 b1 b2 b3 b4 τ, zo (r21 b0 b1 b2 b3 b4 τ) Q → zw g Y_L_chooses R_L_chooses 21 [(0, (4, b0)), (1, (0, b1)), (2, (4, b2)), (3, (0, b3)), (4, (0, b4))] [] τ 0 0 Q) {a0 a1 a2 a3 a4 a5 a6 s0 s1 s2 : Int} {σ : zS} (h : zo (f_L_chooses_112 r21 a0 a1 a2 a3 a4 a5 a6 s0 s1 s2 σ) Q) : zw g Y_L_chooses R_L_chooses 112 [(0, (4, a0)), (1, (0, a1)), (2, (4, a2)), (3, (0, a3)), (4, (0, a4)), (5, (0, a5)), (6, (0, a6))] [(0, s2), (0, s1), (4, s0)] σ 0 0 Q := by
  unfold f_L_chooses_112 at h
  refine r_iast dL_chooses_112 h (fun τ1 h => ?_)
  refine r_aload_n 2 dL_chooses_113 rfl ?_
  refine r_iconst (v := 2) dL_chooses_114 rfl rfl ?_
  refine r_aload_n 2 dL_chooses_115 rfl ?_
  refine r_iconst (v := 2) dL_chooses_116 rfl rfl ?_
  refine r_iald dL_chooses_117 h (fun x2 h => ?_)
  refine r_if_lt 148 dL_chooses_118 (by decide) h (fun h => ?_) (fun h => ?_)
  · refine r_room (C' := 0) (D' := 0) (by omega) (by omega) ?_
    exact t_L_chooses_148 hl0  r21 hr21 h
  · refine r_iload 5 dL_chooses_121 rfl ?_
    refine r_iload 6 dL_chooses_123 rfl ?_
    refine r_iadd dL_chooses_125 ?_
    refine r_aload_n 0 dL_chooses_126 rfl ?_
    refine r_iload_n 1 dL_chooses_127 rfl ?_
    refine r_aload_n 2 dL_chooses_128 rfl ?_
    refine r_iconst (v := 2) dL_chooses_129 rfl rfl ?_
    refine r_iald dL_chooses_130 h (fun x3 h => ?_)
    refine r_iconst (v := 0) dL_chooses_131 rfl rfl ?_
    refine r_callV (K' := Y_X7_belief) (R' := R_X7_belief) (idx := 195) (n := 3) (b := a0) (as := [(0, a1), (0, x3), (0, 0)]) (rest := [(0, (w32 (a5 + a6))), (0, 2), (4, a2)]) (C' := 0) (D' := 0) (cn := 7) rfl k0_X7_belief kV_X7_belief kl_L_195 ⟨by decide, by decide⟩ dL_chooses_132 rfl rfl (Nat.le_of_ble_eq_true rfl) (by decide) (by decide) rfl h (fun r hr => m_X7_belief hl0 ⟨r, hr, hr⟩) (fun x4 τ5 _ h => ?_)
    refine r_aload_n 0 dL_chooses_135 rfl ?_
    refine r_iload_n 1 dL_chooses_136 rfl ?_
    refine r_aload_n 2 dL_chooses_137 rfl ?_
    refine r_iconst (v := 2) dL_chooses_138 rfl rfl ?_
    refine r_iald dL_chooses_139 h (fun x6 h => ?_)
    refine r_iconst (v := 1) dL_chooses_140 rfl rfl ?_
    refine r_callV (K' := Y_X7_belief) (R' := R_X7_belief) (idx := 195) (n := 3) (b := a0) (as := [(0, a1), (0, x6), (0, 1)]) (rest := [(0, x4), (0, (w32 (a5 + a6))), (0, 2), (4, a2)]) (C' := 0) (D' := 0) (cn := 7) rfl k0_X7_belief kV_X7_belief kl_L_195 ⟨by decide, by decide⟩ dL_chooses_141 rfl rfl (Nat.le_of_ble_eq_true rfl) (by decide) (by decide) rfl h (fun r hr => m_X7_belief hl0 ⟨r, hr, hr⟩) (fun x7 τ8 _ h => ?_)
    refine r_iadd dL_chooses_144 ?_
    refine r_icmp_ge 153 dL_chooses_145 (by decide) h (fun h => ?_) (fun h => ?_)
    · refine r_aload_n 2 dL_chooses_153 rfl ?_
      refine r_iconst (v := 2) dL_chooses_154 rfl rfl ?_
      refine r_iald dL_chooses_155 h (fun x9 h => ?_)
      refine r_room (C' := 0) (D' := 0) (by omega) (by omega) ?_
      exact t_L_chooses_156 hl0  r21 hr21 h
    · refine r_room (C' := 0) (D' := 0) (by omega) (by omega) ?_
      exact t_L_chooses_148 hl0  r21 hr21 h

set_option maxRecDepth 100000 in
set_option maxHeartbeats 4000000 in
theorem t_L_chooses_104 {g : zF} (hl0 : g.2.2.2.1.stackTraces = false) {Q : zR × zS → Prop} (r21 : Int → Int → Int → Int → Int → zS → zFn) (hr21 : ∀ b0 b1 b2 b3 b4 τ, zo (r21 b0 b1 b2 b3 b4 τ) Q → zw g Y_L_chooses R_L_chooses 21 [(0, (4, b0)), (1, (0, b1)), (2, (4, b2)), (3, (0, b3)), (4, (0, b4))] [] τ 0 0 Q) {a0 a1 a2 a3 a4 a5 a6 s0 s1 : Int} {σ : zS} (h : zo (f_L_chooses_104 r21 a0 a1 a2 a3 a4 a5 a6 s0 s1 σ) Q) : zw g Y_L_chooses R_L_chooses 104 [(0, (4, a0)), (1, (0, a1)), (2, (4, a2)), (3, (0, a3)), (4, (0, a4)), (5, (0, a5)), (6, (0, a6))] [(0, s1), (4, s0)] σ 0 0 Q := by
  unfold f_L_chooses_104 at h
  refine r_iload 4 dL_chooses_104 rfl ?_
  refine r_goto 112 dL_chooses_106 (by decide) ?_
  refine r_room (C' := 0) (D' := 0) (by omega) (by omega) ?_
  exact t_L_chooses_112 hl0  r21 hr21 h

set_option maxRecDepth 100000 in
set_option maxHeartbeats 4000000 in
theorem t_L_chooses_81 {g : zF} (hl0 : g.2.2.2.1.stackTraces = false) {Q : zR × zS → Prop} (r21 : Int → Int → Int → Int → Int → zS → zFn) (hr21 : ∀ b0 b1 b2 b3 b4 τ, zo (r21 b0 b1 b2 b3 b4 τ) Q → zw g Y_L_chooses R_L_chooses 21 [(0, (4, b0)), (1, (0, b1)), (2, (4, b2)), (3, (0, b3)), (4, (0, b4))] [] τ 0 0 Q) {a0 a1 a2 a3 a4 a5 a6 s0 s1 s2 : Int} {σ : zS} (h : zo (f_L_chooses_81 r21 a0 a1 a2 a3 a4 a5 a6 s0 s1 s2 σ) Q) : zw g Y_L_chooses R_L_chooses 81 [(0, (4, a0)), (1, (0, a1)), (2, (4, a2)), (3, (0, a3)), (4, (0, a4)), (5, (0, a5)), (6, (0, a6))] [(0, s2), (0, s1), (4, s0)] σ 0 0 Q := by
  unfold f_L_chooses_81 at h
  refine r_iast dL_chooses_81 h (fun τ1 h => ?_)
  refine r_aload_n 2 dL_chooses_82 rfl ?_
  refine r_iconst (v := 1) dL_chooses_83 rfl rfl ?_
  refine r_aload_n 2 dL_chooses_84 rfl ?_
  refine r_iconst (v := 1) dL_chooses_85 rfl rfl ?_
  refine r_iald dL_chooses_86 h (fun x2 h => ?_)
  refine r_if_lt 104 dL_chooses_87 (by decide) h (fun h => ?_) (fun h => ?_)
  · refine r_room (C' := 0) (D' := 0) (by omega) (by omega) ?_
    exact t_L_chooses_104 hl0  r21 hr21 h
  · refine r_iload 5 dL_chooses_90 rfl ?_
    refine r_aload_n 0 dL_chooses_92 rfl ?_
    refine r_iload_n 1 dL_chooses_93 rfl ?_
    refine r_aload_n 2 dL_chooses_94 rfl ?_
    refine r_iconst (v := 1) dL_chooses_95 rfl rfl ?_
    refine r_iald dL_chooses_96 h (fun x3 h => ?_)
    refine r_iconst (v := 0) dL_chooses_97 rfl rfl ?_
    refine r_callV (K' := Y_X7_belief) (R' := R_X7_belief) (idx := 195) (n := 3) (b := a0) (as := [(0, a1), (0, x3), (0, 0)]) (rest := [(0, a5), (0, 1), (4, a2)]) (C' := 0) (D' := 0) (cn := 7) rfl k0_X7_belief kV_X7_belief kl_L_195 ⟨by decide, by decide⟩ dL_chooses_98 rfl rfl (Nat.le_of_ble_eq_true rfl) (by decide) (by decide) rfl h (fun r hr => m_X7_belief hl0 ⟨r, hr, hr⟩) (fun x4 τ5 _ h => ?_)
    refine r_icmp_ge 109 dL_chooses_101 (by decide) h (fun h => ?_) (fun h => ?_)
    · refine r_aload_n 2 dL_chooses_109 rfl ?_
      refine r_iconst (v := 1) dL_chooses_110 rfl rfl ?_
      refine r_iald dL_chooses_111 h (fun x6 h => ?_)
      refine r_room (C' := 0) (D' := 0) (by omega) (by omega) ?_
      exact t_L_chooses_112 hl0  r21 hr21 h
    · refine r_room (C' := 0) (D' := 0) (by omega) (by omega) ?_
      exact t_L_chooses_104 hl0  r21 hr21 h

set_option maxRecDepth 100000 in
set_option maxHeartbeats 4000000 in
theorem t_L_chooses_73 {g : zF} (hl0 : g.2.2.2.1.stackTraces = false) {Q : zR × zS → Prop} (r21 : Int → Int → Int → Int → Int → zS → zFn) (hr21 : ∀ b0 b1 b2 b3 b4 τ, zo (r21 b0 b1 b2 b3 b4 τ) Q → zw g Y_L_chooses R_L_chooses 21 [(0, (4, b0)), (1, (0, b1)), (2, (4, b2)), (3, (0, b3)), (4, (0, b4))] [] τ 0 0 Q) {a0 a1 a2 a3 a4 a5 a6 s0 s1 : Int} {σ : zS} (h : zo (f_L_chooses_73 r21 a0 a1 a2 a3 a4 a5 a6 s0 s1 σ) Q) : zw g Y_L_chooses R_L_chooses 73 [(0, (4, a0)), (1, (0, a1)), (2, (4, a2)), (3, (0, a3)), (4, (0, a4)), (5, (0, a5)), (6, (0, a6))] [(0, s1), (4, s0)] σ 0 0 Q := by
  unfold f_L_chooses_73 at h
  refine r_iload 4 dL_chooses_73 rfl ?_
  refine r_goto 81 dL_chooses_75 (by decide) ?_
  refine r_room (C' := 0) (D' := 0) (by omega) (by omega) ?_
  exact t_L_chooses_81 hl0  r21 hr21 h

set_option maxRecDepth 100000 in
set_option maxHeartbeats 4000000 in
theorem t_L_chooses_21 {g : zF} (hl0 : g.2.2.2.1.stackTraces = false) {Q : zR × zS → Prop}   : ∀ (n : Nat) (a0 a1 a2 a3 a4 : Int) (σ : zS), zo (f_L_chooses_21  n a0 a1 a2 a3 a4 σ) Q → zw g Y_L_chooses R_L_chooses 21 [(0, (4, a0)), (1, (0, a1)), (2, (4, a2)), (3, (0, a3)), (4, (0, a4))] [] σ 0 0 Q := by
  intro n
  induction n with
  | zero => intro a0 a1 a2 a3 a4 σ h; obtain ⟨r, h, -⟩ := h; cases h
  | succ n ih =>
    intro a0 a1 a2 a3 a4 σ h
    unfold f_L_chooses_21 at h
    refine r_iload 4 dL_chooses_21 rfl ?_
    refine r_aload_n 0 dL_chooses_23 rfl ?_
    refine r_iconst (v := 1) dL_chooses_24 rfl rfl ?_
    refine r_callV (K' := Y_X7_property) (R' := R_X7_property) (idx := 104) (n := 1) (b := a0) (as := [(0, 1)]) (rest := [(0, a4)]) (C' := 0) (D' := 0) (cn := 7) rfl k0_X7_property kV_X7_property kl_L_104 ⟨by decide, by decide⟩ dL_chooses_25 rfl rfl (Nat.le_of_ble_eq_true rfl) (by decide) (by decide) rfl h (fun r hr => m_X7_property hl0 ⟨r, hr, hr⟩) (fun x1 τ2 _ h => ?_)
    refine r_icmp_ge 259 dL_chooses_28 (by decide) h (fun h => ?_) (fun h => ?_)
    · refine r_weak (L' := [(0, (4, a0)), (1, (0, a1)), (2, (4, a2)), (3, (0, a3))]) [0, 1, 2, 3] rfl ?_
      refine r_room (C' := 0) (D' := 0) (by omega) (by omega) ?_
      exact t_L_chooses_259 hl0    h
    · refine r_aload_n 0 dL_chooses_31 rfl ?_
      refine r_iload_n 1 dL_chooses_32 rfl ?_
      refine r_iload 4 dL_chooses_33 rfl ?_
      refine r_iconst (v := 0) dL_chooses_35 rfl rfl ?_
      refine r_callV (K' := Y_X7_belief) (R' := R_X7_belief) (idx := 195) (n := 3) (b := a0) (as := [(0, a1), (0, a4), (0, 0)]) (rest := []) (C' := 0) (D' := 0) (cn := 7) rfl k0_X7_belief kV_X7_belief kl_L_195 ⟨by decide, by decide⟩ dL_chooses_36 rfl rfl (Nat.le_of_ble_eq_true rfl) (by decide) (by decide) rfl h (fun r hr => m_X7_belief hl0 ⟨r, hr, hr⟩) (fun x3 τ4 _ h => ?_)
      refine r_istore (L' := [(5, (0, x3)), (0, (4, a0)), (1, (0, a1)), (2, (4, a2)), (3, (0, a3)), (4, (0, a4))]) dL_chooses_39 (by decide) rfl ?_
      refine r_aload_n 1 dL_chooses_41 rfl ?_
      refine r_iload_n 2 dL_chooses_42 rfl ?_
      refine r_iload 5 dL_chooses_43 rfl ?_
      refine r_iconst (v := 1) dL_chooses_45 rfl rfl ?_
      refine r_callV (K' := Y_X7_belief) (R' := R_X7_belief) (idx := 195) (n := 3) (b := a0) (as := [(0, a1), (0, a4), (0, 1)]) (rest := []) (C' := 0) (D' := 0) (cn := 7) rfl k0_X7_belief kV_X7_belief kl_L_195 ⟨by decide, by decide⟩ dL_chooses_46 rfl rfl (Nat.le_of_ble_eq_true rfl) (by decide) (by decide) rfl h (fun r hr => m_X7_belief hl0 ⟨r, hr, hr⟩) (fun x5 τ6 _ h => ?_)
      refine r_istore (L' := [(6, (0, x5)), (5, (0, x3)), (0, (4, a0)), (1, (0, a1)), (2, (4, a2)), (3, (0, a3)), (4, (0, a4))]) dL_chooses_49 (by decide) rfl ?_
      refine r_aload_n 4 dL_chooses_51 rfl ?_
      refine r_iconst (v := 0) dL_chooses_52 rfl rfl ?_
      refine r_aload_n 4 dL_chooses_53 rfl ?_
      refine r_iconst (v := 0) dL_chooses_54 rfl rfl ?_
      refine r_iald dL_chooses_55 h (fun x7 h => ?_)
      refine r_if_lt 73 dL_chooses_56 (by decide) h (fun h => ?_) (fun h => ?_)
      · refine r_weak (L' := [(0, (4, a0)), (1, (0, a1)), (2, (4, a2)), (3, (0, a3)), (4, (0, a4)), (5, (0, x3)), (6, (0, x5))]) [2, 3, 4, 5, 6, 1, 0] rfl ?_
        refine r_room (C' := 0) (D' := 0) (by omega) (by omega) ?_
        exact t_L_chooses_73 hl0  (f_L_chooses_21  n) (fun b0 b1 b2 b3 b4 τ h => ih b0 b1 b2 b3 b4 τ h) h
      · refine r_iload 0 dL_chooses_59 rfl ?_
        refine r_aload_n 2 dL_chooses_61 rfl ?_
        refine r_iload_n 3 dL_chooses_62 rfl ?_
        refine r_aload_n 4 dL_chooses_63 rfl ?_
        refine r_iconst (v := 0) dL_chooses_64 rfl rfl ?_
        refine r_iald dL_chooses_65 h (fun x8 h => ?_)
        refine r_iconst (v := 1) dL_chooses_66 rfl rfl ?_
        refine r_callV (K' := Y_X7_belief) (R' := R_X7_belief) (idx := 195) (n := 3) (b := a0) (as := [(0, a1), (0, x8), (0, 1)]) (rest := [(0, x5), (0, 0), (4, a2)]) (C' := 0) (D' := 0) (cn := 7) rfl k0_X7_belief kV_X7_belief kl_L_195 ⟨by decide, by decide⟩ dL_chooses_67 rfl rfl (Nat.le_of_ble_eq_true rfl) (by decide) (by decide) rfl h (fun r hr => m_X7_belief hl0 ⟨r, hr, hr⟩) (fun x9 τ10 _ h => ?_)
        refine r_icmp_ge 78 dL_chooses_70 (by decide) h (fun h => ?_) (fun h => ?_)
        · refine r_aload_n 4 dL_chooses_78 rfl ?_
          refine r_iconst (v := 0) dL_chooses_79 rfl rfl ?_
          refine r_iald dL_chooses_80 h (fun x11 h => ?_)
          refine r_weak (L' := [(0, (4, a0)), (1, (0, a1)), (2, (4, a2)), (3, (0, a3)), (4, (0, a4)), (5, (0, x3)), (6, (0, x5))]) [2, 3, 4, 5, 6, 1, 0] rfl ?_
          refine r_room (C' := 0) (D' := 0) (by omega) (by omega) ?_
          exact t_L_chooses_81 hl0  (f_L_chooses_21  n) (fun b0 b1 b2 b3 b4 τ h => ih b0 b1 b2 b3 b4 τ h) h
        · refine r_weak (L' := [(0, (4, a0)), (1, (0, a1)), (2, (4, a2)), (3, (0, a3)), (4, (0, a4)), (5, (0, x3)), (6, (0, x5))]) [2, 3, 4, 5, 6, 1, 0] rfl ?_
          refine r_room (C' := 0) (D' := 0) (by omega) (by omega) ?_
          exact t_L_chooses_73 hl0  (f_L_chooses_21  n) (fun b0 b1 b2 b3 b4 τ h => ih b0 b1 b2 b3 b4 τ h) h

set_option maxRecDepth 100000 in
set_option maxHeartbeats 4000000 in
theorem t_L_chooses {g : zF} (hl0 : g.2.2.2.1.stackTraces = false) {Q : zR × zS → Prop}   {a0 a1 : Int} {σ : zS} (h : zo (f_L_chooses  a0 a1 σ) Q) : zw g Y_L_chooses R_L_chooses 0 [(0, (4, a0)), (1, (0, a1))] [] σ 1 3 Q := by
  unfold f_L_chooses at h
  refine r_iconst (v := 3) dL_chooses_0 rfl rfl ?_
  refine r_newa1 (C' := 0) (D' := 0) (N := 3) wd_165 dL_chooses_1 (by decide) (by decide) (by decide) h (fun x1 τ2 h => ?_)
  refine r_dup dL_chooses_3 rfl ?_
  refine r_iconst (v := 0) dL_chooses_4 rfl rfl ?_
  refine r_iconst (v := (-1)) dL_chooses_5 rfl rfl ?_
  refine r_iast dL_chooses_6 h (fun τ3 h => ?_)
  refine r_dup dL_chooses_7 rfl ?_
  refine r_iconst (v := 1) dL_chooses_8 rfl rfl ?_
  refine r_iconst (v := (-1)) dL_chooses_9 rfl rfl ?_
  refine r_iast dL_chooses_10 h (fun τ4 h => ?_)
  refine r_dup dL_chooses_11 rfl ?_
  refine r_iconst (v := 2) dL_chooses_12 rfl rfl ?_
  refine r_iconst (v := (-1)) dL_chooses_13 rfl rfl ?_
  refine r_iast dL_chooses_14 h (fun τ5 h => ?_)
  refine r_astore_n (L' := [(2, (4, x1)), (0, (4, a0)), (1, (0, a1))]) dL_chooses_15 (by decide) rfl ?_
  refine r_iconst (v := 0) dL_chooses_16 rfl rfl ?_
  refine r_istore_n (L' := [(3, (0, 0)), (2, (4, x1)), (0, (4, a0)), (1, (0, a1))]) dL_chooses_17 (by decide) rfl ?_
  refine r_iconst (v := 0) dL_chooses_18 rfl rfl ?_
  refine r_istore (L' := [(4, (0, 0)), (3, (0, 0)), (2, (4, x1)), (0, (4, a0)), (1, (0, a1))]) dL_chooses_19 (by decide) rfl ?_
  refine r_weak (L' := [(0, (4, a0)), (1, (0, a1)), (2, (4, x1)), (3, (0, 0)), (4, (0, 0))]) [3, 4, 2, 1, 0] rfl ?_
  refine r_room (C' := 0) (D' := 0) (by omega) (by omega) ?_
  exact t_L_chooses_21 hl0    zFU _ _ _ _ _ _ h
theorem m_L_chooses {g : zF} (hl0 : g.2.2.2.1.stackTraces = false) {Q : zR × zS → Prop} {a0 a1 : Int} {σ : zS} (h : zo (f_L_chooses a0 a1 σ) Q) : zm g Y_L_chooses R_L_chooses [(4, a0), (0, a1)] σ Q := zm_of (by decide) rfl (Nat.le_of_ble_eq_true rfl) (t_L_chooses hl0 h)


/- L_commons -/

set_option maxRecDepth 100000 in
set_option maxHeartbeats 4000000 in
theorem t_L_commons_267 {g : zF} (hl0 : g.2.2.2.1.stackTraces = false) {Q : zR × zS → Prop} (r159 : Int → Int → zS → zFn) (hr159 : ∀ b0 b1 τ, zo (r159 b0 b1 τ) Q → zw g Y_L_commons R_L_commons 159 [(0, (4, b0)), (1, (0, b1))] [] τ 0 0 Q) {a0 a1 : Int} {σ : zS} (h : zo (f_L_commons_267 r159 a0 a1 σ) Q) : zw g Y_L_commons R_L_commons 267 [(0, (4, a0)), (1, (0, a1))] [] σ 0 0 Q := by
  unfold f_L_commons_267 at h
  refine r_iinc (L' := [(1, (0, (w32 (a1 + 1)))), (0, (4, a0))]) 1 dL_commons_267 rfl (by decide) rfl ?_
  refine r_goto 159 dL_commons_270 (by decide) ?_
  refine r_weak (L' := [(0, (4, a0)), (1, (0, (w32 (a1 + 1))))]) [1, 0] rfl ?_
  refine r_room (C' := 0) (D' := 0) (by omega) (by omega) ?_
  exact hr159 _ _ _ h

set_option maxRecDepth 100000 in
set_option maxHeartbeats 4000000 in
theorem t_L_commons_249 {g : zF} (hl0 : g.2.2.2.1.stackTraces = false) {Q : zR × zS → Prop} (r159 : Int → Int → zS → zFn) (r170 : Int → Int → Int → zS → zFn) (hr159 : ∀ b0 b1 τ, zo (r159 b0 b1 τ) Q → zw g Y_L_commons R_L_commons 159 [(0, (4, b0)), (1, (0, b1))] [] τ 0 0 Q) (hr170 : ∀ b0 b1 b2 τ, zo (r170 b0 b1 b2 τ) Q → zw g Y_L_commons R_L_commons 170 [(0, (4, b0)), (1, (0, b1)), (2, (0, b2))] [] τ 0 0 Q) {a0 a1 a2 a3 : Int} {σ : zS} (h : zo (f_L_commons_249 r159 r170 a0 a1 a2 a3 σ) Q) : zw g Y_L_commons R_L_commons 249 [(0, (4, a0)), (1, (0, a1)), (2, (0, a2)), (3, (0, a3))] [] σ 0 0 Q := by
  unfold f_L_commons_249 at h
  refine r_aload_n 0 dL_commons_249 rfl ?_
  refine r_iload_n 1 dL_commons_250 rfl ?_
  refine r_iload_n 2 dL_commons_251 rfl ?_
  refine r_callV (K' := Y_X7_agreeing) (R' := R_X7_agreeing) (idx := 242) (n := 2) (b := a0) (as := [(0, a1), (0, a2)]) (rest := []) (C' := 0) (D' := 0) (cn := 7) rfl k0_X7_agreeing kV_X7_agreeing kl_L_242 ⟨by decide, by decide⟩ dL_commons_252 rfl rfl (Nat.le_of_ble_eq_true rfl) (by decide) (by decide) rfl h (fun r hr => m_X7_agreeing hl0 ⟨r, hr, hr⟩) (fun x1 τ2 _ h => ?_)
  refine r_iload_n 3 dL_commons_255 rfl ?_
  refine r_icmp_eq 261 dL_commons_256 (by decide) h (fun h => ?_) (fun h => ?_)
  · refine r_iinc (L' := [(2, (0, (w32 (a2 + 1)))), (0, (4, a0)), (1, (0, a1)), (3, (0, a3))]) 2 dL_commons_261 rfl (by decide) rfl ?_
    refine r_goto 170 dL_commons_264 (by decide) ?_
    refine r_weak (L' := [(0, (4, a0)), (1, (0, a1)), (2, (0, (w32 (a2 + 1))))]) [1, 2, 0] rfl ?_
    refine r_room (C' := 0) (D' := 0) (by omega) (by omega) ?_
    exact hr170 _ _ _ _ h
  · refine r_iconst (v := 0) dL_commons_259 rfl rfl ?_
    exact r_zretc (by decide) rfl dL_commons_260 h

set_option maxRecDepth 100000 in
set_option maxHeartbeats 4000000 in
theorem t_L_commons_241 {g : zF} (hl0 : g.2.2.2.1.stackTraces = false) {Q : zR × zS → Prop} (r159 : Int → Int → zS → zFn) (r170 : Int → Int → Int → zS → zFn) (r184 : Int → Int → Int → Int → Int → zS → zFn) (hr159 : ∀ b0 b1 τ, zo (r159 b0 b1 τ) Q → zw g Y_L_commons R_L_commons 159 [(0, (4, b0)), (1, (0, b1))] [] τ 0 0 Q) (hr170 : ∀ b0 b1 b2 τ, zo (r170 b0 b1 b2 τ) Q → zw g Y_L_commons R_L_commons 170 [(0, (4, b0)), (1, (0, b1)), (2, (0, b2))] [] τ 0 0 Q) (hr184 : ∀ b0 b1 b2 b3 b4 τ, zo (r184 b0 b1 b2 b3 b4 τ) Q → zw g Y_L_commons R_L_commons 184 [(0, (4, b0)), (1, (0, b1)), (2, (0, b2)), (3, (0, b3)), (4, (0, b4))] [] τ 0 0 Q) {a0 a1 a2 a4 s0 s1 : Int} {σ : zS} (h : zo (f_L_commons_241 r159 r170 r184 a0 a1 a2 a4 s0 s1 σ) Q) : zw g Y_L_commons R_L_commons 241 [(0, (4, a0)), (1, (0, a1)), (2, (0, a2)), (4, (0, a4))] [(0, s1), (0, s0)] σ 0 0 Q := by
  unfold f_L_commons_241 at h
  refine r_iadd dL_commons_241 ?_
  refine r_istore_n (L' := [(3, (0, (w32 (s0 + s1)))), (0, (4, a0)), (1, (0, a1)), (2, (0, a2)), (4, (0, a4))]) dL_commons_242 (by decide) rfl ?_
  refine r_iinc (L' := [(4, (0, (w32 (a4 + 1)))), (3, (0, (w32 (s0 + s1)))), (0, (4, a0)), (1, (0, a1)), (2, (0, a2))]) 4 dL_commons_243 rfl (by decide) rfl ?_
  refine r_goto 184 dL_commons_246 (by decide) ?_
  refine r_weak (L' := [(0, (4, a0)), (1, (0, a1)), (2, (0, a2)), (3, (0, (w32 (s0 + s1)))), (4, (0, (w32 (a4 + 1))))]) [2, 3, 4, 1, 0] rfl ?_
  refine r_room (C' := 0) (D' := 0) (by omega) (by omega) ?_
  exact hr184 _ _ _ _ _ _ h

set_option maxRecDepth 100000 in
set_option maxHeartbeats 4000000 in
theorem t_L_commons_184 {g : zF} (hl0 : g.2.2.2.1.stackTraces = false) {Q : zR × zS → Prop} (r159 : Int → Int → zS → zFn) (r170 : Int → Int → Int → zS → zFn) (hr159 : ∀ b0 b1 τ, zo (r159 b0 b1 τ) Q → zw g Y_L_commons R_L_commons 159 [(0, (4, b0)), (1, (0, b1))] [] τ 0 0 Q) (hr170 : ∀ b0 b1 b2 τ, zo (r170 b0 b1 b2 τ) Q → zw g Y_L_commons R_L_commons 170 [(0, (4, b0)), (1, (0, b1)), (2, (0, b2))] [] τ 0 0 Q) : ∀ (n : Nat) (a0 a1 a2 a3 a4 : Int) (σ : zS), zo (f_L_commons_184 r159 r170 n a0 a1 a2 a3 a4 σ) Q → zw g Y_L_commons R_L_commons 184 [(0, (4, a0)), (1, (0, a1)), (2, (0, a2)), (3, (0, a3)), (4, (0, a4))] [] σ 0 0 Q := by
  intro n
  induction n with
  | zero => intro a0 a1 a2 a3 a4 σ h; obtain ⟨r, h, -⟩ := h; cases h
  | succ n ih =>
    intro a0 a1 a2 a3 a4 σ h
    unfold f_L_commons_184 at h
    refine r_iload 4 dL_commons_184 rfl ?_
    refine r_aload_n 0 dL_commons_186 rfl ?_
    refine r_iconst (v := 1) dL_commons_187 rfl rfl ?_
    refine r_callV (K' := Y_X7_property) (R' := R_X7_property) (idx := 104) (n := 1) (b := a0) (as := [(0, 1)]) (rest := [(0, a4)]) (C' := 0) (D' := 0) (cn := 7) rfl k0_X7_property kV_X7_property kl_L_104 ⟨by decide, by decide⟩ dL_commons_188 rfl rfl (Nat.le_of_ble_eq_true rfl) (by decide) (by decide) rfl h (fun r hr => m_X7_property hl0 ⟨r, hr, hr⟩) (fun x1 τ2 _ h => ?_)
    refine r_icmp_ge 249 dL_commons_191 (by decide) h (fun h => ?_) (fun h => ?_)
    · refine r_weak (L' := [(0, (4, a0)), (1, (0, a1)), (2, (0, a2)), (3, (0, a3))]) [0, 1, 2, 3] rfl ?_
      refine r_room (C' := 0) (D' := 0) (by omega) (by omega) ?_
      exact t_L_commons_249 hl0  r159 r170 hr159 hr170 h
    · refine r_iload_n 3 dL_commons_194 rfl ?_
      refine r_aload_n 0 dL_commons_195 rfl ?_
      refine r_iload_n 1 dL_commons_196 rfl ?_
      refine r_iload 4 dL_commons_197 rfl ?_
      refine r_iconst (v := 0) dL_commons_199 rfl rfl ?_
      refine r_callV (K' := Y_X7_belief) (R' := R_X7_belief) (idx := 195) (n := 3) (b := a0) (as := [(0, a1), (0, a4), (0, 0)]) (rest := [(0, a3)]) (C' := 0) (D' := 0) (cn := 7) rfl k0_X7_belief kV_X7_belief kl_L_195 ⟨by decide, by decide⟩ dL_commons_200 rfl rfl (Nat.le_of_ble_eq_true rfl) (by decide) (by decide) rfl h (fun r hr => m_X7_belief hl0 ⟨r, hr, hr⟩) (fun x3 τ4 _ h => ?_)
      refine r_aload_n 0 dL_commons_203 rfl ?_
      refine r_iload_n 2 dL_commons_204 rfl ?_
      refine r_iload 4 dL_commons_205 rfl ?_
      refine r_iconst (v := 0) dL_commons_207 rfl rfl ?_
      refine r_callV (K' := Y_X7_belief) (R' := R_X7_belief) (idx := 195) (n := 3) (b := a0) (as := [(0, a2), (0, a4), (0, 0)]) (rest := [(0, x3), (0, a3)]) (C' := 0) (D' := 0) (cn := 7) rfl k0_X7_belief kV_X7_belief kl_L_195 ⟨by decide, by decide⟩ dL_commons_208 rfl rfl (Nat.le_of_ble_eq_true rfl) (by decide) (by decide) rfl h (fun r hr => m_X7_belief hl0 ⟨r, hr, hr⟩) (fun x5 τ6 _ h => ?_)
      refine r_mmax mq_L_144 ⟨by decide, Nat.le_of_ble_eq_true rfl⟩ rfl dL_commons_211 ?_
      refine r_aload_n 0 dL_commons_214 rfl ?_
      refine r_iload_n 1 dL_commons_215 rfl ?_
      refine r_iload 4 dL_commons_216 rfl ?_
      refine r_iconst (v := 1) dL_commons_218 rfl rfl ?_
      refine r_callV (K' := Y_X7_belief) (R' := R_X7_belief) (idx := 195) (n := 3) (b := a0) (as := [(0, a1), (0, a4), (0, 1)]) (rest := [(0, (max x3 x5)), (0, a3)]) (C' := 0) (D' := 0) (cn := 7) rfl k0_X7_belief kV_X7_belief kl_L_195 ⟨by decide, by decide⟩ dL_commons_219 rfl rfl (Nat.le_of_ble_eq_true rfl) (by decide) (by decide) rfl h (fun r hr => m_X7_belief hl0 ⟨r, hr, hr⟩) (fun x7 τ8 _ h => ?_)
      refine r_aload_n 0 dL_commons_222 rfl ?_
      refine r_iload_n 2 dL_commons_223 rfl ?_
      refine r_iload 4 dL_commons_224 rfl ?_
      refine r_iconst (v := 1) dL_commons_226 rfl rfl ?_
      refine r_callV (K' := Y_X7_belief) (R' := R_X7_belief) (idx := 195) (n := 3) (b := a0) (as := [(0, a2), (0, a4), (0, 1)]) (rest := [(0, x7), (0, (max x3 x5)), (0, a3)]) (C' := 0) (D' := 0) (cn := 7) rfl k0_X7_belief kV_X7_belief kl_L_195 ⟨by decide, by decide⟩ dL_commons_227 rfl rfl (Nat.le_of_ble_eq_true rfl) (by decide) (by decide) rfl h (fun r hr => m_X7_belief hl0 ⟨r, hr, hr⟩) (fun x9 τ10 _ h => ?_)
      refine r_mmin mq_L_30 ⟨by decide, Nat.le_of_ble_eq_true rfl⟩ rfl dL_commons_230 ?_
      refine r_icmp_gt 240 dL_commons_233 (by decide) h (fun h => ?_) (fun h => ?_)
      · refine r_iconst (v := 0) dL_commons_240 rfl rfl ?_
        refine r_weak (L' := [(0, (4, a0)), (1, (0, a1)), (2, (0, a2)), (4, (0, a4))]) [0, 1, 2, 4] rfl ?_
        refine r_room (C' := 0) (D' := 0) (by omega) (by omega) ?_
        exact t_L_commons_241 hl0  r159 r170 (f_L_commons_184 r159 r170 n) hr159 hr170 (fun b0 b1 b2 b3 b4 τ h => ih b0 b1 b2 b3 b4 τ h) h
      · refine r_iconst (v := 1) dL_commons_236 rfl rfl ?_
        refine r_goto 241 dL_commons_237 (by decide) ?_
        refine r_weak (L' := [(0, (4, a0)), (1, (0, a1)), (2, (0, a2)), (4, (0, a4))]) [0, 1, 2, 4] rfl ?_
        refine r_room (C' := 0) (D' := 0) (by omega) (by omega) ?_
        exact t_L_commons_241 hl0  r159 r170 (f_L_commons_184 r159 r170 n) hr159 hr170 (fun b0 b1 b2 b3 b4 τ h => ih b0 b1 b2 b3 b4 τ h) h

set_option maxRecDepth 100000 in
set_option maxHeartbeats 4000000 in
theorem t_L_commons_170 {g : zF} (hl0 : g.2.2.2.1.stackTraces = false) {Q : zR × zS → Prop} (r159 : Int → Int → zS → zFn) (hr159 : ∀ b0 b1 τ, zo (r159 b0 b1 τ) Q → zw g Y_L_commons R_L_commons 159 [(0, (4, b0)), (1, (0, b1))] [] τ 0 0 Q) : ∀ (n : Nat) (a0 a1 a2 : Int) (σ : zS), zo (f_L_commons_170 r159 n a0 a1 a2 σ) Q → zw g Y_L_commons R_L_commons 170 [(0, (4, a0)), (1, (0, a1)), (2, (0, a2))] [] σ 0 0 Q := by
  intro n
  induction n with
  | zero => intro a0 a1 a2 σ h; obtain ⟨r, h, -⟩ := h; cases h
  | succ n ih =>
    intro a0 a1 a2 σ h
    unfold f_L_commons_170 at h
    refine r_iload_n 2 dL_commons_170 rfl ?_
    refine r_aload_n 0 dL_commons_171 rfl ?_
    refine r_iconst (v := 0) dL_commons_172 rfl rfl ?_
    refine r_callV (K' := Y_X7_property) (R' := R_X7_property) (idx := 104) (n := 1) (b := a0) (as := [(0, 0)]) (rest := [(0, a2)]) (C' := 0) (D' := 0) (cn := 7) rfl k0_X7_property kV_X7_property kl_L_104 ⟨by decide, by decide⟩ dL_commons_173 rfl rfl (Nat.le_of_ble_eq_true rfl) (by decide) (by decide) rfl h (fun r hr => m_X7_property hl0 ⟨r, hr, hr⟩) (fun x1 τ2 _ h => ?_)
    refine r_icmp_ge 267 dL_commons_176 (by decide) h (fun h => ?_) (fun h => ?_)
    · refine r_weak (L' := [(0, (4, a0)), (1, (0, a1))]) [0, 1] rfl ?_
      refine r_room (C' := 0) (D' := 0) (by omega) (by omega) ?_
      exact t_L_commons_267 hl0  r159 hr159 h
    · refine r_iconst (v := 0) dL_commons_179 rfl rfl ?_
      refine r_istore_n (L' := [(3, (0, 0)), (0, (4, a0)), (1, (0, a1)), (2, (0, a2))]) dL_commons_180 (by decide) rfl ?_
      refine r_iconst (v := 0) dL_commons_181 rfl rfl ?_
      refine r_istore (L' := [(4, (0, 0)), (3, (0, 0)), (0, (4, a0)), (1, (0, a1)), (2, (0, a2))]) dL_commons_182 (by decide) rfl ?_
      refine r_weak (L' := [(0, (4, a0)), (1, (0, a1)), (2, (0, a2)), (3, (0, 0)), (4, (0, 0))]) [2, 3, 4, 1, 0] rfl ?_
      refine r_room (C' := 0) (D' := 0) (by omega) (by omega) ?_
      exact t_L_commons_184 hl0  r159 (f_L_commons_170 r159 n) hr159 (fun b0 b1 b2 τ h => ih b0 b1 b2 τ h) zFU _ _ _ _ _ _ h

set_option maxRecDepth 100000 in
set_option maxHeartbeats 4000000 in
theorem t_L_commons_159 {g : zF} (hl0 : g.2.2.2.1.stackTraces = false) {Q : zR × zS → Prop}   : ∀ (n : Nat) (a0 a1 : Int) (σ : zS), zo (f_L_commons_159  n a0 a1 σ) Q → zw g Y_L_commons R_L_commons 159 [(0, (4, a0)), (1, (0, a1))] [] σ 0 0 Q := by
  intro n
  induction n with
  | zero => intro a0 a1 σ h; obtain ⟨r, h, -⟩ := h; cases h
  | succ n ih =>
    intro a0 a1 σ h
    unfold f_L_commons_159 at h
    refine r_iload_n 1 dL_commons_159 rfl ?_
    refine r_aload_n 0 dL_commons_160 rfl ?_
    refine r_iconst (v := 0) dL_commons_161 rfl rfl ?_
    refine r_callV (K' := Y_X7_property) (R' := R_X7_property) (idx := 104) (n := 1) (b := a0) (as := [(0, 0)]) (rest := [(0, a1)]) (C' := 0) (D' := 0) (cn := 7) rfl k0_X7_property kV_X7_property kl_L_104 ⟨by decide, by decide⟩ dL_commons_162 rfl rfl (Nat.le_of_ble_eq_true rfl) (by decide) (by decide) rfl h (fun r hr => m_X7_property hl0 ⟨r, hr, hr⟩) (fun x1 τ2 _ h => ?_)
    refine r_icmp_ge 273 dL_commons_165 (by decide) h (fun h => ?_) (fun h => ?_)
    · refine r_iconst (v := 1) dL_commons_273 rfl rfl ?_
      exact r_zretc (by decide) rfl dL_commons_274 h
    · refine r_iconst (v := 0) dL_commons_168 rfl rfl ?_
      refine r_istore_n (L' := [(2, (0, 0)), (0, (4, a0)), (1, (0, a1))]) dL_commons_169 (by decide) rfl ?_
      refine r_weak (L' := [(0, (4, a0)), (1, (0, a1)), (2, (0, 0))]) [1, 2, 0] rfl ?_
      refine r_room (C' := 0) (D' := 0) (by omega) (by omega) ?_
      exact t_L_commons_170 hl0  (f_L_commons_159  n) (fun b0 b1 τ h => ih b0 b1 τ h) zFU _ _ _ _ h

set_option maxRecDepth 100000 in
set_option maxHeartbeats 4000000 in
theorem t_L_commons_157 {g : zF} (hl0 : g.2.2.2.1.stackTraces = false) {Q : zR × zS → Prop}   {a0 : Int} {σ : zS} (h : zo (f_L_commons_157  a0 σ) Q) : zw g Y_L_commons R_L_commons 157 [(0, (4, a0))] [] σ 0 0 Q := by
  unfold f_L_commons_157 at h
  refine r_iconst (v := 0) dL_commons_157 rfl rfl ?_
  refine r_istore_n (L' := [(1, (0, 0)), (0, (4, a0))]) dL_commons_158 (by decide) rfl ?_
  refine r_weak (L' := [(0, (4, a0)), (1, (0, 0))]) [1, 0] rfl ?_
  refine r_room (C' := 0) (D' := 0) (by omega) (by omega) ?_
  exact t_L_commons_159 hl0    zFU _ _ _ h

set_option maxRecDepth 100000 in
set_option maxHeartbeats 4000000 in
theorem t_L_commons_146 {g : zF} (hl0 : g.2.2.2.1.stackTraces = false) {Q : zR × zS → Prop} (r2 : Int → Int → zS → zFn) (hr2 : ∀ b0 b1 τ, zo (r2 b0 b1 τ) Q → zw g Y_L_commons R_L_commons 2 [(0, (4, b0)), (1, (0, b1))] [] τ 0 0 Q) {a0 a1 s0 s1 : Int} {σ : zS} (h : zo (f_L_commons_146 r2 a0 a1 s0 s1 σ) Q) : zw g Y_L_commons R_L_commons 146 [(0, (4, a0)), (1, (0, a1))] [(0, s1), (0, s0)] σ 0 0 Q := by
  unfold f_L_commons_146 at h
  refine r_icmp_eq 151 dL_commons_146 (by decide) h (fun h => ?_) (fun h => ?_)
  · refine r_iinc (L' := [(1, (0, (w32 (a1 + 1)))), (0, (4, a0))]) 1 dL_commons_151 rfl (by decide) rfl ?_
    refine r_goto 2 dL_commons_154 (by decide) ?_
    refine r_weak (L' := [(0, (4, a0)), (1, (0, (w32 (a1 + 1))))]) [1, 0] rfl ?_
    refine r_room (C' := 0) (D' := 0) (by omega) (by omega) ?_
    exact hr2 _ _ _ h
  · refine r_iconst (v := 0) dL_commons_149 rfl rfl ?_
    exact r_zretc (by decide) rfl dL_commons_150 h

set_option maxRecDepth 100000 in
set_option maxHeartbeats 4000000 in
theorem t_L_commons_127 {g : zF} (hl0 : g.2.2.2.1.stackTraces = false) {Q : zR × zS → Prop} (r2 : Int → Int → zS → zFn) (hr2 : ∀ b0 b1 τ, zo (r2 b0 b1 τ) Q → zw g Y_L_commons R_L_commons 2 [(0, (4, b0)), (1, (0, b1))] [] τ 0 0 Q) {a0 a1 a3 a4 s0 s1 : Int} {σ : zS} (h : zo (f_L_commons_127 r2 a0 a1 a3 a4 s0 s1 σ) Q) : zw g Y_L_commons R_L_commons 127 [(0, (4, a0)), (1, (0, a1)), (3, (0, a3)), (4, (0, a4))] [(0, s1), (0, s0)] σ 0 0 Q := by
  unfold f_L_commons_127 at h
  refine r_icmp_ne 149 dL_commons_127 (by decide) h (fun h => ?_) (fun h => ?_)
  · refine r_iconst (v := 0) dL_commons_149 rfl rfl ?_
    exact r_zretc (by decide) rfl dL_commons_150 h
  · refine r_aload_n 0 dL_commons_130 rfl ?_
    refine r_iload_n 1 dL_commons_131 rfl ?_
    refine r_iconst (v := 1) dL_commons_132 rfl rfl ?_
    refine r_callV (K' := Y_X7_common) (R' := R_X7_common) (idx := 239) (n := 2) (b := a0) (as := [(0, a1), (0, 1)]) (rest := []) (C' := 0) (D' := 0) (cn := 7) rfl k0_X7_common kV_X7_common kl_L_239 ⟨by decide, by decide⟩ dL_commons_133 rfl rfl (Nat.le_of_ble_eq_true rfl) (by decide) (by decide) rfl h (fun r hr => m_X7_common hl0 ⟨r, hr, hr⟩) (fun x1 τ2 _ h => ?_)
    refine r_iload 3 dL_commons_136 rfl ?_
    refine r_if_eq 145 dL_commons_138 (by decide) h (fun h => ?_) (fun h => ?_)
    · refine r_iconst (v := (-1)) dL_commons_145 rfl rfl ?_
      refine r_weak (L' := [(0, (4, a0)), (1, (0, a1))]) [0, 1] rfl ?_
      refine r_room (C' := 0) (D' := 0) (by omega) (by omega) ?_
      exact t_L_commons_146 hl0  r2 hr2 h
    · refine r_iload_n 2 dL_commons_141 rfl ?_
      refine r_goto 146 dL_commons_142 (by decide) ?_
      refine r_weak (L' := [(0, (4, a0)), (1, (0, a1))]) [0, 1] rfl ?_
      refine r_room (C' := 0) (D' := 0) (by omega) (by omega) ?_
      exact t_L_commons_146 hl0  r2 hr2 h

set_option maxRecDepth 100000 in
set_option maxHeartbeats 4000000 in
theorem t_L_commons_109 {g : zF} (hl0 : g.2.2.2.1.stackTraces = false) {Q : zR × zS → Prop} (r2 : Int → Int → zS → zFn) (hr2 : ∀ b0 b1 τ, zo (r2 b0 b1 τ) Q → zw g Y_L_commons R_L_commons 2 [(0, (4, b0)), (1, (0, b1))] [] τ 0 0 Q) {a0 a1 a2 a3 s0 : Int} {σ : zS} (h : zo (f_L_commons_109 r2 a0 a1 a2 a3 s0 σ) Q) : zw g Y_L_commons R_L_commons 109 [(0, (4, a0)), (1, (0, a1)), (2, (0, a2)), (3, (0, a3))] [(0, s0)] σ 0 0 Q := by
  unfold f_L_commons_109 at h
  refine r_istore (L' := [(4, (0, s0)), (0, (4, a0)), (1, (0, a1)), (2, (0, a2)), (3, (0, a3))]) dL_commons_109 (by decide) rfl ?_
  refine r_aload_n 1 dL_commons_111 rfl ?_
  refine r_iload_n 2 dL_commons_112 rfl ?_
  refine r_iconst (v := 0) dL_commons_113 rfl rfl ?_
  refine r_callV (K' := Y_X7_common) (R' := R_X7_common) (idx := 239) (n := 2) (b := a0) (as := [(0, a1), (0, 0)]) (rest := []) (C' := 0) (D' := 0) (cn := 7) rfl k0_X7_common kV_X7_common kl_L_239 ⟨by decide, by decide⟩ dL_commons_114 rfl rfl (Nat.le_of_ble_eq_true rfl) (by decide) (by decide) rfl h (fun r hr => m_X7_common hl0 ⟨r, hr, hr⟩) (fun x1 τ2 _ h => ?_)
  refine r_iload 0 dL_commons_117 rfl ?_
  refine r_if_eq 126 dL_commons_119 (by decide) h (fun h => ?_) (fun h => ?_)
  · refine r_iconst (v := (-1)) dL_commons_126 rfl rfl ?_
    refine r_weak (L' := [(0, (4, a0)), (1, (0, a1)), (3, (0, a3)), (4, (0, s0))]) [1, 2, 4, 0] rfl ?_
    refine r_room (C' := 0) (D' := 0) (by omega) (by omega) ?_
    exact t_L_commons_127 hl0  r2 hr2 h
  · refine r_iload_n 3 dL_commons_122 rfl ?_
    refine r_goto 127 dL_commons_123 (by decide) ?_
    refine r_weak (L' := [(0, (4, a0)), (1, (0, a1)), (3, (0, a3)), (4, (0, s0))]) [1, 2, 4, 0] rfl ?_
    refine r_room (C' := 0) (D' := 0) (by omega) (by omega) ?_
    exact t_L_commons_127 hl0  r2 hr2 h

set_option maxRecDepth 100000 in
set_option maxHeartbeats 4000000 in
theorem t_L_commons_108 {g : zF} (hl0 : g.2.2.2.1.stackTraces = false) {Q : zR × zS → Prop} (r2 : Int → Int → zS → zFn) (hr2 : ∀ b0 b1 τ, zo (r2 b0 b1 τ) Q → zw g Y_L_commons R_L_commons 2 [(0, (4, b0)), (1, (0, b1))] [] τ 0 0 Q) {a0 a1 a2 a3 : Int} {σ : zS} (h : zo (f_L_commons_108 r2 a0 a1 a2 a3 σ) Q) : zw g Y_L_commons R_L_commons 108 [(0, (4, a0)), (1, (0, a1)), (2, (0, a2)), (3, (0, a3))] [] σ 0 0 Q := by
  unfold f_L_commons_108 at h
  refine r_iconst (v := 0) dL_commons_108 rfl rfl ?_
  refine r_room (C' := 0) (D' := 0) (by omega) (by omega) ?_
  exact t_L_commons_109 hl0  r2 hr2 h

set_option maxRecDepth 100000 in
set_option maxHeartbeats 4000000 in
theorem t_L_commons_95 {g : zF} (hl0 : g.2.2.2.1.stackTraces = false) {Q : zR × zS → Prop} (r2 : Int → Int → zS → zFn) (hr2 : ∀ b0 b1 τ, zo (r2 b0 b1 τ) Q → zw g Y_L_commons R_L_commons 2 [(0, (4, b0)), (1, (0, b1))] [] τ 0 0 Q) {a0 a1 a2 a3 : Int} {σ : zS} (h : zo (f_L_commons_95 r2 a0 a1 a2 a3 σ) Q) : zw g Y_L_commons R_L_commons 95 [(0, (4, a0)), (1, (0, a1)), (2, (0, a2)), (3, (0, a3))] [] σ 0 0 Q := by
  unfold f_L_commons_95 at h
  refine r_iload_n 2 dL_commons_95 rfl ?_
  refine r_if_lt 108 dL_commons_96 (by decide) h (fun h => ?_) (fun h => ?_)
  · refine r_room (C' := 0) (D' := 0) (by omega) (by omega) ?_
    exact t_L_commons_108 hl0  r2 hr2 h
  · refine r_iload_n 2 dL_commons_99 rfl ?_
    refine r_iload_n 3 dL_commons_100 rfl ?_
    refine r_icmp_gt 108 dL_commons_101 (by decide) h (fun h => ?_) (fun h => ?_)
    · refine r_room (C' := 0) (D' := 0) (by omega) (by omega) ?_
      exact t_L_commons_108 hl0  r2 hr2 h
    · refine r_iconst (v := 1) dL_commons_104 rfl rfl ?_
      refine r_goto 109 dL_commons_105 (by decide) ?_
      refine r_room (C' := 0) (D' := 0) (by omega) (by omega) ?_
      exact t_L_commons_109 hl0  r2 hr2 h

set_option maxRecDepth 100000 in
set_option maxHeartbeats 4000000 in
theorem t_L_commons_89 {g : zF} (hl0 : g.2.2.2.1.stackTraces = false) {Q : zR × zS → Prop} (r2 : Int → Int → zS → zFn) (r20 : Int → Int → Int → Int → Int → zS → zFn) (hr2 : ∀ b0 b1 τ, zo (r2 b0 b1 τ) Q → zw g Y_L_commons R_L_commons 2 [(0, (4, b0)), (1, (0, b1))] [] τ 0 0 Q) (hr20 : ∀ b0 b1 b2 b3 b4 τ, zo (r20 b0 b1 b2 b3 b4 τ) Q → zw g Y_L_commons R_L_commons 20 [(0, (4, b0)), (1, (0, b1)), (2, (0, b2)), (3, (0, b3)), (4, (0, b4))] [] τ 0 0 Q) {a0 a1 a2 a3 a4 : Int} {σ : zS} (h : zo (f_L_commons_89 r2 r20 a0 a1 a2 a3 a4 σ) Q) : zw g Y_L_commons R_L_commons 89 [(0, (4, a0)), (1, (0, a1)), (2, (0, a2)), (3, (0, a3)), (4, (0, a4))] [] σ 0 0 Q := by
  unfold f_L_commons_89 at h
  refine r_iinc (L' := [(4, (0, (w32 (a4 + 1)))), (0, (4, a0)), (1, (0, a1)), (2, (0, a2)), (3, (0, a3))]) 4 dL_commons_89 rfl (by decide) rfl ?_
  refine r_goto 20 dL_commons_92 (by decide) ?_
  refine r_weak (L' := [(0, (4, a0)), (1, (0, a1)), (2, (0, a2)), (3, (0, a3)), (4, (0, (w32 (a4 + 1))))]) [1, 2, 3, 4, 0] rfl ?_
  refine r_room (C' := 0) (D' := 0) (by omega) (by omega) ?_
  exact hr20 _ _ _ _ _ _ h

set_option maxRecDepth 100000 in
set_option maxHeartbeats 4000000 in
theorem t_L_commons_20 {g : zF} (hl0 : g.2.2.2.1.stackTraces = false) {Q : zR × zS → Prop} (r2 : Int → Int → zS → zFn) (hr2 : ∀ b0 b1 τ, zo (r2 b0 b1 τ) Q → zw g Y_L_commons R_L_commons 2 [(0, (4, b0)), (1, (0, b1))] [] τ 0 0 Q) : ∀ (n : Nat) (a0 a1 a2 a3 a4 : Int) (σ : zS), zo (f_L_commons_20 r2 n a0 a1 a2 a3 a4 σ) Q → zw g Y_L_commons R_L_commons 20 [(0, (4, a0)), (1, (0, a1)), (2, (0, a2)), (3, (0, a3)), (4, (0, a4))] [] σ 0 0 Q := by
  intro n
  induction n with
  | zero => intro a0 a1 a2 a3 a4 σ h; obtain ⟨r, h, -⟩ := h; cases h
  | succ n ih =>
    intro a0 a1 a2 a3 a4 σ h
    unfold f_L_commons_20 at h
    refine r_iload 4 dL_commons_20 rfl ?_
    refine r_aload_n 0 dL_commons_22 rfl ?_
    refine r_iconst (v := 0) dL_commons_23 rfl rfl ?_
    refine r_callV (K' := Y_X7_property) (R' := R_X7_property) (idx := 104) (n := 1) (b := a0) (as := [(0, 0)]) (rest := [(0, a4)]) (C' := 0) (D' := 0) (cn := 7) rfl k0_X7_property kV_X7_property kl_L_104 ⟨by decide, by decide⟩ dL_commons_24 rfl rfl (Nat.le_of_ble_eq_true rfl) (by decide) (by decide) rfl h (fun r hr => m_X7_property hl0 ⟨r, hr, hr⟩) (fun x1 τ2 _ h => ?_)
    refine r_icmp_ge 95 dL_commons_27 (by decide) h (fun h => ?_) (fun h => ?_)
    · refine r_weak (L' := [(0, (4, a0)), (1, (0, a1)), (2, (0, a2)), (3, (0, a3))]) [0, 1, 2, 3] rfl ?_
      refine r_room (C' := 0) (D' := 0) (by omega) (by omega) ?_
      exact t_L_commons_95 hl0  r2 hr2 h
    · refine r_aload_n 0 dL_commons_30 rfl ?_
      refine r_iload 4 dL_commons_31 rfl ?_
      refine r_iload_n 1 dL_commons_33 rfl ?_
      refine r_callV (K' := Y_X7_own) (R' := R_X7_own) (idx := 218) (n := 2) (b := a0) (as := [(0, a4), (0, a1)]) (rest := []) (C' := 0) (D' := 0) (cn := 7) rfl k0_X7_own kV_X7_own kl_L_218 ⟨by decide, by decide⟩ dL_commons_34 rfl rfl (Nat.le_of_ble_eq_true rfl) (by decide) (by decide) rfl h (fun r hr => m_X7_own hl0 ⟨r, hr, hr⟩) (fun x3 τ4 _ h => ?_)
      refine r_istore (L' := [(5, (0, x3)), (0, (4, a0)), (1, (0, a1)), (2, (0, a2)), (3, (0, a3)), (4, (0, a4))]) dL_commons_37 (by decide) rfl ?_
      refine r_iload 0 dL_commons_39 rfl ?_
      refine r_if_ge 47 dL_commons_41 (by decide) h (fun h => ?_) (fun h => ?_)
      · refine r_iload_n 3 dL_commons_47 rfl ?_
        refine r_aload_n 1 dL_commons_48 rfl ?_
        refine r_iload 5 dL_commons_49 rfl ?_
        refine r_iload 0 dL_commons_51 rfl ?_
        refine r_aload_n 1 dL_commons_53 rfl ?_
        refine r_iload 5 dL_commons_54 rfl ?_
        refine r_iload 0 dL_commons_56 rfl ?_
        refine r_callS (K' := Y_L_drift) (R' := R_L_drift) (idx := 167) (n := 3) (as := [(4, a0), (0, a4), (0, x3)]) (rest := [(0, x3), (0, a4), (4, a0), (0, a2)]) (C' := 0) (D' := 0) rfl k0_L_drift wd_1165 kl_L_167 ⟨by decide, by decide⟩ dL_commons_58 rfl rfl (Nat.le_of_ble_eq_true rfl) (by decide) (by decide) h (fun r hr => m_L_drift hl0 ⟨r, hr, hr⟩) (fun x5 τ6 _ h => ?_)
        refine r_callS (K' := Y_L_low) (R' := R_L_low) (idx := 178) (n := 4) (as := [(4, a0), (0, a4), (0, x3), (0, x5)]) (rest := [(0, a2)]) (C' := 0) (D' := 0) rfl k0_L_low wd_1168 kl_L_178 ⟨by decide, by decide⟩ dL_commons_61 rfl rfl (Nat.le_of_ble_eq_true rfl) (by decide) (by decide) h (fun r hr => m_L_low hl0 ⟨r, hr, hr⟩) (fun x7 τ8 _ h => ?_)
        refine r_mmax mq_L_144 ⟨by decide, Nat.le_of_ble_eq_true rfl⟩ rfl dL_commons_64 ?_
        refine r_istore_n (L' := [(2, (0, (max a2 x7))), (5, (0, x3)), (0, (4, a0)), (1, (0, a1)), (3, (0, a3)), (4, (0, a4))]) dL_commons_67 (by decide) rfl ?_
        refine r_iload_n 4 dL_commons_68 rfl ?_
        refine r_aload_n 2 dL_commons_69 rfl ?_
        refine r_iload 5 dL_commons_70 rfl ?_
        refine r_iload 1 dL_commons_72 rfl ?_
        refine r_aload_n 2 dL_commons_74 rfl ?_
        refine r_iload 5 dL_commons_75 rfl ?_
        refine r_iload 1 dL_commons_77 rfl ?_
        refine r_callS (K' := Y_L_drift) (R' := R_L_drift) (idx := 167) (n := 3) (as := [(4, a0), (0, a4), (0, x3)]) (rest := [(0, x3), (0, a4), (4, a0), (0, a3)]) (C' := 0) (D' := 0) rfl k0_L_drift wd_1165 kl_L_167 ⟨by decide, by decide⟩ dL_commons_79 rfl rfl (Nat.le_of_ble_eq_true rfl) (by decide) (by decide) h (fun r hr => m_L_drift hl0 ⟨r, hr, hr⟩) (fun x9 τ10 _ h => ?_)
        refine r_callS (K' := Y_L_top) (R' := R_L_top) (idx := 182) (n := 4) (as := [(4, a0), (0, a4), (0, x3), (0, x9)]) (rest := [(0, a3)]) (C' := 0) (D' := 0) rfl k0_L_top wd_1172 kl_L_182 ⟨by decide, by decide⟩ dL_commons_82 rfl rfl (Nat.le_of_ble_eq_true rfl) (by decide) (by decide) h (fun r hr => m_L_top hl0 ⟨r, hr, hr⟩) (fun x11 τ12 _ h => ?_)
        refine r_mmin mq_L_30 ⟨by decide, Nat.le_of_ble_eq_true rfl⟩ rfl dL_commons_85 ?_
        refine r_istore_n (L' := [(3, (0, (min a3 x11))), (2, (0, (max a2 x7))), (5, (0, x3)), (0, (4, a0)), (1, (0, a1)), (4, (0, a4))]) dL_commons_88 (by decide) rfl ?_
        refine r_weak (L' := [(0, (4, a0)), (1, (0, a1)), (2, (0, (max a2 x7))), (3, (0, (min a3 x11))), (4, (0, a4))]) [3, 4, 1, 0, 5] rfl ?_
        refine r_room (C' := 0) (D' := 0) (by omega) (by omega) ?_
        exact t_L_commons_89 hl0  r2 (f_L_commons_20 r2 n) hr2 (fun b0 b1 b2 b3 b4 τ h => ih b0 b1 b2 b3 b4 τ h) h
      · refine r_goto 89 dL_commons_44 (by decide) ?_
        refine r_weak (L' := [(0, (4, a0)), (1, (0, a1)), (2, (0, a2)), (3, (0, a3)), (4, (0, a4))]) [1, 2, 3, 4, 5] rfl ?_
        refine r_room (C' := 0) (D' := 0) (by omega) (by omega) ?_
        exact t_L_commons_89 hl0  r2 (f_L_commons_20 r2 n) hr2 (fun b0 b1 b2 b3 b4 τ h => ih b0 b1 b2 b3 b4 τ h) h

set_option maxRecDepth 100000 in
set_option maxHeartbeats 4000000 in
theorem t_L_commons_2 {g : zF} (hl0 : g.2.2.2.1.stackTraces = false) {Q : zR × zS → Prop}   : ∀ (n : Nat) (a0 a1 : Int) (σ : zS), zo (f_L_commons_2  n a0 a1 σ) Q → zw g Y_L_commons R_L_commons 2 [(0, (4, a0)), (1, (0, a1))] [] σ 0 0 Q := by
  intro n
  induction n with
  | zero => intro a0 a1 σ h; obtain ⟨r, h, -⟩ := h; cases h
  | succ n ih =>
    intro a0 a1 σ h
    unfold f_L_commons_2 at h
    refine r_iload_n 1 dL_commons_2 rfl ?_
    refine r_aload_n 0 dL_commons_3 rfl ?_
    refine r_iconst (v := 1) dL_commons_4 rfl rfl ?_
    refine r_callV (K' := Y_X7_property) (R' := R_X7_property) (idx := 104) (n := 1) (b := a0) (as := [(0, 1)]) (rest := [(0, a1)]) (C' := 0) (D' := 0) (cn := 7) rfl k0_X7_property kV_X7_property kl_L_104 ⟨by decide, by decide⟩ dL_commons_5 rfl rfl (Nat.le_of_ble_eq_true rfl) (by decide) (by decide) rfl h (fun r hr => m_X7_property hl0 ⟨r, hr, hr⟩) (fun x1 τ2 _ h => ?_)
    refine r_icmp_ge 157 dL_commons_8 (by decide) h (fun h => ?_) (fun h => ?_)
    · refine r_weak (L' := [(0, (4, a0))]) [0] rfl ?_
      refine r_room (C' := 0) (D' := 0) (by omega) (by omega) ?_
      exact t_L_commons_157 hl0    h
    · refine r_iconst (v := (-1)) dL_commons_11 rfl rfl ?_
      refine r_istore_n (L' := [(2, (0, (-1))), (0, (4, a0)), (1, (0, a1))]) dL_commons_12 (by decide) rfl ?_
      refine r_sipush (v := 999) dL_commons_13 rfl rfl ?_
      refine r_istore_n (L' := [(3, (0, 999)), (2, (0, (-1))), (0, (4, a0)), (1, (0, a1))]) dL_commons_16 (by decide) rfl ?_
      refine r_iconst (v := 0) dL_commons_17 rfl rfl ?_
      refine r_istore (L' := [(4, (0, 0)), (3, (0, 999)), (2, (0, (-1))), (0, (4, a0)), (1, (0, a1))]) dL_commons_18 (by decide) rfl ?_
      refine r_weak (L' := [(0, (4, a0)), (1, (0, a1)), (2, (0, (-1))), (3, (0, 999)), (4, (0, 0))]) [3, 4, 2, 1, 0] rfl ?_
      refine r_room (C' := 0) (D' := 0) (by omega) (by omega) ?_
      exact t_L_commons_20 hl0  (f_L_commons_2  n) (fun b0 b1 τ h => ih b0 b1 τ h) zFU _ _ _ _ _ _ h

set_option maxRecDepth 100000 in
set_option maxHeartbeats 4000000 in
theorem t_L_commons {g : zF} (hl0 : g.2.2.2.1.stackTraces = false) {Q : zR × zS → Prop}   {a0 : Int} {σ : zS} (h : zo (f_L_commons  a0 σ) Q) : zw g Y_L_commons R_L_commons 0 [(0, (4, a0))] [] σ 0 0 Q := by
  unfold f_L_commons at h
  refine r_iconst (v := 0) dL_commons_0 rfl rfl ?_
  refine r_istore_n (L' := [(1, (0, 0)), (0, (4, a0))]) dL_commons_1 (by decide) rfl ?_
  refine r_weak (L' := [(0, (4, a0)), (1, (0, 0))]) [1, 0] rfl ?_
  refine r_room (C' := 0) (D' := 0) (by omega) (by omega) ?_
  exact t_L_commons_2 hl0    zFU _ _ _ h
theorem m_L_commons {g : zF} (hl0 : g.2.2.2.1.stackTraces = false) {Q : zR × zS → Prop} {a0 : Int} {σ : zS} (h : zo (f_L_commons a0 σ) Q) : zm g Y_L_commons R_L_commons [(4, a0)] σ Q := zm_of (by decide) rfl (Nat.le_of_ble_eq_true rfl) (t_L_commons hl0 h)

