/-! C 86: the law's cases out of the operations -/
section C86
variable {x : Int} {f7 f8 : zS → zFn} {tb : List (Nat × Int)} {S : zG} {μ : zM} {PP : zS → Prop}
theorem zg_thrown {m : Int} {τ : zS} (h : τ.1.1 m = some (0, 8)) : f_X8_thrown m τ = some (.inl (τ.2 m 0), τ) := by
  obtain ⟨S, μ⟩ := τ
  apply zo_un
  unfold f_X8_thrown
  refine zo_gf h (v := μ m 0) (j := 0) rfl (by omega) (by omega) ?_
  exact zo_rt rfl
theorem zg_n (h : zOp x (fun S1 μ3 => PP (S1, μ3)) f7 f8 tb S μ) : zcase (f7 (S, μ)) tb (fun v τ => @ite _ (zI v) (zID v) (zsi 4 (x + 78) 0 v τ fun τ => some (.inl 0, τ)) none) (fun c τ => zpm f8 (x + 66) τ fun b τ1 => zpm (f_X8_thrown (x + 66)) (x + 66) τ1 fun t τ2 => t = c ∧ (c = 0 → zo (zld 4 (x + 78) 0 τ2 fun y => if y = b then some ((.inl 1 : zR), τ2) else none) zQ1) ∧ PP τ2) := by
  rcases h with ⟨v, S1, μ1, e7, hv, hu⟩ | ⟨e, k, e7, hk, h0, hn⟩
  · obtain ⟨μ3, e8, ho, hl, ht, hr, hP⟩ := hu v
    refine ⟨_, e7, fun v9 τ9 hq => ?_, fun e9 τ9 hq => ?_⟩
    · obtain ⟨e1, e2⟩ : v9 = v ∧ τ9 = (S1, μ1) := by cases hq; exact ⟨rfl, rfl⟩
      rw [e1, e2]
      refine zo_pos hv ?_
      refine zo_si hl (by omega) ?_
      refine zo_rt ⟨0, _, rfl, ho, v, (S1, μ3), e8, ho, 0, (S1, μ3), ?_, rfl, fun _ => ?_, hP⟩
      · exact (zg_thrown (τ := (S1, μ3)) ho).trans (congrArg (fun z => some ((.inl z : zR), ((S1, μ3) : zS))) ht)
      · refine zo_ld hl (by omega) hr ?_
        exact zo_pos rfl (zo_rt rfl)
    · cases hq
  · refine ⟨_, e7, fun v9 τ9 hq => ?_, fun e9 τ9 hq => ?_⟩
    · cases hq
    · obtain ⟨e1, e2⟩ : e9 = e ∧ τ9 = (S, μ) := by cases hq; exact ⟨rfl, rfl⟩
      rw [e1, e2]
      refine ⟨k, hk, fun n h9 => ?_⟩
      obtain ⟨b, μ3, e8, ho, ht, hP⟩ := hn n h9
      refine ⟨ho, b, (zGn S n, μ3), e8, ho, k, (zGn S n, μ3), ?_, rfl, fun z => absurd z h0, hP⟩
      exact (zg_thrown (τ := (zGn S n, μ3)) ho).trans (congrArg (fun z => some ((.inl z : zR), ((zGn S n, μ3) : zS))) ht)
theorem zup_id {a i : Int} : zup μ a i (μ a i) = μ := by
  funext b j
  by_cases h1 : b = a
  · by_cases h2 : j = i
    · rw [h1, h2]; exact zup_at
    · rw [h1]; exact zup_j h2
  · rw [zup_c h1]
theorem zg_v (h : zOp x (fun S1 μ3 => PP (S1, μ3)) f7 f8 tb S μ) : zcase (f7 (S, μ)) tb (fun _ τ => some (.inl 0, τ)) (fun c τ => zpm f8 (x + 66) τ fun b τ1 => zpm (f_X8_thrown (x + 66)) (x + 66) τ1 fun t τ2 => t = c ∧ True ∧ PP τ2) := by
  rcases h with ⟨v, S1, μ1, e7, hv, hu⟩ | ⟨e, k, e7, hk, h0, hn⟩
  · obtain ⟨μ3, e8, ho, hl, ht, hr, hP⟩ := hu (μ1 (x + 78) 0)
    rw [zup_id] at e8
    refine ⟨_, e7, fun v9 τ9 hq => ?_, fun e9 τ9 hq => ?_⟩
    · obtain ⟨e1, e2⟩ : v9 = v ∧ τ9 = (S1, μ1) := by cases hq; exact ⟨rfl, rfl⟩
      rw [e2]
      refine zo_rt ⟨0, _, rfl, ho, v, (S1, μ3), e8, ho, 0, (S1, μ3), ?_, rfl, True.intro, hP⟩
      exact (zg_thrown (τ := (S1, μ3)) ho).trans (congrArg (fun z => some ((.inl z : zR), ((S1, μ3) : zS))) ht)
    · cases hq
  · refine ⟨_, e7, fun v9 τ9 hq => ?_, fun e9 τ9 hq => ?_⟩
    · cases hq
    · obtain ⟨e1, e2⟩ : e9 = e ∧ τ9 = (S, μ) := by cases hq; exact ⟨rfl, rfl⟩
      rw [e1, e2]
      refine ⟨k, hk, fun n h9 => ?_⟩
      obtain ⟨b, μ3, e8, ho, ht, hP⟩ := hn n h9
      refine ⟨ho, b, (zGn S n, μ3), e8, ho, k, (zGn S n, μ3), ?_, rfl, True.intro, hP⟩
      exact (zg_thrown (τ := (zGn S n, μ3)) ho).trans (congrArg (fun z => some ((.inl z : zR), ((zGn S n, μ3) : zS))) ht)
theorem zg_z (h : zOp x (fun S1 μ3 => PP (S1, μ3)) f7 f8 tb S μ) : zcase (f7 (S, μ)) tb (fun v τ => if v = 0 then @ite _ (zI 0) (zID 0) (zsi 4 (x + 78) 0 0 τ fun τ => some (.inl 0, τ)) none else @ite _ (zI 1) (zID 1) (zsi 4 (x + 78) 0 1 τ fun τ => some (.inl 0, τ)) none) (fun c τ => zpm f8 (x + 66) τ fun b τ1 => zpm (f_X8_thrown (x + 66)) (x + 66) τ1 fun t τ2 => t = c ∧ (c = 0 → zo (zld 4 (x + 78) 0 τ2 fun y => if y = zbz b then some ((.inl 1 : zR), τ2) else none) zQ1) ∧ PP τ2) := by
  rcases h with ⟨v, S1, μ1, e7, hv, hu⟩ | ⟨e, k, e7, hk, h0, hn⟩
  · obtain ⟨μ3, e8, ho, hl, ht, hr, hP⟩ := hu (zbz v)
    refine ⟨_, e7, fun v9 τ9 hq => ?_, fun e9 τ9 hq => ?_⟩
    · obtain ⟨e1, e2⟩ : v9 = v ∧ τ9 = (S1, μ1) := by cases hq; exact ⟨rfl, rfl⟩
      rw [e1, e2]
      have fin : zPc (fun c τ => zpm f8 (x + 66) τ fun b τ1 => zpm (f_X8_thrown (x + 66)) (x + 66) τ1 fun t τ2 => t = c ∧ (c = 0 → zo (zld 4 (x + 78) 0 τ2 fun y => if y = zbz b then some ((.inl 1 : zR), τ2) else none) zQ1) ∧ PP τ2) (.inl 0, (S1, zup μ1 (x + 78) 0 (zbz v))) := by
        refine ⟨0, _, rfl, ho, v, (S1, μ3), e8, ho, 0, (S1, μ3), ?_, rfl, fun _ => ?_, hP⟩
        · exact (zg_thrown (τ := (S1, μ3)) ho).trans (congrArg (fun z => some ((.inl z : zR), ((S1, μ3) : zS))) ht)
        · refine zo_ld hl (by omega) hr ?_
          exact zo_pos rfl (zo_rt rfl)
      refine zo_ite (fun z => ?_) (fun z => ?_)
      · rw [show zbz v = 0 from if_pos z] at fin
        refine zo_pos (by unfold zI; decide) ?_
        refine zo_si hl (by omega) ?_
        exact zo_rt fin
      · rw [show zbz v = 1 from if_neg z] at fin
        refine zo_pos (by unfold zI; decide) ?_
        refine zo_si hl (by omega) ?_
        exact zo_rt fin
    · cases hq
  · refine ⟨_, e7, fun v9 τ9 hq => ?_, fun e9 τ9 hq => ?_⟩
    · cases hq
    · obtain ⟨e1, e2⟩ : e9 = e ∧ τ9 = (S, μ) := by cases hq; exact ⟨rfl, rfl⟩
      rw [e1, e2]
      refine ⟨k, hk, fun n h9 => ?_⟩
      obtain ⟨b, μ3, e8, ho, ht, hP⟩ := hn n h9
      refine ⟨ho, b, (zGn S n, μ3), e8, ho, k, (zGn S n, μ3), ?_, rfl, fun z => absurd z h0, hP⟩
      exact (zg_thrown (τ := (zGn S n, μ3)) ho).trans (congrArg (fun z => some ((.inl z : zR), ((zGn S n, μ3) : zS))) ht)
theorem zg_f (h : zOpf x (fun S1 μ3 => PP (S1, μ3)) f7 f8 tb S μ) : zcase (f7 (S, μ)) tb (fun v τ => @ite _ (vf_n64 (FP.f2d (UInt32.ofNat v.toNat))) (by unfold vf_n64; infer_instance) (zsi 5 (x + 79) 0 (zfD v) τ fun τ => some (.inl 0, τ)) none) (fun c τ => zpm f8 (x + 66) τ fun b τ1 => zpm (f_X8_thrown (x + 66)) (x + 66) τ1 fun t τ2 => t = c ∧ (c = 0 → zo (zld 5 (x + 79) 0 τ2 fun y => @ite _ (vf_n64 (FP.f2d (UInt32.ofNat b.toNat))) (by unfold vf_n64; infer_instance) (if zdc .l y (zfD b) = 0 then some ((.inl 1 : zR), τ2) else none) none) zQ1) ∧ PP τ2) := by
  rcases h with ⟨v, S1, μ1, e7, hv, hu⟩ | ⟨e, k, e7, hk, h0, hn⟩
  · obtain ⟨μ3, e8, ho, hl, ht, hr, hP⟩ := hu (zfD v)
    refine ⟨_, e7, fun v9 τ9 hq => ?_, fun e9 τ9 hq => ?_⟩
    · obtain ⟨e1, e2⟩ : v9 = v ∧ τ9 = (S1, μ1) := by cases hq; exact ⟨rfl, rfl⟩
      rw [e1, e2]
      refine zo_pos hv.1 ?_
      refine zo_si hl (by omega) ?_
      refine zo_rt ⟨0, _, rfl, ho, v, (S1, μ3), e8, ho, 0, (S1, μ3), ?_, rfl, fun _ => ?_, hP⟩
      · exact (zg_thrown (τ := (S1, μ3)) ho).trans (congrArg (fun z => some ((.inl z : zR), ((S1, μ3) : zS))) ht)
      · refine zo_ld hl (by omega) hr ?_
        refine zo_pos hv.1 ?_
        exact zo_pos hv.2 (zo_rt rfl)
    · cases hq
  · refine ⟨_, e7, fun v9 τ9 hq => ?_, fun e9 τ9 hq => ?_⟩
    · cases hq
    · obtain ⟨e1, e2⟩ : e9 = e ∧ τ9 = (S, μ) := by cases hq; exact ⟨rfl, rfl⟩
      rw [e1, e2]
      refine ⟨k, hk, fun n h9 => ?_⟩
      obtain ⟨b, μ3, e8, ho, ht, hP⟩ := hn n h9
      refine ⟨ho, b, (zGn S n, μ3), e8, ho, k, (zGn S n, μ3), ?_, rfl, fun z => absurd z h0, hP⟩
      exact (zg_thrown (τ := (zGn S n, μ3)) ho).trans (congrArg (fun z => some ((.inl z : zR), ((zGn S n, μ3) : zS))) ht)
theorem zg_q (h : zOpq x (fun S1 μ3 => PP (S1, μ3)) f7 f8 S μ) : ∃ v τ, f7 (S, μ) = some (.inl v, τ) ∧ zpm f8 (x + 66) τ fun b τ1 => v = b ∧ PP τ1 := by
  obtain ⟨v, S1, μ1, e7, μ3, e8, ho, hP⟩ := h
  exact ⟨v, (S1, μ1), e7, ho, v, (S1, μ3), e8, rfl, hP⟩
end C86
section C86b
variable {B x c e : Int} {S : zG} {μ : zM} {M : zD} {L : List zD} {K : zKs} {inp out : List Int} {p : Nat → Int} {PP : zS → Prop}
theorem q_ok_0 (h : Wd B x S μ M L K inp out c e) (hB : B + 99 ≤ 1000000) (hP : zPP B x (fun S1 μ3 => PP (S1, μ3))) : q_L_0 x (x + 66) (x + 78) (x + 79) p PP (S, μ) := zg_n (o_append h hB hP)
theorem q_ok_1 (h : Wd B x S μ M L K inp out c e) (hB : B + 99 ≤ 1000000) (hP : zPP B x (fun S1 μ3 => PP (S1, μ3))) : q_L_1 x (x + 66) (x + 78) (x + 79) p PP (S, μ) := zg_v (o_truncate h hB hP)
theorem q_ok_2 (h : Wd B x S μ M L K inp out c e) (hB : B + 99 ≤ 1000000) (hP : zPP B x (fun S1 μ3 => PP (S1, μ3))) : q_L_2 x (x + 66) (x + 78) (x + 79) p PP (S, μ) := zg_q (o_load h hB hP)
theorem q_ok_3 (h : Wd B x S μ M L K inp out c e) (hB : B + 99 ≤ 1000000) (hP : zPP B x (fun S1 μ3 => PP (S1, μ3))) : q_L_3 x (x + 66) (x + 78) (x + 79) p PP (S, μ) := zg_q (o_errorCode h hB hP)
theorem q_ok_4 (h : Wd B x S μ M L K inp out c e) (hB : B + 99 ≤ 1000000) (hP : zPP B x (fun S1 μ3 => PP (S1, μ3))) : q_L_4 x (x + 66) (x + 78) (x + 79) p PP (S, μ) := zg_q (o_errorPosition h hB hP)
theorem q_ok_5 (h : Wd B x S μ M L K inp out c e) (hB : B + 99 ≤ 1000000) (hP : zPP B x (fun S1 μ3 => PP (S1, μ3))) : q_L_5 x (x + 66) (x + 78) (x + 79) p PP (S, μ) := zg_q (o_findAgent h hB hP)
theorem q_ok_6 (h : Wd B x S μ M L K inp out c e) (hB : B + 99 ≤ 1000000) (hP : zPP B x (fun S1 μ3 => PP (S1, μ3))) : q_L_6 x (x + 66) (x + 78) (x + 79) p PP (S, μ) := zg_q (o_findWay h hB hP)
theorem q_ok_7 (h : Wd B x S μ M L K inp out c e) (hB : B + 99 ≤ 1000000) (hP : zPP B x (fun S1 μ3 => PP (S1, μ3))) : q_L_7 x (x + 66) (x + 78) (x + 79) p PP (S, μ) := zg_n (o_property h (hP.q hB))
theorem q_ok_8 (h : Wd B x S μ M L K inp out c e) (hB : B + 99 ≤ 1000000) (hP : zPP B x (fun S1 μ3 => PP (S1, μ3))) : q_L_8 x (x + 66) (x + 78) (x + 79) p PP (S, μ) := zg_n (o_trust h (hP.q hB))
theorem q_ok_9 (h : Wd B x S μ M L K inp out c e) (hB : B + 99 ≤ 1000000) (hP : zPP B x (fun S1 μ3 => PP (S1, μ3))) : q_L_9 x (x + 66) (x + 78) (x + 79) p PP (S, μ) := zg_n (o_neighbors h (hP.q hB))
theorem q_ok_10 (h : Wd B x S μ M L K inp out c e) (hB : B + 99 ≤ 1000000) (hP : zPP B x (fun S1 μ3 => PP (S1, μ3))) : q_L_10 x (x + 66) (x + 78) (x + 79) p PP (S, μ) := zg_n (o_distance h (hP.q hB))
theorem q_ok_11 (h : Wd B x S μ M L K inp out c e) (hB : B + 99 ≤ 1000000) (hP : zPP B x (fun S1 μ3 => PP (S1, μ3))) : q_L_11 x (x + 66) (x + 78) (x + 79) p PP (S, μ) := zg_n (o_bottleneck h (hP.q hB))
theorem q_ok_12 (h : Wd B x S μ M L K inp out c e) (hB : B + 99 ≤ 1000000) (hP : zPP B x (fun S1 μ3 => PP (S1, μ3))) : q_L_12 x (x + 66) (x + 78) (x + 79) p PP (S, μ) := zg_n (o_mostTrusted h (hP.q hB))
theorem q_ok_13 (h : Wd B x S μ M L K inp out c e) (hB : B + 99 ≤ 1000000) (hP : zPP B x (fun S1 μ3 => PP (S1, μ3))) : q_L_13 x (x + 66) (x + 78) (x + 79) p PP (S, μ) := zg_n (o_reports h (hP.q hB))
theorem q_ok_14 (h : Wd B x S μ M L K inp out c e) (hB : B + 99 ≤ 1000000) (hP : zPP B x (fun S1 μ3 => PP (S1, μ3))) : q_L_14 x (x + 66) (x + 78) (x + 79) p PP (S, μ) := zg_n (o_report h (hP.q hB))
theorem q_ok_15 (h : Wd B x S μ M L K inp out c e) (hB : B + 99 ≤ 1000000) (hP : zPP B x (fun S1 μ3 => PP (S1, μ3))) : q_L_15 x (x + 66) (x + 78) (x + 79) p PP (S, μ) := zg_n (o_status h (hP.q hB))
theorem q_ok_16 (h : Wd B x S μ M L K inp out c e) (hB : B + 99 ≤ 1000000) (hP : zPP B x (fun S1 μ3 => PP (S1, μ3))) : q_L_16 x (x + 66) (x + 78) (x + 79) p PP (S, μ) := zg_n (o_moved h (hP.q hB))
theorem q_ok_17 (h : Wd B x S μ M L K inp out c e) (hB : B + 99 ≤ 1000000) (hP : zPP B x (fun S1 μ3 => PP (S1, μ3))) : q_L_17 x (x + 66) (x + 78) (x + 79) p PP (S, μ) := zg_n (o_own h (hP.q hB))
theorem q_ok_18 (h : Wd B x S μ M L K inp out c e) (hB : B + 99 ≤ 1000000) (hP : zPP B x (fun S1 μ3 => PP (S1, μ3))) : q_L_18 x (x + 66) (x + 78) (x + 79) p PP (S, μ) := zg_n (o_belief h (hP.q hB))
theorem q_ok_19 (h : Wd B x S μ M L K inp out c e) (hB : B + 99 ≤ 1000000) (hP : zPP B x (fun S1 μ3 => PP (S1, μ3))) : q_L_19 x (x + 66) (x + 78) (x + 79) p PP (S, μ) := zg_n (o_sources h (hP.q hB))
theorem q_ok_20 (h : Wd B x S μ M L K inp out c e) (hB : B + 99 ≤ 1000000) (hP : zPP B x (fun S1 μ3 => PP (S1, μ3))) : q_L_20 x (x + 66) (x + 78) (x + 79) p PP (S, μ) := zg_n (o_contradicted h (hP.q hB))
theorem q_ok_21 (h : Wd B x S μ M L K inp out c e) (hB : B + 99 ≤ 1000000) (hP : zPP B x (fun S1 μ3 => PP (S1, μ3))) : q_L_21 x (x + 66) (x + 78) (x + 79) p PP (S, μ) := zg_n (o_majority h (hP.q hB))
theorem q_ok_22 (h : Wd B x S μ M L K inp out c e) (hB : B + 99 ≤ 1000000) (hP : zPP B x (fun S1 μ3 => PP (S1, μ3))) : q_L_22 x (x + 66) (x + 78) (x + 79) p PP (S, μ) := zg_n (o_majorityBound h (hP.q hB))
theorem q_ok_23 (h : Wd B x S μ M L K inp out c e) (hB : B + 99 ≤ 1000000) (hP : zPP B x (fun S1 μ3 => PP (S1, μ3))) : q_L_23 x (x + 66) (x + 78) (x + 79) p PP (S, μ) := zg_n (o_best h (hP.q hB))
theorem q_ok_24 (h : Wd B x S μ M L K inp out c e) (hB : B + 99 ≤ 1000000) (hP : zPP B x (fun S1 μ3 => PP (S1, μ3))) : q_L_24 x (x + 66) (x + 78) (x + 79) p PP (S, μ) := zg_n (o_rivals h (hP.q hB))
theorem q_ok_25 (h : Wd B x S μ M L K inp out c e) (hB : B + 99 ≤ 1000000) (hP : zPP B x (fun S1 μ3 => PP (S1, μ3))) : q_L_25 x (x + 66) (x + 78) (x + 79) p PP (S, μ) := zg_n (o_nextProbe h (hP.q hB))
theorem q_ok_26 (h : Wd B x S μ M L K inp out c e) (hB : B + 99 ≤ 1000000) (hP : zPP B x (fun S1 μ3 => PP (S1, μ3))) : q_L_26 x (x + 66) (x + 78) (x + 79) p PP (S, μ) := zg_n (o_regret h (hP.q hB))
theorem q_ok_27 (h : Wd B x S μ M L K inp out c e) (hB : B + 99 ≤ 1000000) (hP : zPP B x (fun S1 μ3 => PP (S1, μ3))) : q_L_27 x (x + 66) (x + 78) (x + 79) p PP (S, μ) := zg_n (o_saved h (hP.q hB))
theorem q_ok_28 (h : Wd B x S μ M L K inp out c e) (hB : B + 99 ≤ 1000000) (hP : zPP B x (fun S1 μ3 => PP (S1, μ3))) : q_L_28 x (x + 66) (x + 78) (x + 79) p PP (S, μ) := zg_n (o_agreeing h (hP.q hB))
theorem q_ok_29 (h : Wd B x S μ M L K inp out c e) (hB : B + 99 ≤ 1000000) (hP : zPP B x (fun S1 μ3 => PP (S1, μ3))) : q_L_29 x (x + 66) (x + 78) (x + 79) p PP (S, μ) := zg_n (o_common h (hP.q hB))
theorem q_ok_30 (h : Wd B x S μ M L K inp out c e) (hB : B + 99 ≤ 1000000) (hP : zPP B x (fun S1 μ3 => PP (S1, μ3))) : q_L_30 x (x + 66) (x + 78) (x + 79) p PP (S, μ) := zg_n (o_account h (hP.q hB))
theorem q_ok_31 (h : Wd B x S μ M L K inp out c e) (hB : B + 99 ≤ 1000000) (hP : zPP B x (fun S1 μ3 => PP (S1, μ3))) : q_L_31 x (x + 66) (x + 78) (x + 79) p PP (S, μ) := zg_n (o_message h (hP.q hB))
theorem q_ok_32 (h : Wd B x S μ M L K inp out c e) (hB : B + 99 ≤ 1000000) (hP : zPP B x (fun S1 μ3 => PP (S1, μ3))) : q_L_32 x (x + 66) (x + 78) (x + 79) p PP (S, μ) := zg_f (o_standing h (hP.q hB))
theorem q_ok_33 (h : Wd B x S μ M L K inp out c e) (hB : B + 99 ≤ 1000000) (hP : zPP B x (fun S1 μ3 => PP (S1, μ3))) : q_L_33 x (x + 66) (x + 78) (x + 79) p PP (S, μ) := zg_n (o_beliefIf h (hP.q hB))
theorem q_ok_34 (h : Wd B x S μ M L K inp out c e) (hB : B + 99 ≤ 1000000) (hP : zPP B x (fun S1 μ3 => PP (S1, μ3))) : q_L_34 x (x + 66) (x + 78) (x + 79) p PP (S, μ) := zg_n (o_trustIf h (hP.q hB))
theorem q_ok_35 (h : Wd B x S μ M L K inp out c e) (hB : B + 99 ≤ 1000000) (hP : zPP B x (fun S1 μ3 => PP (S1, μ3))) : q_L_35 x (x + 66) (x + 78) (x + 79) p PP (S, μ) := zg_n (o_informed h (hP.q hB))
theorem q_ok_36 (h : Wd B x S μ M L K inp out c e) (hB : B + 99 ≤ 1000000) (hP : zPP B x (fun S1 μ3 => PP (S1, μ3))) : q_L_36 x (x + 66) (x + 78) (x + 79) p PP (S, μ) := zg_n (o_widthAfter h hB (hP.q hB))
theorem q_ok_37 (h : Wd B x S μ M L K inp out c e) (hB : B + 99 ≤ 1000000) (hP : zPP B x (fun S1 μ3 => PP (S1, μ3))) : q_L_37 x (x + 66) (x + 78) (x + 79) p PP (S, μ) := zg_n (o_widthWithout h (hP.q hB))
theorem q_ok_38 (h : Wd B x S μ M L K inp out c e) (hB : B + 99 ≤ 1000000) (hP : zPP B x (fun S1 μ3 => PP (S1, μ3))) : q_L_38 x (x + 66) (x + 78) (x + 79) p PP (S, μ) := zg_n (o_mostUseful h (hP.q hB))
theorem q_ok_39 (h : Wd B x S μ M L K inp out c e) (hB : B + 99 ≤ 1000000) (hP : zPP B x (fun S1 μ3 => PP (S1, μ3))) : q_L_39 x (x + 66) (x + 78) (x + 79) p PP (S, μ) := zg_n (o_bestThen h (hP.q hB))
theorem q_ok_40 (h : Wd B x S μ M L K inp out c e) (hB : B + 99 ≤ 1000000) (hP : zPP B x (fun S1 μ3 => PP (S1, μ3))) : q_L_40 x (x + 66) (x + 78) (x + 79) p PP (S, μ) := zg_n (o_probe h hB hP)
theorem q_ok_41 (h : Wd B x S μ M L K inp out c e) (hB : B + 99 ≤ 1000000) (hP : zPP B x (fun S1 μ3 => PP (S1, μ3))) : q_L_41 x (x + 66) (x + 78) (x + 79) p PP (S, μ) := zg_n (o_share h hB hP)
theorem q_ok_42 (h : Wd B x S μ M L K inp out c e) (hB : B + 99 ≤ 1000000) (hP : zPP B x (fun S1 μ3 => PP (S1, μ3))) : q_L_42 x (x + 66) (x + 78) (x + 79) p PP (S, μ) := zg_n (o_relay h hB hP)
theorem q_ok_43 (h : Wd B x S μ M L K inp out c e) (hB : B + 99 ≤ 1000000) (hP : zPP B x (fun S1 μ3 => PP (S1, μ3))) : q_L_43 x (x + 66) (x + 78) (x + 79) p PP (S, μ) := zg_n (o_deliver h hB hP)
theorem q_ok_44 (h : Wd B x S μ M L K inp out c e) (hB : B + 99 ≤ 1000000) (hP : zPP B x (fun S1 μ3 => PP (S1, μ3))) : q_L_44 x (x + 66) (x + 78) (x + 79) p PP (S, μ) := zg_n (o_lose h hB hP)
theorem q_ok_45 (h : Wd B x S μ M L K inp out c e) (hB : B + 99 ≤ 1000000) (hP : zPP B x (fun S1 μ3 => PP (S1, μ3))) : q_L_45 x (x + 66) (x + 78) (x + 79) p PP (S, μ) := zg_n (o_exchange h hB hP)
theorem q_ok_46 (h : Wd B x S μ M L K inp out c e) (hB : B + 99 ≤ 1000000) (hP : zPP B x (fun S1 μ3 => PP (S1, μ3))) : q_L_46 x (x + 66) (x + 78) (x + 79) p PP (S, μ) := zg_n (o_pass h hB hP)
theorem q_ok_47 (h : Wd B x S μ M L K inp out c e) (hB : B + 99 ≤ 1000000) (hP : zPP B x (fun S1 μ3 => PP (S1, μ3))) : q_L_47 x (x + 66) (x + 78) (x + 79) p PP (S, μ) := zg_z (o_link h hB hP)
theorem q_ok_48 (h : Wd B x S μ M L K inp out c e) (hB : B + 99 ≤ 1000000) (hP : zPP B x (fun S1 μ3 => PP (S1, μ3))) : q_L_48 x (x + 66) (x + 78) (x + 79) p PP (S, μ) := zg_n (o_setTrust h hB hP)
theorem q_ok_49 (h : Wd B x S μ M L K inp out c e) (hB : B + 99 ≤ 1000000) (hP : zPP B x (fun S1 μ3 => PP (S1, μ3))) : q_L_49 x (x + 66) (x + 78) (x + 79) p PP (S, μ) := zg_n (o_setRule h hB hP)
theorem q_ok_50 (h : Wd B x S μ M L K inp out c e) (hB : B + 99 ≤ 1000000) (hP : zPP B x (fun S1 μ3 => PP (S1, μ3))) : q_L_50 x (x + 66) (x + 78) (x + 79) p PP (S, μ) := zg_n (o_forget h hB hP)
theorem q_ok_51 (h : Wd B x S μ M L K inp out c e) (hB : B + 99 ≤ 1000000) (hP : zPP B x (fun S1 μ3 => PP (S1, μ3))) : q_L_51 x (x + 66) (x + 78) (x + 79) p PP (S, μ) := zg_n (o_cleanse h hB hP)
theorem q_ok_52 (h : Wd B x S μ M L K inp out c e) (hB : B + 99 ≤ 1000000) (hP : zPP B x (fun S1 μ3 => PP (S1, μ3))) : q_L_52 x (x + 66) (x + 78) (x + 79) p PP (S, μ) := zg_n (o_keep h hB hP)
theorem q_ok_53 (h : Wd B x S μ M L K inp out c e) (hB : B + 99 ≤ 1000000) (hP : zPP B x (fun S1 μ3 => PP (S1, μ3))) : q_L_53 x (x + 66) (x + 78) (x + 79) p PP (S, μ) := zg_n (o_restore h hB hP)
theorem q_ok_54 (h : Wd B x S μ M L K inp out c e) (hB : B + 99 ≤ 1000000) (hP : zPP B x (fun S1 μ3 => PP (S1, μ3))) : q_L_54 x (x + 66) (x + 78) (x + 79) p PP (S, μ) := zg_n (o_undo h hB hP)
theorem q_ok_55 (h : Wd B x S μ M L K inp out c e) (hB : B + 99 ≤ 1000000) (hP : zPP B x (fun S1 μ3 => PP (S1, μ3))) : q_L_55 x (x + 66) (x + 78) (x + 79) p PP (S, μ) := zg_q (o_undoCount h hB hP)
theorem q_ok_56 (h : Wd B x S μ M L K inp out c e) (hB : B + 99 ≤ 1000000) (hP : zPP B x (fun S1 μ3 => PP (S1, μ3))) : q_L_56 x (x + 66) (x + 78) (x + 79) p PP (S, μ) := zg_n (o_writeBeliefs h hB hP)
theorem q_ok_57 (h : Wd B x S μ M L K inp out c e) (hB : B + 99 ≤ 1000000) (hP : zPP B x (fun S1 μ3 => PP (S1, μ3))) : q_L_57 x (x + 66) (x + 78) (x + 79) p PP (S, μ) := zg_n (o_writeReports h hB hP)
theorem q_ok_58 (h : Wd B x S μ M L K inp out c e) (hB : B + 99 ≤ 1000000) (hP : zPP B x (fun S1 μ3 => PP (S1, μ3))) : q_L_58 x (x + 66) (x + 78) (x + 79) p PP (S, μ) := zg_n (o_outputByte h (hP.q hB))
theorem q_all (h : Wd B x S μ M L K inp out c e) (hB : B + 99 ≤ 1000000) (hP : zPP B x (fun S1 μ3 => PP (S1, μ3))) : ∀ k : Nat, pLc x (x + 66) (x + 78) (x + 79) k p PP (S, μ)
  | 0 => q_ok_0 (p := p) h hB hP
  | 1 => q_ok_1 (p := p) h hB hP
  | 2 => q_ok_2 (p := p) h hB hP
  | 3 => q_ok_3 (p := p) h hB hP
  | 4 => q_ok_4 (p := p) h hB hP
  | 5 => q_ok_5 (p := p) h hB hP
  | 6 => q_ok_6 (p := p) h hB hP
  | 7 => q_ok_7 (p := p) h hB hP
  | 8 => q_ok_8 (p := p) h hB hP
  | 9 => q_ok_9 (p := p) h hB hP
  | 10 => q_ok_10 (p := p) h hB hP
  | 11 => q_ok_11 (p := p) h hB hP
  | 12 => q_ok_12 (p := p) h hB hP
  | 13 => q_ok_13 (p := p) h hB hP
  | 14 => q_ok_14 (p := p) h hB hP
  | 15 => q_ok_15 (p := p) h hB hP
  | 16 => q_ok_16 (p := p) h hB hP
  | 17 => q_ok_17 (p := p) h hB hP
  | 18 => q_ok_18 (p := p) h hB hP
  | 19 => q_ok_19 (p := p) h hB hP
  | 20 => q_ok_20 (p := p) h hB hP
  | 21 => q_ok_21 (p := p) h hB hP
  | 22 => q_ok_22 (p := p) h hB hP
  | 23 => q_ok_23 (p := p) h hB hP
  | 24 => q_ok_24 (p := p) h hB hP
  | 25 => q_ok_25 (p := p) h hB hP
  | 26 => q_ok_26 (p := p) h hB hP
  | 27 => q_ok_27 (p := p) h hB hP
  | 28 => q_ok_28 (p := p) h hB hP
  | 29 => q_ok_29 (p := p) h hB hP
  | 30 => q_ok_30 (p := p) h hB hP
  | 31 => q_ok_31 (p := p) h hB hP
  | 32 => q_ok_32 (p := p) h hB hP
  | 33 => q_ok_33 (p := p) h hB hP
  | 34 => q_ok_34 (p := p) h hB hP
  | 35 => q_ok_35 (p := p) h hB hP
  | 36 => q_ok_36 (p := p) h hB hP
  | 37 => q_ok_37 (p := p) h hB hP
  | 38 => q_ok_38 (p := p) h hB hP
  | 39 => q_ok_39 (p := p) h hB hP
  | 40 => q_ok_40 (p := p) h hB hP
  | 41 => q_ok_41 (p := p) h hB hP
  | 42 => q_ok_42 (p := p) h hB hP
  | 43 => q_ok_43 (p := p) h hB hP
  | 44 => q_ok_44 (p := p) h hB hP
  | 45 => q_ok_45 (p := p) h hB hP
  | 46 => q_ok_46 (p := p) h hB hP
  | 47 => q_ok_47 (p := p) h hB hP
  | 48 => q_ok_48 (p := p) h hB hP
  | 49 => q_ok_49 (p := p) h hB hP
  | 50 => q_ok_50 (p := p) h hB hP
  | 51 => q_ok_51 (p := p) h hB hP
  | 52 => q_ok_52 (p := p) h hB hP
  | 53 => q_ok_53 (p := p) h hB hP
  | 54 => q_ok_54 (p := p) h hB hP
  | 55 => q_ok_55 (p := p) h hB hP
  | 56 => q_ok_56 (p := p) h hB hP
  | 57 => q_ok_57 (p := p) h hB hP
  | 58 => q_ok_58 (p := p) h hB hP
  | k + 59 => (hP.q hB) S μ h
/-- whatever the script, from every world that is as it should be -/
theorem run_all {g : zF} : ∀ (n : Nat) (i B : Int) (S : zG) (μ : zM) (M : zD) (L : List zD) (K : zKs) (inp out : List Int) (c e : Int), i ≤ (zsl9 g : Int) → (zsl9 g : Int) + 6 ≤ i + 6 * (n : Int) → B + 99 * (n : Int) ≤ 1000000 → Wd B x S μ M L K inp out c e → pLl g x (x + 66) (x + 78) (x + 79) n i (S, μ) := by
  intro n
  induction n with
  | zero => intro i B S μ M L K inp out c e h1 h2 h3 h; exact absurd h2 (by omega)
  | succ n ih =>
    intro i B S μ M L K inp out c e h1 h2 h3 h
    by_cases h9 : (zsl9 g : Int) < i + 6
    · exact Or.inl h9
    · refine Or.inr ⟨h.a.C.o, ?_⟩
      exact q_all (PP := fun τ => pLl g x (x + 66) (x + 78) (x + 79) n (i + 6) τ) h (by omega) (fun S1 μ3 M1 L1 K1 inp1 out1 c1 e1 hw => ih (i + 6) (B + 99) S1 μ3 M1 L1 K1 inp1 out1 c1 e1 (by omega) (by omega) (by omega) hw) _
end C86b
