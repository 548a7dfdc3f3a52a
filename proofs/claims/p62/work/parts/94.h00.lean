/-! R7: draws; one act -/
section R7
variable {B x : Int} {S S1 : zG} {μ μ' μ0 μ1 μ2 : zM} {M : zD} {L : List zD} {K : zKs} {inp out : List Int} {c p a w r : Int} {H : Int → zS → zFn} {Q : zR × zS → Prop} {k i : Nat} {q : zP} {X Y Z : zEn} {e f : Nat × zP} {A : zFn}

variable {g : zF} {n : Int} {σ : zS}
theorem zand_m (v : Int) : 0 ≤ zand v 2147483647 ∧ zand v 2147483647 ≤ 2147483647 := by
  unfold zand
  have h0 : (Int32.ofInt 2147483647).toBitVec = 2147483647#32 := by decide +kernel
  have h1 : (Int32.ofInt v &&& Int32.ofInt 2147483647).toInt = ((Int32.ofInt v).toBitVec &&& 2147483647#32).toInt := by
    rw [← h0]
    rfl
  have h2 : ((Int32.ofInt v).toBitVec &&& 2147483647#32).toNat ≤ 2147483647 := by
    rw [BitVec.toNat_and]
    exact Nat.and_le_right
  rw [h1, BitVec.toInt_eq_toNat_of_lt (by omega)]
  omega
/-- what the script says at place k, below n -/
def zdw (g : zF) (k n : Int) : Int := Int.tmod (zand (if k < (zsl9 g : Int) then zscr g k.toNat else 0) 2147483647) n
theorem dw_rng (g : zF) (k : Int) (hn : 0 < n) : 0 ≤ zdw g k n ∧ zdw g k n < n := by
  have h := zand_m (if k < (zsl9 g : Int) then zscr g k.toNat else 0)
  exact ⟨Int.tmod_nonneg _ h.1, Int.tmod_lt_of_pos _ hn⟩
theorem l_draw (hg : (zsl9 g : Int) < 2147483648) {k : Int} (hk : 0 ≤ k) (hn : 0 < n) : f_L_draw g 200 k n σ = some (.inl (zdw g k n), σ) := by
  apply zo_un
  refine j_L_draw ?_
  unfold zsql
  refine zo_pos ⟨rfl, hg⟩ ?_
  unfold zdw
  by_cases h : k < (zsl9 g : Int)
  · rw [if_pos h]
    refine zo_pos h ?_
    unfold zsq
    refine zo_pos ⟨rfl, hg, hk, h⟩ ?_
    refine zo_neg (by omega) ?_
    exact zo_rt rfl
  · rw [if_neg h]
    refine zo_neg h ?_
    refine zo_neg (by omega) ?_
    exact zo_rt rfl
theorem y_draw (hg : (zsl9 g : Int) < 2147483648) {k : Int} (hk : 0 ≤ k) (hn : 0 < n) (h : zo (H (zdw g k n) σ) Q) : zo (zbn (f_L_draw g 200 k n σ) H) Q := zo_bn (l_draw hg hk hn) h
theorem zo_tdf {d : zFn} {v : Int} : ∀ (As : List zFn) (lo : Int), lo + (As.length : Int) ≤ v → zo d Q → zo (ztb v lo As d) Q := by
  intro As
  induction As with
  | nil => exact fun _ _ q => q
  | cons X As ih =>
    intro lo h q
    have hl : (X :: As).length = As.length + 1 := rfl
    show zo (if v = lo then X else ztb v (lo + 1) As d) Q
    exact zo_neg (by omega) (ih (lo + 1) (by omega) q)
/-- the law goes on, in some world -/
def Da (B x : Int) (K : zKs) (inp out : List Int) (c p : Int) (r : zR × zS) : Prop := ∃ v S' μ' M' L', r = (.inl v, (S', μ')) ∧ Wd B x S' μ' M' L' K inp out c p
theorem da_op {M' : zD} {L' : List zD} {v : Int} (e : ∃ S1 μ2, A = some (.inl v, (S1, μ2)) ∧ Wd B x S1 μ2 M' L' K inp out c p) : zo (zbn A fun x1 τ2 => some (.inl x1, τ2)) (Da B x K inp out c p) := by
  obtain ⟨S1, μ2, e1, h1⟩ := e
  exact zo_bn e1 (zo_rt ⟨v, S1, μ2, M', L', rfl, h1⟩)
theorem Wd.up (h : Wd B x S μ M L K inp out c p) (hB : B + 99 ≤ 1000000) : Wd (B + 99) x S μ M L K inp out c p := Wd.mk ⟨h.a, h.w.same (by omega) hB⟩
theorem zsv_1 {w v : Int} (hw : 0 ≤ w ∧ w < 5) (hv : 1 ≤ v ∧ v ≤ 3) : zsv 0 w ≤ v ∧ v ≤ zsv 1 w := by
  have hc : w = 0 ∨ w = 1 ∨ w = 2 ∨ w = 3 ∨ w = 4 := by omega
  rcases hc with z | z | z | z | z <;> subst z <;> simp only [zsv] <;> omega
theorem act_link (h : Wd B x S μ M L K inp out c p) (hB : B + 99 ≤ 1000000) {o on : Int} (ha : 0 ≤ a ∧ a < (M.an.length : Int)) (ho : 0 ≤ o ∧ o < (M.an.length : Int)) (hne : ¬ a = o) : zo (f_L_act_228 g x a o on (S, μ)) (Da (B + 99) x K inp out c p) := by
  refine j_L_act_228 ?_
  refine zo_ob h.a.C.o (by omega) ?_
  obtain ⟨S1, μ2, e1, h1⟩ := q_link (on := on) h hB ha ho hne
  refine zo_bn e1 ?_
  refine zo_ite (fun _ => ?_) (fun _ => ?_)
  · exact zo_rt ⟨_, _, _, _, _, rfl, h1⟩
  · exact zo_rt ⟨_, _, _, _, _, rfl, h1⟩
theorem l_act (hg : (zsl9 g : Int) < 2147483648) (h0 : Wd B x S μ0 M L K inp out c p) (hB : B + 99 ≤ 1000000) {k : Int} (hk : 0 ≤ k ∧ k < 1000) : zo (f_L_act g x 200 k (S, μ0)) (Da (B + 99) x K inp out c p) := by
  have W := h0.w.M
  refine j_L_act ?_
  refine y_property0 h0.sd (fun μ1 h1 => ?_)
  refine zo_ite (fun _ => zo_rt ⟨_, _, _, _, _, rfl, h1.1.up hB⟩) (fun hn => ?_)
  refine y_property1 h1 (fun μ2 h2 => ?_)
  refine zo_ite (fun _ => zo_rt ⟨_, _, _, _, _, rfl, h2.1.up hB⟩) (fun hm => ?_)
  rw [w32_e (z := k + 1) (by omega), w32_e (z := k + 2) (by omega), w32_e (z := k + 3) (by omega), w32_e (z := k + 4) (by omega), w32_e (z := k + 5) (by omega)]
  refine y_property0 h2 (fun μ3 h3 => ?_)
  have ra := dw_rng (n := (M.an.length : Int)) g k (by omega)
  refine y_draw hg (by omega) (by omega) ?_
  refine y_property0 h3 (fun μ4 h4 => ?_)
  have ro := dw_rng (n := (M.an.length : Int)) g (k + 1) (by omega)
  refine y_draw hg (by omega) (by omega) ?_
  refine y_property1 h4 (fun μ5 h5 => ?_)
  have rw' := dw_rng (n := (M.wn.length : Int)) g (k + 2) (by omega)
  refine y_draw hg (by omega) (by omega) ?_
  have rl := dw_rng (n := 300) g (k + 3) (by decide)
  refine y_draw hg (by omega) (by omega) ?_
  have rc := dw_rng (n := 12) g (k + 4) (by decide)
  refine y_draw hg (by omega) (by omega) ?_
  generalize zdw g k (M.an.length : Int) = a at ra
  generalize zdw g (k + 1) (M.an.length : Int) = o at ro
  generalize zdw g (k + 2) (M.wn.length : Int) = w at rw'
  generalize zdw g (k + 3) 300 = lo at rl
  generalize zdw g (k + 4) 12 = cs at rc
  have h := h5.1
  have r120 := dw_rng (n := 120) g (k + 5) (by decide)
  have r9 := dw_rng (n := 9) g (k + 5) (by decide)
  have r6 := dw_rng (n := 6) g (k + 5) (by decide)
  have r5 := dw_rng (n := 5) g (k + 5) (by decide)
  have r2 := dw_rng (n := 2) g (k + 5) (by decide)
  have e3 := Int.tmod_nonneg 3 rl.1
  have e4 := Int.tmod_lt_of_pos lo (show (0 : Int) < 3 by decide)
  have hc : cs = 0 ∨ cs = 1 ∨ cs = 2 ∨ cs = 3 ∨ cs = 4 ∨ cs = 5 ∨ cs = 6 ∨ cs = 7 ∨ cs = 8 ∨ cs = 9 ∨ cs = 10 ∨ cs = 11 := by omega
  rcases hc with z | z | z | z | z | z | z | z | z | z | z | z <;> subst z
  · refine zo_tb _ 0 0 rfl (by decide) ?_
    refine y_draw hg (by omega) (by decide) ?_
    rw [w32_e (z := lo + zdw g (k + 5) 120) (by omega)]
    refine zo_ob h.a.C.o (by omega) ?_
    exact da_op (q_probe h hB ra rw' (by omega))
  · refine zo_tb _ 0 1 rfl (by decide) ?_
    refine y_draw hg (by omega) (by decide) ?_
    rw [w32_e (z := lo + zdw g (k + 5) 120) (by omega)]
    refine zo_ob h.a.C.o (by omega) ?_
    exact da_op (q_probe h hB ra rw' (by omega))
  · refine zo_tb _ 0 2 rfl (by decide) ?_
    refine zo_ob h.a.C.o (by omega) ?_
    exact da_op (q_share h hB ra)
  · refine zo_tb _ 0 3 rfl (by decide) ?_
    refine zo_ob h.a.C.o (by omega) ?_
    exact da_op (q_relay h hB ra)
  · refine zo_tb _ 0 4 rfl (by decide) ?_
    refine y_draw hg (by omega) (by decide) ?_
    obtain ⟨j, hj⟩ : ∃ j : Nat, w32 (1 + zdw g (k + 5) 9) = (j : Int) := ⟨(1 + zdw g (k + 5) 9).toNat, by rw [w32_e (by omega)]; omega⟩
    have hj2 : (j : Int) = 1 + zdw g (k + 5) 9 := by rw [← hj]; exact w32_e (by omega)
    rw [hj]
    refine zo_ob h.a.C.o (by omega) ?_
    exact da_op (q_deliver h hB (by omega))
  · refine zo_tb _ 0 5 rfl (by decide) ?_
    refine y_draw hg (by omega) (by decide) ?_
    obtain ⟨j, hj⟩ : ∃ j : Nat, w32 (1 + zdw g (k + 5) 9) = (j : Int) := ⟨(1 + zdw g (k + 5) 9).toNat, by rw [w32_e (by omega)]; omega⟩
    have hj2 : (j : Int) = 1 + zdw g (k + 5) 9 := by rw [← hj]; exact w32_e (by omega)
    rw [hj]
    refine zo_ob h.a.C.o (by omega) ?_
    exact da_op (q_deliver h hB (by omega))
  · refine zo_tb _ 0 6 rfl (by decide) ?_
    refine y_draw hg (by omega) (by decide) ?_
    rw [w32_e (z := 1 + zdw g (k + 5) 6) (by omega)]
    refine zo_ob h.a.C.o (by omega) ?_
    exact da_op (q_pass h hB (by omega))
  · refine zo_tb _ 0 7 rfl (by decide) ?_
    refine zo_ite (fun _ => zo_rt ⟨_, _, _, _, _, rfl, h.up hB⟩) (fun hne => ?_)
    refine zo_neg (by decide) ?_
    refine zo_ite (fun _ => act_link h hB ra ro hne) (fun _ => act_link h hB ra ro hne)
  · refine zo_tb _ 0 8 rfl (by decide) ?_
    refine y_draw hg (by omega) (by decide) ?_
    refine zo_neg (by decide) ?_
    rw [w32_e (z := 1 + Int.tmod lo 3) (by omega)]
    refine zo_ob h.a.C.o (by omega) ?_
    exact da_op (q_setRule h hB ⟨r5, zsv_1 r5 (by omega)⟩)
  · refine zo_tb _ 0 9 rfl (by decide) ?_
    refine y_draw hg (by omega) (by decide) ?_
    obtain ⟨j, hj⟩ : ∃ j : Nat, w32 (1 + zdw g (k + 5) 2) = (j : Int) := ⟨(1 + zdw g (k + 5) 2).toNat, by rw [w32_e (by omega)]; omega⟩
    have hj2 : (j : Int) = 1 + zdw g (k + 5) 2 := by rw [← hj]; exact w32_e (by omega)
    rw [hj]
    refine zo_ob h.a.C.o (by omega) ?_
    exact da_op (q_exchange h hB (by omega))
  · refine zo_tb _ 0 10 rfl (by decide) ?_
    refine zo_ob h.a.C.o (by omega) ?_
    exact da_op (q_cleanse h hB ra)
  · refine zo_tdf _ 0 (show (0 : Int) + ((11 : Nat) : Int) ≤ 11 by decide) ?_
    refine zo_neg (by decide) ?_
    refine zo_ite (fun _ => ?_) (fun _ => ?_)
    · refine zo_ob h.a.C.o (by omega) ?_
      exact da_op (q_forget h hB ra rw')
    · refine zo_ob h.a.C.o (by omega) ?_
      exact da_op (q_share h hB ro)
end R7
