/-! C 35: judging, probing -/
def zlo (p : zP) (s : Int) : Int := max 0 (w32 (p 5 - s))
def zhi (p : zP) (s : Int) : Int := min 999 (w32 (p 6 + s))
def zD.ctr (M : zD) (p q : zP) : Prop := min (zhi p (M.dr p)) (zhi q (M.dr q)) < max (zlo p (M.dr p)) (zlo q (M.dr q))
noncomputable def zD.jud (M : zD) (a : Int) (p q : zP) : zD × Int := if M.T a (p 1) = -1 then (M, 0) else
  ((M.wT (zup2 M.T a (p 1) (max 0 (min 10 (w32 (M.T a (p 1) + (1 - 3 * zbl (M.ctr p q)))))))).tal a (3 + zbl (M.ctr p q)), zbl (M.ctr p q))
def zqb (o w : Int) : zP → Bool := fun p => decide (p 0 = o ∧ p 3 = w)
theorem zqb_t {o w : Int} {p : zP} (h : zq o w p) : zqb o w p = true := decide_eq_true h
theorem zqb_f {o w : Int} {p : zP} (h : ¬ zq o w p) : zqb o w p = false := decide_eq_false h
theorem zfi_go (o w : Int) (l : List zP) : ∀ j : Nat, (zfi (zq o w) (zqD o w) l (j : Int) = -1 ∧ l.find? (zqb o w) = none ∧ l.eraseP (zqb o w) = l) ∨ ∃ (k : Nat) (p : zP), zfi (zq o w) (zqD o w) l (j : Int) = ((j + k : Nat) : Int) ∧ l[k]? = some p ∧ l.find? (zqb o w) = some p ∧ zq o w p ∧ l.eraseP (zqb o w) = l.eraseIdx k := by
  induction l with
  | nil => intro j; exact Or.inl ⟨rfl, rfl, rfl⟩
  | cons p r ih =>
    intro j
    by_cases h : zq o w p
    · refine Or.inr ⟨0, p, ?_, rfl, ?_, h, ?_⟩
      · unfold zfi
        rw [if_pos h]
        rfl
      · rw [List.find?_cons, zqb_t h]
      · rw [List.eraseP_cons_of_pos (zqb_t h)]
        rfl
    · have hf := zqb_f h
      have e1 : zfi (zq o w) (zqD o w) (p :: r) (j : Int) = zfi (zq o w) (zqD o w) r ((j + 1 : Nat) : Int) := by
        conv => lhs; unfold zfi
        rw [if_neg h]
        rfl
      have e2 : (p :: r).find? (zqb o w) = r.find? (zqb o w) := by rw [List.find?_cons, hf]
      have e3 : (p :: r).eraseP (zqb o w) = p :: r.eraseP (zqb o w) := List.eraseP_cons_of_neg (by rw [hf]; decide)
      rw [e1, e2, e3]
      rcases ih (j + 1) with ⟨h1, h2, h3⟩ | ⟨k, q, h1, h2, h3, h4, h5⟩
      · exact Or.inl ⟨h1, h2, by rw [h3]⟩
      · refine Or.inr ⟨k + 1, q, ?_, h2, h3, h4, ?_⟩
        · rw [h1]
          congr 1
          omega
        · rw [h5]
          rfl
theorem zfi_cs (o w : Int) (l : List zP) : (zfi (zq o w) (zqD o w) l 0 = -1 ∧ l.find? (zqb o w) = none ∧ l.eraseP (zqb o w) = l) ∨ ∃ (k : Nat) (p : zP), zfi (zq o w) (zqD o w) l 0 = (k : Int) ∧ l[k]? = some p ∧ l.find? (zqb o w) = some p ∧ zq o w p ∧ l.eraseP (zqb o w) = l.eraseIdx k := by
  rcases zfi_go o w l 0 with h | ⟨k, p, h, h'⟩
  · exact Or.inl h
  · refine Or.inr ⟨k, p, ?_, h'⟩
    rw [Nat.zero_add] at h
    exact h
section C35
variable {S : zG} {μ μ' : zM} {d : Int} {M : zD} {Q : zR × zS → Prop}
theorem d_find2 (h : D7 S μ d M) {a o w9 v : Int} (ha : 0 ≤ a ∧ a < 6) (hv : zfi (zq o w9) (zqD o w9) (M.li a) 0 = v) : f_X5_rowOf (d + 13 + 2 * a) o w9 (S, μ) = some (.inl v, (S, μ)) := by
  rw [d_find h ha, hv]
theorem d_judge (h : D7 S μ d M) {a : Int} {k j : Nat} {p q : zP} (ha : 0 ≤ a ∧ a < 6) (hk : (M.li a)[k]? = some p) (hj : (M.li a)[j]? = some q) (hv : 0 ≤ p 1 ∧ p 1 < 6) :
    ∃ μ', f_X1_judge d a (k : Int) (j : Int) (S, μ) = some (.inl (M.jud a p q).2, (S, μ')) ∧ D7 S μ' d (M.jud a p q).1 ∧ FR d μ μ' := by
  have D := h.sh
  apply zo_ux
  unfold zD.jud
  by_cases h0 : M.T a (p 1) = -1
  · rw [if_pos h0]
    refine j_X1_judge ?_
    repeat' (first
      | with_reducible refine zo_ob D.o (by omega) ?_
      | with_reducible refine zo_ob (DSh.o (D7.sh (by assumption))) (by omega) ?_
      | with_reducible refine zo_ob (D.ls _ (by omega) (by omega)).o (by omega) ?_
      | with_reducible refine zo_ob D.qu.o (by omega) ?_
      | refine zo_bn (by with_reducible exact d_listOf (by assumption) (by omega)) ?_
      | refine zo_bn (by with_reducible exact d_get0 (by assumption) (by omega) (by assumption)) ?_
      | refine zo_bn (by with_reducible exact d_get1 (by assumption) (by omega) (by assumption)) ?_
      | refine zo_bn (by with_reducible exact d_get2 (by assumption) (by omega) (by assumption)) ?_
      | refine zo_bn (by with_reducible exact d_get3 (by assumption) (by omega) (by assumption)) ?_
      | refine zo_bn (by with_reducible exact d_get4 (by assumption) (by omega) (by assumption)) ?_
      | refine zo_bn (by with_reducible exact d_get5 (by assumption) (by omega) (by assumption)) ?_
      | refine zo_bn (by with_reducible exact d_get6 (by assumption) (by omega) (by assumption)) ?_
      | refine zo_bn (by with_reducible exact d_qget0 (by assumption) (by assumption)) ?_
      | refine zo_bn (by with_reducible exact d_qget1 (by assumption) (by assumption)) ?_
      | refine zo_bn (by with_reducible exact d_qget2 (by assumption) (by assumption)) ?_
      | refine zo_bn (by with_reducible exact d_qget3 (by assumption) (by assumption)) ?_
      | refine zo_bn (by with_reducible exact d_qget4 (by assumption) (by assumption)) ?_
      | refine zo_bn (by with_reducible exact d_qget5 (by assumption) (by assumption)) ?_
      | refine zo_bn (by with_reducible exact d_qget6 (by assumption) (by assumption)) ?_
      | refine zo_bn (by with_reducible exact d_qget7 (by assumption) (by assumption)) ?_
      | refine zo_bn (by with_reducible exact d_isLinked (by assumption) (by omega) (by omega)) ?_
      | refine zo_bn (by with_reducible exact d_driftOf (by assumption) (by omega) (by assumption)) ?_
      | refine zo_bn (by with_reducible exact d_lowMoved (by assumption) (by omega) (by assumption)) ?_
      | refine zo_bn (by with_reducible exact d_highMoved (by assumption) (by omega) (by assumption)) ?_
      | refine zo_bn (by with_reducible exact d_trustIn (by assumption) (by omega) (by omega)) ?_
      | (refine zo_bx (by with_reducible exact d_putTrust (by assumption) (by omega) (by omega)) ?_; rintro μ1 ⟨h1, f1⟩)
      | (refine zo_bx (by with_reducible exact d_tally (by assumption) (by omega) (by omega)) ?_; rintro μ1 ⟨h1, f1⟩)
      | with_reducible refine j_X1_judge ?_
      | with_reducible refine j_X1_judge_100 ?_
      | with_reducible refine j_X1_judge_120 ?_
      | with_reducible refine j_X1_judge_153 ?_
      | with_reducible refine zo_zp (by assumption) ?_
      | with_reducible refine zo_zn (by assumption) ?_
      | with_reducible refine zo_zm (by assumption) ?_
      | with_reducible refine zo_zb (fun zhc => ?_) (fun zhc => ?_)
      | with_reducible refine zo_pos (by omega) ?_
      | with_reducible refine zo_neg (by omega) ?_
      | with_reducible refine zo_ite (fun zhc => ?_) (fun zhc => ?_)
      | with_reducible refine zo_rt ?_
      | exact absurd (by with_reducible assumption) zhc
      | fail)
    exact ⟨_, rfl, h, FR.rf⟩
  · rw [if_neg h0]
    by_cases hc : M.ctr p q
    · rw [zbl_p hc]
      have hc' : min (min 999 (w32 (p 6 + M.dr p))) (min 999 (w32 (q 6 + M.dr q))) < max (max 0 (w32 (p 5 - M.dr p))) (max 0 (w32 (q 5 - M.dr q))) := hc
      refine j_X1_judge ?_
      repeat' (first
        | with_reducible refine zo_ob D.o (by omega) ?_
        | with_reducible refine zo_ob (DSh.o (D7.sh (by assumption))) (by omega) ?_
        | with_reducible refine zo_ob (D.ls _ (by omega) (by omega)).o (by omega) ?_
        | with_reducible refine zo_ob D.qu.o (by omega) ?_
        | refine zo_bn (by with_reducible exact d_listOf (by assumption) (by omega)) ?_
        | refine zo_bn (by with_reducible exact d_get0 (by assumption) (by omega) (by assumption)) ?_
        | refine zo_bn (by with_reducible exact d_get1 (by assumption) (by omega) (by assumption)) ?_
        | refine zo_bn (by with_reducible exact d_get2 (by assumption) (by omega) (by assumption)) ?_
        | refine zo_bn (by with_reducible exact d_get3 (by assumption) (by omega) (by assumption)) ?_
        | refine zo_bn (by with_reducible exact d_get4 (by assumption) (by omega) (by assumption)) ?_
        | refine zo_bn (by with_reducible exact d_get5 (by assumption) (by omega) (by assumption)) ?_
        | refine zo_bn (by with_reducible exact d_get6 (by assumption) (by omega) (by assumption)) ?_
        | refine zo_bn (by with_reducible exact d_qget0 (by assumption) (by assumption)) ?_
        | refine zo_bn (by with_reducible exact d_qget1 (by assumption) (by assumption)) ?_
        | refine zo_bn (by with_reducible exact d_qget2 (by assumption) (by assumption)) ?_
        | refine zo_bn (by with_reducible exact d_qget3 (by assumption) (by assumption)) ?_
        | refine zo_bn (by with_reducible exact d_qget4 (by assumption) (by assumption)) ?_
        | refine zo_bn (by with_reducible exact d_qget5 (by assumption) (by assumption)) ?_
        | refine zo_bn (by with_reducible exact d_qget6 (by assumption) (by assumption)) ?_
        | refine zo_bn (by with_reducible exact d_qget7 (by assumption) (by assumption)) ?_
        | refine zo_bn (by with_reducible exact d_isLinked (by assumption) (by omega) (by omega)) ?_
        | refine zo_bn (by with_reducible exact d_driftOf (by assumption) (by omega) (by assumption)) ?_
        | refine zo_bn (by with_reducible exact d_lowMoved (by assumption) (by omega) (by assumption)) ?_
        | refine zo_bn (by with_reducible exact d_highMoved (by assumption) (by omega) (by assumption)) ?_
        | refine zo_bn (by with_reducible exact d_trustIn (by assumption) (by omega) (by omega)) ?_
        | (refine zo_bx (by with_reducible exact d_putTrust (by assumption) (by omega) (by omega)) ?_; rintro μ1 ⟨h1, f1⟩)
        | (refine zo_bx (by with_reducible exact d_tally (by assumption) (by omega) (by omega)) ?_; rintro μ1 ⟨h1, f1⟩)
        | with_reducible refine j_X1_judge ?_
        | with_reducible refine j_X1_judge_100 ?_
        | with_reducible refine j_X1_judge_120 ?_
        | with_reducible refine j_X1_judge_153 ?_
        | with_reducible refine zo_zp (by assumption) ?_
        | with_reducible refine zo_zn (by assumption) ?_
        | with_reducible refine zo_zm (by assumption) ?_
        | with_reducible refine zo_zb (fun zhc => ?_) (fun zhc => ?_)
        | with_reducible refine zo_pos (by omega) ?_
        | with_reducible refine zo_neg (by omega) ?_
        | with_reducible refine zo_rt ?_
        | exact absurd (by with_reducible assumption) zhc
        | fail)
      exact ⟨_, rfl, by assumption, FR.tr (by assumption) (by assumption)⟩
    · rw [zbl_n hc]
      have hc' : ¬ min (min 999 (w32 (p 6 + M.dr p))) (min 999 (w32 (q 6 + M.dr q))) < max (max 0 (w32 (p 5 - M.dr p))) (max 0 (w32 (q 5 - M.dr q))) := hc
      refine j_X1_judge ?_
      repeat' (first
        | with_reducible refine zo_ob D.o (by omega) ?_
        | with_reducible refine zo_ob (DSh.o (D7.sh (by assumption))) (by omega) ?_
        | with_reducible refine zo_ob (D.ls _ (by omega) (by omega)).o (by omega) ?_
        | with_reducible refine zo_ob D.qu.o (by omega) ?_
        | refine zo_bn (by with_reducible exact d_listOf (by assumption) (by omega)) ?_
        | refine zo_bn (by with_reducible exact d_get0 (by assumption) (by omega) (by assumption)) ?_
        | refine zo_bn (by with_reducible exact d_get1 (by assumption) (by omega) (by assumption)) ?_
        | refine zo_bn (by with_reducible exact d_get2 (by assumption) (by omega) (by assumption)) ?_
        | refine zo_bn (by with_reducible exact d_get3 (by assumption) (by omega) (by assumption)) ?_
        | refine zo_bn (by with_reducible exact d_get4 (by assumption) (by omega) (by assumption)) ?_
        | refine zo_bn (by with_reducible exact d_get5 (by assumption) (by omega) (by assumption)) ?_
        | refine zo_bn (by with_reducible exact d_get6 (by assumption) (by omega) (by assumption)) ?_
        | refine zo_bn (by with_reducible exact d_qget0 (by assumption) (by assumption)) ?_
        | refine zo_bn (by with_reducible exact d_qget1 (by assumption) (by assumption)) ?_
        | refine zo_bn (by with_reducible exact d_qget2 (by assumption) (by assumption)) ?_
        | refine zo_bn (by with_reducible exact d_qget3 (by assumption) (by assumption)) ?_
        | refine zo_bn (by with_reducible exact d_qget4 (by assumption) (by assumption)) ?_
        | refine zo_bn (by with_reducible exact d_qget5 (by assumption) (by assumption)) ?_
        | refine zo_bn (by with_reducible exact d_qget6 (by assumption) (by assumption)) ?_
        | refine zo_bn (by with_reducible exact d_qget7 (by assumption) (by assumption)) ?_
        | refine zo_bn (by with_reducible exact d_isLinked (by assumption) (by omega) (by omega)) ?_
        | refine zo_bn (by with_reducible exact d_driftOf (by assumption) (by omega) (by assumption)) ?_
        | refine zo_bn (by with_reducible exact d_lowMoved (by assumption) (by omega) (by assumption)) ?_
        | refine zo_bn (by with_reducible exact d_highMoved (by assumption) (by omega) (by assumption)) ?_
        | refine zo_bn (by with_reducible exact d_trustIn (by assumption) (by omega) (by omega)) ?_
        | (refine zo_bx (by with_reducible exact d_putTrust (by assumption) (by omega) (by omega)) ?_; rintro μ1 ⟨h1, f1⟩)
        | (refine zo_bx (by with_reducible exact d_tally (by assumption) (by omega) (by omega)) ?_; rintro μ1 ⟨h1, f1⟩)
        | with_reducible refine j_X1_judge ?_
        | with_reducible refine j_X1_judge_100 ?_
        | with_reducible refine j_X1_judge_120 ?_
        | with_reducible refine j_X1_judge_153 ?_
        | with_reducible refine zo_zp (by assumption) ?_
        | with_reducible refine zo_zn (by assumption) ?_
        | with_reducible refine zo_zm (by assumption) ?_
        | with_reducible refine zo_zb (fun zhc => ?_) (fun zhc => ?_)
        | with_reducible refine zo_pos (by omega) ?_
        | with_reducible refine zo_neg (by omega) ?_
        | with_reducible refine zo_rt ?_
        | exact absurd (by with_reducible assumption) zhc
        | fail)
      exact ⟨_, rfl, by assumption, FR.tr (by assumption) (by assumption)⟩
end C35
