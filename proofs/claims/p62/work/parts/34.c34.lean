/-! C 34: the desk's methods -/
section C34
variable {S : zG} {μ μ' : zM} {d : Int} {M : zD} {Q : zR × zS → Prop}
theorem zo_bx {A : zFn} {v : Int} {P : zM → Prop} {H : Int → zS → zFn} (e : ∃ μ', A = some (.inl v, (S, μ')) ∧ P μ') (k : ∀ μ', P μ' → zo (H v (S, μ')) Q) : zo (zbn A H) Q := by
  obtain ⟨μ', e, h⟩ := e
  exact zo_bn e (k μ' h)
theorem zo_ux {A : zFn} {v : Int} {P : zM → Prop} (h : zo A (fun r => ∃ μ', r = (.inl v, (S, μ')) ∧ P μ')) : ∃ μ', A = some (.inl v, (S, μ')) ∧ P μ' := by
  obtain ⟨r, e, μ', h, hP⟩ := h
  exact ⟨μ', by rw [e, h], hP⟩
theorem w32_s {k : Nat} (h : k < 2147483647) : w32 ((k : Int) + 1) = ((k + 1 : Nat) : Int) := by rw [w32_e (by omega)]; rfl
theorem d_isTooOld (h : D7 S μ d M) {a : Int} {k : Nat} {p : zP} (ha : 0 ≤ a ∧ a < 6) (hk : (M.li a)[k]? = some p) : f_X1_isTooOld d (d + 13 + 2 * a) (k : Int) (S, μ) = some (.inl (zbl (M.ru 3 < w32 (M.tm - p 4))), (S, μ)) := by
  have D := h.sh
  apply zo_un
  refine j_X1_isTooOld ?_
  repeat' (first
    | with_reducible refine zo_ob D.o (by omega) ?_
    | with_reducible refine zo_ob (DSh.o (D7.sh (by assumption))) (by omega) ?_
    | with_reducible refine zo_ob (D.ls _ (by omega) (by omega)).o (by omega) ?_
    | with_reducible refine zo_ob D.qu.o (by omega) ?_
    | with_reducible refine zo_gf D.o (D7.tm (by assumption)) (by omega) (by omega) ?_
    | refine zo_bn (by with_reducible exact d_get0 (by assumption) (by omega) (by assumption)) ?_
    | refine zo_bn (by with_reducible exact d_get1 (by assumption) (by omega) (by assumption)) ?_
    | refine zo_bn (by with_reducible exact d_get2 (by assumption) (by omega) (by assumption)) ?_
    | refine zo_bn (by with_reducible exact d_get3 (by assumption) (by omega) (by assumption)) ?_
    | refine zo_bn (by with_reducible exact d_get4 (by assumption) (by omega) (by assumption)) ?_
    | refine zo_bn (by with_reducible exact d_get5 (by assumption) (by omega) (by assumption)) ?_
    | refine zo_bn (by with_reducible exact d_get6 (by assumption) (by omega) (by assumption)) ?_
    | refine zo_bn (by with_reducible exact d_qget0 (by assumption) (by assumption)) ?_
    | refine zo_bn (by with_reducible exact d_qget1 (by assumption) (by assumption)) ?_
    | refine zo_bn (by with_reducible exact d_qget2 (by assumption) (by assumption)) ?_
    | refine zo_bn (by with_reducible exact d_qget3 (by assumption) (by assumption)) ?_
    | refine zo_bn (by with_reducible exact d_qget4 (by assumption) (by assumption)) ?_
    | refine zo_bn (by with_reducible exact d_qget5 (by assumption) (by assumption)) ?_
    | refine zo_bn (by with_reducible exact d_qget6 (by assumption) (by assumption)) ?_
    | refine zo_bn (by with_reducible exact d_qget7 (by assumption) (by assumption)) ?_
    | refine zo_bn (by with_reducible exact d_rule (by assumption) (by omega)) ?_
    | with_reducible refine j_X1_isTooOld ?_
    | with_reducible refine zo_zp (by assumption) ?_
    | with_reducible refine zo_zn (by assumption) ?_
    | with_reducible refine zo_zm (by assumption) ?_
    | with_reducible refine zo_zb (fun zhc => ?_) (fun zhc => ?_)
    | with_reducible refine zo_pos (by omega) ?_
    | with_reducible refine zo_neg (by omega) ?_
    | with_reducible refine zo_ite (fun zhc => ?_) (fun zhc => ?_)
    | with_reducible refine zo_rt ?_
    | exact absurd (by with_reducible assumption) zhc
    | fail)
  all_goals first | rfl | rw [zbl_p (by assumption)] | rw [zbl_n (by assumption)]
theorem d_isTooOldQ (h : D7 S μ d M) {k : Nat} {p : zP} (hk : M.qu[k]? = some p) : f_X1_isTooOld d (d + 10) (k : Int) (S, μ) = some (.inl (zbl (M.ru 3 < w32 (M.tm - p 4))), (S, μ)) := by
  have D := h.sh
  apply zo_un
  refine j_X1_isTooOld ?_
  repeat' (first
    | with_reducible refine zo_ob D.o (by omega) ?_
    | with_reducible refine zo_ob (DSh.o (D7.sh (by assumption))) (by omega) ?_
    | with_reducible refine zo_ob (D.ls _ (by omega) (by omega)).o (by omega) ?_
    | with_reducible refine zo_ob D.qu.o (by omega) ?_
    | with_reducible refine zo_gf D.o (D7.tm (by assumption)) (by omega) (by omega) ?_
    | refine zo_bn (by with_reducible exact d_get0 (by assumption) (by omega) (by assumption)) ?_
    | refine zo_bn (by with_reducible exact d_get1 (by assumption) (by omega) (by assumption)) ?_
    | refine zo_bn (by with_reducible exact d_get2 (by assumption) (by omega) (by assumption)) ?_
    | refine zo_bn (by with_reducible exact d_get3 (by assumption) (by omega) (by assumption)) ?_
    | refine zo_bn (by with_reducible exact d_get4 (by assumption) (by omega) (by assumption)) ?_
    | refine zo_bn (by with_reducible exact d_get5 (by assumption) (by omega) (by assumption)) ?_
    | refine zo_bn (by with_reducible exact d_get6 (by assumption) (by omega) (by assumption)) ?_
    | refine zo_bn (by with_reducible exact d_qget0 (by assumption) (by assumption)) ?_
    | refine zo_bn (by with_reducible exact d_qget1 (by assumption) (by assumption)) ?_
    | refine zo_bn (by with_reducible exact d_qget2 (by assumption) (by assumption)) ?_
    | refine zo_bn (by with_reducible exact d_qget3 (by assumption) (by assumption)) ?_
    | refine zo_bn (by with_reducible exact d_qget4 (by assumption) (by assumption)) ?_
    | refine zo_bn (by with_reducible exact d_qget5 (by assumption) (by assumption)) ?_
    | refine zo_bn (by with_reducible exact d_qget6 (by assumption) (by assumption)) ?_
    | refine zo_bn (by with_reducible exact d_qget7 (by assumption) (by assumption)) ?_
    | refine zo_bn (by with_reducible exact d_rule (by assumption) (by omega)) ?_
    | with_reducible refine j_X1_isTooOld ?_
    | with_reducible refine zo_zp (by assumption) ?_
    | with_reducible refine zo_zn (by assumption) ?_
    | with_reducible refine zo_zm (by assumption) ?_
    | with_reducible refine zo_zb (fun zhc => ?_) (fun zhc => ?_)
    | with_reducible refine zo_pos (by omega) ?_
    | with_reducible refine zo_neg (by omega) ?_
    | with_reducible refine zo_ite (fun zhc => ?_) (fun zhc => ?_)
    | with_reducible refine zo_rt ?_
    | exact absurd (by with_reducible assumption) zhc
    | fail)
  all_goals first | rfl | rw [zbl_p (by assumption)] | rw [zbl_n (by assumption)]
theorem d_driftOf (h : D7 S μ d M) {a : Int} {k : Nat} {p : zP} (ha : 0 ≤ a ∧ a < 6) (hk : (M.li a)[k]? = some p) : f_X1_driftOf d (d + 13 + 2 * a) (k : Int) (S, μ) = some (.inl (M.dr p), (S, μ)) := by
  have D := h.sh
  apply zo_un
  refine j_X1_driftOf ?_
  repeat' (first
    | with_reducible refine zo_ob D.o (by omega) ?_
    | with_reducible refine zo_ob (DSh.o (D7.sh (by assumption))) (by omega) ?_
    | with_reducible refine zo_ob (D.ls _ (by omega) (by omega)).o (by omega) ?_
    | with_reducible refine zo_ob D.qu.o (by omega) ?_
    | with_reducible refine zo_gf D.o (D7.tm (by assumption)) (by omega) (by omega) ?_
    | refine zo_bn (by with_reducible exact d_rule (by assumption) (by omega)) ?_
    | refine zo_bn (by with_reducible exact d_get0 (by assumption) (by omega) (by assumption)) ?_
    | refine zo_bn (by with_reducible exact d_get1 (by assumption) (by omega) (by assumption)) ?_
    | refine zo_bn (by with_reducible exact d_get2 (by assumption) (by omega) (by assumption)) ?_
    | refine zo_bn (by with_reducible exact d_get3 (by assumption) (by omega) (by assumption)) ?_
    | refine zo_bn (by with_reducible exact d_get4 (by assumption) (by omega) (by assumption)) ?_
    | refine zo_bn (by with_reducible exact d_get5 (by assumption) (by omega) (by assumption)) ?_
    | refine zo_bn (by with_reducible exact d_get6 (by assumption) (by omega) (by assumption)) ?_
    | refine zo_bn (by with_reducible exact d_qget0 (by assumption) (by assumption)) ?_
    | refine zo_bn (by with_reducible exact d_qget1 (by assumption) (by assumption)) ?_
    | refine zo_bn (by with_reducible exact d_qget2 (by assumption) (by assumption)) ?_
    | refine zo_bn (by with_reducible exact d_qget3 (by assumption) (by assumption)) ?_
    | refine zo_bn (by with_reducible exact d_qget4 (by assumption) (by assumption)) ?_
    | refine zo_bn (by with_reducible exact d_qget5 (by assumption) (by assumption)) ?_
    | refine zo_bn (by with_reducible exact d_qget6 (by assumption) (by assumption)) ?_
    | refine zo_bn (by with_reducible exact d_qget7 (by assumption) (by assumption)) ?_
    | with_reducible refine j_X1_driftOf ?_
    | with_reducible refine zo_zp (by assumption) ?_
    | with_reducible refine zo_zn (by assumption) ?_
    | with_reducible refine zo_zm (by assumption) ?_
    | with_reducible refine zo_zb (fun zhc => ?_) (fun zhc => ?_)
    | with_reducible refine zo_pos (by omega) ?_
    | with_reducible refine zo_neg (by omega) ?_
    | with_reducible refine zo_ite (fun zhc => ?_) (fun zhc => ?_)
    | with_reducible refine zo_rt ?_
    | exact absurd (by with_reducible assumption) zhc
    | fail)
  rfl
theorem d_spreadOf (h : D7 S μ d M) {a : Int} {k : Nat} {p : zP} (ha : 0 ≤ a ∧ a < 6) (hk : (M.li a)[k]? = some p) (hv : 0 ≤ p 1 ∧ p 1 < 6) : f_X1_beliefSpread d a (k : Int) (S, μ) = some (.inl (M.sp a p), (S, μ)) := by
  have D := h.sh
  apply zo_un
  refine j_X1_beliefSpread ?_
  repeat' (first
    | with_reducible refine zo_ob D.o (by omega) ?_
    | with_reducible refine zo_ob (DSh.o (D7.sh (by assumption))) (by omega) ?_
    | with_reducible refine zo_ob (D.ls _ (by omega) (by omega)).o (by omega) ?_
    | with_reducible refine zo_ob D.qu.o (by omega) ?_
    | refine zo_bn (by with_reducible exact d_listOf (by assumption) (by omega)) ?_
    | refine zo_bn (by with_reducible exact d_get0 (by assumption) (by omega) (by assumption)) ?_
    | refine zo_bn (by with_reducible exact d_get1 (by assumption) (by omega) (by assumption)) ?_
    | refine zo_bn (by with_reducible exact d_get2 (by assumption) (by omega) (by assumption)) ?_
    | refine zo_bn (by with_reducible exact d_get3 (by assumption) (by omega) (by assumption)) ?_
    | refine zo_bn (by with_reducible exact d_get4 (by assumption) (by omega) (by assumption)) ?_
    | refine zo_bn (by with_reducible exact d_get5 (by assumption) (by omega) (by assumption)) ?_
    | refine zo_bn (by with_reducible exact d_get6 (by assumption) (by omega) (by assumption)) ?_
    | refine zo_bn (by with_reducible exact d_qget0 (by assumption) (by assumption)) ?_
    | refine zo_bn (by with_reducible exact d_qget1 (by assumption) (by assumption)) ?_
    | refine zo_bn (by with_reducible exact d_qget2 (by assumption) (by assumption)) ?_
    | refine zo_bn (by with_reducible exact d_qget3 (by assumption) (by assumption)) ?_
    | refine zo_bn (by with_reducible exact d_qget4 (by assumption) (by assumption)) ?_
    | refine zo_bn (by with_reducible exact d_qget5 (by assumption) (by assumption)) ?_
    | refine zo_bn (by with_reducible exact d_qget6 (by assumption) (by assumption)) ?_
    | refine zo_bn (by with_reducible exact d_qget7 (by assumption) (by assumption)) ?_
    | refine zo_bn (by with_reducible exact d_driftOf (by assumption) (by omega) (by assumption)) ?_
    | refine zo_bn (by with_reducible exact d_rule (by assumption) (by omega)) ?_
    | refine zo_bn (by with_reducible exact d_trustIn (by assumption) (by omega) (by omega)) ?_
    | with_reducible refine j_X1_beliefSpread ?_
    | with_reducible refine zo_zp (by assumption) ?_
    | with_reducible refine zo_zn (by assumption) ?_
    | with_reducible refine zo_zm (by assumption) ?_
    | with_reducible refine zo_zb (fun zhc => ?_) (fun zhc => ?_)
    | with_reducible refine zo_pos (by omega) ?_
    | with_reducible refine zo_neg (by omega) ?_
    | with_reducible refine zo_ite (fun zhc => ?_) (fun zhc => ?_)
    | with_reducible refine zo_rt ?_
    | exact absurd (by with_reducible assumption) zhc
    | fail)
  · unfold zD.sp
    rw [if_pos zhc]
  · unfold zD.sp
    rw [if_neg zhc]
end C34
