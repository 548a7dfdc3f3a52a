/-! C 61: operations: what they share -/
section C61
variable {S : zG} {μ μ' μ1 : zM} {x m B A : Int} {M : zD} {L : List zD} {K : zKs} {inp out : List Int} {c p : Int} {P : zG → zM → Prop} {Q : zR × zS → Prop}
theorem zo_xq {A : zFn} {v : Int} {R : zM → Prop} (h : zo A (fun r => ∃ μ', r = (.inl v, (S, μ')) ∧ R μ')) : ∃ μ', A = some (.inl v, (S, μ')) ∧ R μ' := zo_ux h
theorem k_A (C : CB S x) (h : D7 S μ (x + 12) M) {a : Int} (ha : 0 ≤ a ∧ a < (M.an.length : Int)) : f_X7_checkAgent x a (S, μ) = some (.inl 0, (S, μ)) := by
  apply zo_un
  refine j_X7_checkAgent ?_
  refine zo_neg (by omega) ?_
  refine zo_gr C.o C.r3 (by omega) (by omega) ?_
  refine zo_gr h.sh.o h.sh.r1 (by omega) (by omega) ?_
  refine zo_gf h.sh.ag.o h.an0 (by omega) (by omega) ?_
  exact zo_pos ha.2 (zo_rt rfl)
theorem k_W (C : CB S x) (h : D7 S μ (x + 12) M) {a : Int} (ha : 0 ≤ a ∧ a < (M.wn.length : Int)) : f_X7_checkWay x a (S, μ) = some (.inl 0, (S, μ)) := by
  apply zo_un
  refine j_X7_checkWay ?_
  refine zo_neg (by omega) ?_
  refine zo_gr C.o C.r3 (by omega) (by omega) ?_
  refine zo_gr h.sh.o h.sh.r2 (by omega) (by omega) ?_
  refine zo_gf h.sh.wa.o h.wn0 (by omega) (by omega) ?_
  exact zo_pos ha.2 (zo_rt rfl)
theorem k_R {v lo hi : Int} {σ : zS} (h : lo ≤ v ∧ v ≤ hi) : f_X7_checkRange v lo hi σ = some (.inl 0, σ) := by
  apply zo_un
  refine j_X7_checkRange ?_
  exact zo_neg (by omega) (zo_neg (by omega) (zo_rt rfl))
theorem k_B {lo hi : Int} {σ : zS} (h : 0 ≤ lo ∧ lo ≤ hi ∧ hi ≤ 999) : f_X7_checkBounds lo hi σ = some (.inl 0, σ) := by
  apply zo_un
  refine j_X7_checkBounds ?_
  refine zo_bn (k_R (by omega)) ?_
  refine zo_bn (k_R (by omega)) ?_
  exact zo_rt rfl
theorem k_P (C : CB S x) (h : D7 S μ (x + 12) M) {a i : Int} (ha : 0 ≤ a ∧ a < (M.an.length : Int)) (hi : 0 ≤ i ∧ i < ((M.li a).length : Int)) : f_X7_checkReport x a i (S, μ) = some (.inl 0, (S, μ)) := by
  have h6 := h.al
  apply zo_un
  refine j_X7_checkReport ?_
  refine zo_ob C.o (by omega) ?_
  refine zo_bn (k_A C h ha) ?_
  refine zo_neg (by omega) ?_
  refine zo_gr C.o C.r3 (by omega) (by omega) ?_
  refine zo_ob h.sh.o (by omega) ?_
  refine zo_bn (d_listOf h (by omega)) ?_
  refine zo_gf (h.sh.ls a (by omega) (by omega)).o (h.li a (by omega) (by omega)).1 (by omega) (by omega) ?_
  exact zo_pos hi.2 (zo_rt rfl)
end C61
