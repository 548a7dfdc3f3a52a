/-! Q: the operations of the class, one by one -/
def Wd (B : Int) (x : Int) (S : zG) (μ : zM) (M : zD) (L : List zD) (K : zKs) (inp out : List Int) (c p : Int) : Prop := (W7 S μ x M L K inp out c p) ∧ (WB B M L K)
theorem Wd.mk {B : Int} {x : Int} {S : zG} {μ : zM} {M : zD} {L : List zD} {K : zKs} {inp out : List Int} {c p : Int} (h : (W7 S μ x M L K inp out c p) ∧ (WB B M L K)) : Wd B x S μ M L K inp out c p := h
theorem Wd.a {B : Int} {x : Int} {S : zG} {μ : zM} {M : zD} {L : List zD} {K : zKs} {inp out : List Int} {c p : Int} (h : Wd B x S μ M L K inp out c p) : W7 S μ x M L K inp out c p := h.1
theorem Wd.w {B : Int} {x : Int} {S : zG} {μ : zM} {M : zD} {L : List zD} {K : zKs} {inp out : List Int} {c p : Int} (h : Wd B x S μ M L K inp out c p) : WB B M L K := h.2
theorem q_trust {B x : Int} {S : zG} {μ : zM} {M : zD} {L : List zD} {K : zKs} {inp out : List Int} {c p : Int} {a o : Int} (h : Wd B x S μ M L K inp out c p) (h1 : 0 ≤ a ∧ a < (M.an.length : Int)) (h2 : 0 ≤ o ∧ o < (M.an.length : Int)) : ∃ μ', f_X7_trust x a o (S, μ) = some (.inl (M.T a o), (S, μ')) ∧ FV (x + 5) μ μ' := by
  have h60 := h.a.D.al
  have h61 := h.a.D.wl
  have W := h.w.M
  refine zo_xq ?_
  refine j_X7_trust ?_
  refine zo_ob h.a.C.o (by omega) ?_
  refine zo_bn (k_A h.a.C h.a.D h1) ?_
  refine zo_ob h.a.C.o (by omega) ?_
  refine zo_bn (k_A h.a.C h.a.D h2) ?_
  refine zo_gr h.a.C.o h.a.C.r3 (by omega) (by omega) ?_
  refine zo_ob h.a.D.sh.o (by omega) ?_
  refine zo_bn (d_trustIn h.a.D (by omega) (by omega)) ?_
  exact zo_rt ⟨_, rfl, FV.rf⟩
theorem q_reports {B x : Int} {S : zG} {μ : zM} {M : zD} {L : List zD} {K : zKs} {inp out : List Int} {c p : Int} {a : Int} (h : Wd B x S μ M L K inp out c p) (h1 : 0 ≤ a ∧ a < (M.an.length : Int)) : ∃ μ', f_X7_reports x a (S, μ) = some (.inl ((M.li a).length : Int), (S, μ')) ∧ FV (x + 5) μ μ' := by
  have h60 := h.a.D.al
  have h61 := h.a.D.wl
  have W := h.w.M
  refine zo_xq ?_
  refine j_X7_reports ?_
  refine zo_ob h.a.C.o (by omega) ?_
  refine zo_bn (k_A h.a.C h.a.D h1) ?_
  refine zo_gr h.a.C.o h.a.C.r3 (by omega) (by omega) ?_
  refine zo_ob h.a.D.sh.o (by omega) ?_
  refine zo_bn (d_listOf h.a.D (by omega)) ?_
  refine zo_gf (h.a.D.sh.ls a (by omega) (by omega)).o (h.a.D.li a (by omega) (by omega)).1 (by omega) (by omega) ?_
  exact zo_rt ⟨_, rfl, FV.rf⟩
theorem q_own {B x : Int} {S : zG} {μ : zM} {M : zD} {L : List zD} {K : zKs} {inp out : List Int} {c p : Int} {a w : Int} (h : Wd B x S μ M L K inp out c p) (h1 : 0 ≤ a ∧ a < (M.an.length : Int)) (h2 : 0 ≤ w ∧ w < (M.wn.length : Int)) : ∃ μ', f_X7_own x a w (S, μ) = some (.inl (zfi (zq a w) (zqD a w) (M.li a) 0), (S, μ')) ∧ FV (x + 5) μ μ' := by
  have h60 := h.a.D.al
  have h61 := h.a.D.wl
  have W := h.w.M
  refine zo_xq ?_
  refine j_X7_own ?_
  refine zo_ob h.a.C.o (by omega) ?_
  refine zo_bn (k_A h.a.C h.a.D h1) ?_
  refine zo_ob h.a.C.o (by omega) ?_
  refine zo_bn (k_W h.a.C h.a.D h2) ?_
  refine zo_gr h.a.C.o h.a.C.r3 (by omega) (by omega) ?_
  refine zo_ob h.a.D.sh.o (by omega) ?_
  refine zo_bn (d_listOf h.a.D (by omega)) ?_
  refine zo_ob (h.a.D.sh.ls a (by omega) (by omega)).o (by omega) ?_
  refine zo_bn (d_find h.a.D (by omega)) ?_
  exact zo_rt ⟨_, rfl, FV.rf⟩
theorem q_belief {B x : Int} {S : zG} {μ : zM} {M : zD} {L : List zD} {K : zKs} {inp out : List Int} {c p : Int} {a w e : Int} (h : Wd B x S μ M L K inp out c p) (h1 : 0 ≤ a ∧ a < (M.an.length : Int)) (h2 : 0 ≤ w ∧ w < (M.wn.length : Int)) (h3 : 0 ≤ e ∧ e ≤ 1) : ∃ μ', f_X7_belief x a w e (S, μ) = some (.inl (M.bnd a w e), (S, μ')) ∧ FV (x + 5) μ μ' := by
  have h60 := h.a.D.al
  have h61 := h.a.D.wl
  have W := h.w.M
  refine zo_xq ?_
  refine j_X7_belief ?_
  refine zo_ob h.a.C.o (by omega) ?_
  refine zo_bn (k_A h.a.C h.a.D h1) ?_
  refine zo_ob h.a.C.o (by omega) ?_
  refine zo_bn (k_W h.a.C h.a.D h2) ?_
  refine zo_bn (k_R h3) ?_
  refine zo_gr h.a.C.o h.a.C.r3 (by omega) (by omega) ?_
  refine zo_ob h.a.C.o (by omega) ?_
  obtain ⟨μ4, e4, f4⟩ := c_believed (w := w) (e := e) h.a.C h.a.D W (by omega) (show 0 ≤ a ∧ a < 6 by omega)
  refine zo_bn e4 ?_
  exact zo_rt ⟨μ4, rfl, f4⟩
theorem q_sources {B x : Int} {S : zG} {μ : zM} {M : zD} {L : List zD} {K : zKs} {inp out : List Int} {c p : Int} {a w : Int} (h : Wd B x S μ M L K inp out c p) (h1 : 0 ≤ a ∧ a < (M.an.length : Int)) (h2 : 0 ≤ w ∧ w < (M.wn.length : Int)) : ∃ μ', f_X7_sources x a w (S, μ) = some (.inl (M.ors a w 0), (S, μ')) ∧ FV (x + 5) μ μ' := by
  have h60 := h.a.D.al
  have h61 := h.a.D.wl
  have W := h.w.M
  refine zo_xq ?_
  refine j_X7_sources ?_
  refine zo_ob h.a.C.o (by omega) ?_
  refine zo_bn (k_A h.a.C h.a.D h1) ?_
  refine zo_ob h.a.C.o (by omega) ?_
  refine zo_bn (k_W h.a.C h.a.D h2) ?_
  refine zo_ob h.a.C.o (by omega) ?_
  obtain ⟨μ4, e4, f4⟩ := c_originsOf (w := w) (t := 0) h.a.C h.a.D W (show 0 ≤ a ∧ a < 6 by omega)
  refine zo_bn e4 ?_
  exact zo_rt ⟨μ4, rfl, f4⟩
theorem q_contradicted {B x : Int} {S : zG} {μ : zM} {M : zD} {L : List zD} {K : zKs} {inp out : List Int} {c p : Int} {a w : Int} (h : Wd B x S μ M L K inp out c p) (h1 : 0 ≤ a ∧ a < (M.an.length : Int)) (h2 : 0 ≤ w ∧ w < (M.wn.length : Int)) : ∃ μ', f_X7_contradicted x a w (S, μ) = some (.inl (M.ors a w 1), (S, μ')) ∧ FV (x + 5) μ μ' := by
  have h60 := h.a.D.al
  have h61 := h.a.D.wl
  have W := h.w.M
  refine zo_xq ?_
  refine j_X7_contradicted ?_
  refine zo_ob h.a.C.o (by omega) ?_
  refine zo_bn (k_A h.a.C h.a.D h1) ?_
  refine zo_ob h.a.C.o (by omega) ?_
  refine zo_bn (k_W h.a.C h.a.D h2) ?_
  refine zo_ob h.a.C.o (by omega) ?_
  obtain ⟨μ4, e4, f4⟩ := c_originsOf (w := w) (t := 1) h.a.C h.a.D W (show 0 ≤ a ∧ a < 6 by omega)
  refine zo_bn e4 ?_
  exact zo_rt ⟨μ4, rfl, f4⟩
theorem q_best {B x : Int} {S : zG} {μ : zM} {M : zD} {L : List zD} {K : zKs} {inp out : List Int} {c p : Int} {a r : Int} (h : Wd B x S μ M L K inp out c p) (h1 : 0 ≤ a ∧ a < (M.an.length : Int)) (h2 : 0 ≤ r ∧ r ≤ 2) : ∃ μ', f_X7_best x a r (S, μ) = some (.inl (M.bst a r), (S, μ')) ∧ FV (x + 5) μ μ' := by
  have h60 := h.a.D.al
  have h61 := h.a.D.wl
  have W := h.w.M
  refine zo_xq ?_
  refine j_X7_best ?_
  refine zo_ob h.a.C.o (by omega) ?_
  refine zo_bn (k_A h.a.C h.a.D h1) ?_
  refine zo_bn (k_R h2) ?_
  refine zo_gr h.a.C.o h.a.C.r3 (by omega) (by omega) ?_
  refine zo_ob h.a.C.o (by omega) ?_
  obtain ⟨μ4, e4, f4⟩ := c_bestWay (r := r) h.a.C h.a.D W (by omega) (show 0 ≤ a ∧ a < 6 by omega)
  refine zo_bn e4 ?_
  exact zo_rt ⟨μ4, rfl, f4⟩
theorem q_rivals {B x : Int} {S : zG} {μ : zM} {M : zD} {L : List zD} {K : zKs} {inp out : List Int} {c p : Int} {a : Int} (h : Wd B x S μ M L K inp out c p) (h1 : 0 ≤ a ∧ a < (M.an.length : Int)) : ∃ μ', f_X7_rivals x a (S, μ) = some (.inl (M.riv a (M.bst a 0)), (S, μ')) ∧ FV (x + 5) μ μ' := by
  have h60 := h.a.D.al
  have h61 := h.a.D.wl
  have W := h.w.M
  refine zo_xq ?_
  refine j_X7_rivals ?_
  refine zo_ob h.a.C.o (by omega) ?_
  refine zo_bn (k_A h.a.C h.a.D h1) ?_
  obtain ⟨μ4, e4, f4⟩ := c_bestWay (r := 0) h.a.C h.a.D W (by omega) (show 0 ≤ a ∧ a < 6 by omega)
  obtain ⟨μ5, e5, f5⟩ := c_rivalsOf (r := M.bst a 0) h.a.C (f4.d h.a.D) W (show 0 ≤ a ∧ a < 6 by omega)
  refine zo_gr h.a.C.o h.a.C.r3 (by omega) (by omega) ?_
  refine zo_ob h.a.C.o (by omega) ?_
  refine zo_bn e4 ?_
  refine zo_ob h.a.C.o (by omega) ?_
  refine zo_bn e5 ?_
  exact zo_rt ⟨_, rfl, FV.tr f4 f5⟩
theorem q_status {B x : Int} {S : zG} {μ : zM} {M : zD} {L : List zD} {K : zKs} {inp out : List Int} {c p : Int} {a : Int} {k : Nat} {q : zP} (hq : (M.li a)[k]? = some q) (ha : 0 ≤ a ∧ a < (M.an.length : Int)) (h : Wd B x S μ M L K inp out c p) : ∃ μ', f_X7_status x a (k : Int) (S, μ) = some (.inl (M.sts a k q), (S, μ')) ∧ FV (x + 5) μ μ' := by
  have h60 := h.a.D.al
  have h61 := h.a.D.wl
  have W := h.w.M
  have hkl : k < (M.li a).length := (List.getElem?_eq_some_iff.mp hq).1
  have h0 : (0 ≤ a ∧ a < (M.an.length : Int)) ∧ (0 ≤ (k : Int) ∧ (k : Int) < ((M.li a).length : Int)) := ⟨ha, by omega⟩
  have hqo := W.li a q (List.mem_of_getElem? hq)
  have hqv := hqo.v
  refine zo_xq ?_
  refine j_X7_status ?_
  refine zo_ob h.a.C.o (by omega) ?_
  refine zo_bn (k_P2 h.a.C h.a.D h0) ?_
  refine zo_ob h.a.C.o (by omega) ?_
  obtain ⟨μ4, e4, f4⟩ := c_statusIn h.a.C h.a.D W (show 0 ≤ a ∧ a < 6 by omega) hq
  refine zo_bn e4 ?_
  exact zo_rt ⟨μ4, rfl, f4⟩
theorem q_report {B x : Int} {S : zG} {μ : zM} {M : zD} {L : List zD} {K : zKs} {inp out : List Int} {c p : Int} {a : Int} {j : Nat} {k : Nat} {q : zP} (hq : (M.li a)[k]? = some q) (ha : 0 ≤ a ∧ a < (M.an.length : Int)) (h : Wd B x S μ M L K inp out c p) (h1 : (j : Int) ≤ 6) : ∃ μ', f_X7_report x a (k : Int) (j : Int) (S, μ) = some (.inl (q j), (S, μ')) ∧ FV (x + 5) μ μ' := by
  have h60 := h.a.D.al
  have h61 := h.a.D.wl
  have W := h.w.M
  have hkl : k < (M.li a).length := (List.getElem?_eq_some_iff.mp hq).1
  have h0 : (0 ≤ a ∧ a < (M.an.length : Int)) ∧ (0 ≤ (k : Int) ∧ (k : Int) < ((M.li a).length : Int)) := ⟨ha, by omega⟩
  have hqo := W.li a q (List.mem_of_getElem? hq)
  have hqv := hqo.v
  refine zo_xq ?_
  refine j_X7_report ?_
  refine zo_ob h.a.C.o (by omega) ?_
  refine zo_bn (k_P2 h.a.C h.a.D h0) ?_
  refine zo_bn (k_R (by omega)) ?_
  refine zo_gr h.a.C.o h.a.C.r3 (by omega) (by omega) ?_
  refine zo_ob h.a.D.sh.o (by omega) ?_
  refine zo_bn (d_listOf h.a.D (show 0 ≤ a ∧ a < 6 by omega)) ?_
  refine zo_ob (h.a.D.sh.ls a (by omega) (by omega)).o (by omega) ?_
  refine zo_bn (c_get (h.a.D.sh.ls a (by omega) (by omega)) (h.a.D.li a (by omega) (by omega)) (by have := h.a.D.ll a (by omega) (by omega); omega) (by decide) (by decide) hq (show j < 7 by omega)) ?_
  exact zo_rt ⟨_, rfl, FV.rf⟩
theorem q_moved {B x : Int} {S : zG} {μ : zM} {M : zD} {L : List zD} {K : zKs} {inp out : List Int} {c p : Int} {a e : Int} {k : Nat} {q : zP} (hq : (M.li a)[k]? = some q) (ha : 0 ≤ a ∧ a < (M.an.length : Int)) (h : Wd B x S μ M L K inp out c p) (h1 : 0 ≤ e ∧ e ≤ 1) : ∃ μ', f_X7_moved x a (k : Int) e (S, μ) = some (.inl (M.mvd a e q), (S, μ')) ∧ FV (x + 5) μ μ' := by
  have h60 := h.a.D.al
  have h61 := h.a.D.wl
  have W := h.w.M
  have hkl : k < (M.li a).length := (List.getElem?_eq_some_iff.mp hq).1
  have h0 : (0 ≤ a ∧ a < (M.an.length : Int)) ∧ (0 ≤ (k : Int) ∧ (k : Int) < ((M.li a).length : Int)) := ⟨ha, by omega⟩
  have hqo := W.li a q (List.mem_of_getElem? hq)
  have hqv := hqo.v
  refine zo_xq ?_
  refine j_X7_moved ?_
  refine zo_ob h.a.C.o (by omega) ?_
  refine zo_bn (k_P2 h.a.C h.a.D h0) ?_
  refine zo_bn (k_R h1) ?_
  have c52 : ∀ f4 : q 1 = a ∨ ¬ M.T a (q 1) = -1, zo (f_X7_moved_52 x a (k : Int) e (x + 12 + 13 + 2 * a) (S, μ)) (fun r => ∃ μ', r = (.inl (M.mvd a e q), (S, μ')) ∧ FV (x + 5) μ μ') := by
    intro hc
    have em : M.mvd a e q = if e = 0 then M.lo a q else M.hi a q := if_pos hc
    refine j_X7_moved_52 ?_
    refine zo_gr h.a.C.o h.a.C.r3 (by omega) (by omega) ?_
    refine zo_ob h.a.D.sh.o (by omega) ?_
    refine zo_bn (d_spreadOf h.a.D (show 0 ≤ a ∧ a < 6 by omega) hq (by omega)) ?_
    by_cases he : e = 0
    · rw [em.trans (if_pos he)]
      refine zo_pos he ?_
      refine zo_ob (h.a.D.sh.ls a (by omega) (by omega)).o (by omega) ?_
      refine zo_bn (d_lowMoved h.a.D (show 0 ≤ a ∧ a < 6 by omega) hq) ?_
      exact zo_rt ⟨_, rfl, FV.rf⟩
    · rw [em.trans (if_neg he)]
      refine zo_neg he ?_
      refine zo_ob (h.a.D.sh.ls a (by omega) (by omega)).o (by omega) ?_
      refine zo_bn (d_highMoved h.a.D (show 0 ≤ a ∧ a < 6 by omega) hq) ?_
      exact zo_rt ⟨_, rfl, FV.rf⟩
  refine zo_gr h.a.C.o h.a.C.r3 (by omega) (by omega) ?_
  refine zo_ob h.a.D.sh.o (by omega) ?_
  refine zo_bn (d_listOf h.a.D (show 0 ≤ a ∧ a < 6 by omega)) ?_
  refine zo_ob (h.a.D.sh.ls a (by omega) (by omega)).o (by omega) ?_
  refine zo_bn (d_get1 h.a.D (show 0 ≤ a ∧ a < 6 by omega) hq) ?_
  refine zo_ite (fun h4 => c52 (Or.inl h4)) (fun h4 => ?_)
  refine zo_gr h.a.C.o h.a.C.r3 (by omega) (by omega) ?_
  refine zo_ob h.a.D.sh.o (by omega) ?_
  refine zo_bn (d_isLinked h.a.D (show 0 ≤ a ∧ a < 6 by omega) (show 0 ≤ q 1 ∧ q 1 < 6 by omega)) ?_
  refine zo_zb (fun h5 => ?_) (fun h5 => c52 (Or.inr h5))
  have em : M.mvd a e q = -1 := if_neg (fun z => z.elim h4 (fun y => h5 y))
  exact zo_rt ⟨_, by rw [em], FV.rf⟩
theorem q_regret {B x : Int} {S : zG} {μ : zM} {M : zD} {L : List zD} {K : zKs} {inp out : List Int} {c p : Int} {a : Int} (h : Wd B x S μ M L K inp out c p) (h1 : 0 ≤ a ∧ a < (M.an.length : Int)) : ∃ μ', f_X7_regret x a (S, μ) = some (.inl (M.rgt a), (S, μ')) ∧ FV (x + 5) μ μ' := by
  have h60 := h.a.D.al
  have h61 := h.a.D.wl
  have W := h.w.M
  refine zo_xq ?_
  refine j_X7_regret ?_
  refine zo_ob h.a.C.o (by omega) ?_
  refine zo_bn (k_A h.a.C h.a.D h1) ?_
  refine zo_gr h.a.C.o h.a.C.r3 (by omega) (by omega) ?_
  refine zo_gr h.a.D.sh.o h.a.D.sh.r2 (by omega) (by omega) ?_
  refine zo_gf h.a.D.sh.wa.o h.a.D.wn0 (by omega) (by omega) ?_
  by_cases hw0 : M.wn.length = 0
  · have er : M.rgt a = -1 := if_pos hw0
    refine zo_pos (by omega) ?_
    exact zo_rt ⟨_, by rw [er], FV.rf⟩
  · have er : M.rgt a = w32 (M.bnd a (M.bst a 0) 1 - M.bnd a (M.bst a 1) 0) := if_neg hw0
    refine zo_neg (by omega) ?_
    obtain ⟨μ4, e4, f4⟩ := c_bestWay (r := 0) h.a.C h.a.D W (by omega) (show 0 ≤ a ∧ a < 6 by omega)
    obtain ⟨μ5, e5, f5⟩ := c_believed (w := M.bst a 0) (e := 1) h.a.C (f4.d h.a.D) W (by omega) (show 0 ≤ a ∧ a < 6 by omega)
    obtain ⟨μ6, e6, f6⟩ := c_bestWay (r := 1) h.a.C ((FV.tr f4 f5).d h.a.D) W (by omega) (show 0 ≤ a ∧ a < 6 by omega)
    obtain ⟨μ7, e7, f7⟩ := c_believed (w := M.bst a 1) (e := 0) h.a.C ((FV.tr (FV.tr f4 f5) f6).d h.a.D) W (by omega) (show 0 ≤ a ∧ a < 6 by omega)
    refine zo_gr h.a.C.o h.a.C.r3 (by omega) (by omega) ?_
    refine zo_gr h.a.C.o h.a.C.r3 (by omega) (by omega) ?_
    refine zo_ob h.a.C.o (by omega) ?_
    refine zo_bn e4 ?_
    refine zo_ob h.a.C.o (by omega) ?_
    refine zo_bn e5 ?_
    refine zo_gr h.a.C.o h.a.C.r3 (by omega) (by omega) ?_
    refine zo_gr h.a.C.o h.a.C.r3 (by omega) (by omega) ?_
    refine zo_ob h.a.C.o (by omega) ?_
    refine zo_bn e6 ?_
    refine zo_ob h.a.C.o (by omega) ?_
    refine zo_bn e7 ?_
    exact zo_rt ⟨_, by rw [er], FV.tr (FV.tr (FV.tr f4 f5) f6) f7⟩
theorem q_property {B x : Int} {S : zG} {μ : zM} {M : zD} {L : List zD} {K : zKs} {inp out : List Int} {c p : Int} {w : Int} (h : Wd B x S μ M L K inp out c p) (h1 : 0 ≤ w ∧ w ≤ 9) : ∃ μ', f_X7_property x w (S, μ) = some (.inl (M.prp w), (S, μ')) ∧ FV (x + 5) μ μ' := by
  have h60 := h.a.D.al
  have h61 := h.a.D.wl
  have W := h.w.M
  refine zo_xq ?_
  refine j_X7_property ?_
  refine zo_bn (k_R h1) ?_
  have hc : w = 0 ∨ w = 1 ∨ w = 2 ∨ w = 3 ∨ w = 4 ∨ w = 5 ∨ w = 6 ∨ w = 7 ∨ w = 8 ∨ w = 9 := by omega
  rcases hc with z | z | z | z | z | z | z | z | z | z <;> subst z
  · refine zo_tb _ 0 0 rfl (by decide) ?_
    refine zo_gr h.a.C.o h.a.C.r3 (by omega) (by omega) ?_
    refine zo_gr h.a.D.sh.o h.a.D.sh.r1 (by omega) (by omega) ?_
    refine zo_gf h.a.D.sh.ag.o h.a.D.an0 (by omega) (by omega) ?_
    exact zo_rt ⟨_, rfl, FV.rf⟩
  · refine zo_tb _ 0 1 rfl (by decide) ?_
    refine zo_gr h.a.C.o h.a.C.r3 (by omega) (by omega) ?_
    refine zo_gr h.a.D.sh.o h.a.D.sh.r2 (by omega) (by omega) ?_
    refine zo_gf h.a.D.sh.wa.o h.a.D.wn0 (by omega) (by omega) ?_
    exact zo_rt ⟨_, rfl, FV.rf⟩
  · refine zo_tb _ 0 2 rfl (by decide) ?_
    refine zo_gr h.a.C.o h.a.C.r3 (by omega) (by omega) ?_
    refine zo_gf h.a.D.sh.o h.a.D.tm (by omega) (by omega) ?_
    exact zo_rt ⟨_, rfl, FV.rf⟩
  · refine zo_tb _ 0 3 rfl (by decide) ?_
    have e3 : w32 (3 - 3) = 0 := w32_e (by decide)
    rw [e3]
    refine zo_gr h.a.C.o h.a.C.r3 (by omega) (by omega) ?_
    refine zo_ob h.a.D.sh.o (by omega) ?_
    refine zo_bn (d_rule h.a.D (i := 0) (by decide)) ?_
    exact zo_rt ⟨_, rfl, FV.rf⟩
  · refine zo_tb _ 0 4 rfl (by decide) ?_
    have e3 : w32 (4 - 3) = 1 := w32_e (by decide)
    rw [e3]
    refine zo_gr h.a.C.o h.a.C.r3 (by omega) (by omega) ?_
    refine zo_ob h.a.D.sh.o (by omega) ?_
    refine zo_bn (d_rule h.a.D (i := 1) (by decide)) ?_
    exact zo_rt ⟨_, rfl, FV.rf⟩
  · refine zo_tb _ 0 5 rfl (by decide) ?_
    have e3 : w32 (5 - 3) = 2 := w32_e (by decide)
    rw [e3]
    refine zo_gr h.a.C.o h.a.C.r3 (by omega) (by omega) ?_
    refine zo_ob h.a.D.sh.o (by omega) ?_
    refine zo_bn (d_rule h.a.D (i := 2) (by decide)) ?_
    exact zo_rt ⟨_, rfl, FV.rf⟩
  · refine zo_tb _ 0 6 rfl (by decide) ?_
    have e3 : w32 (6 - 3) = 3 := w32_e (by decide)
    rw [e3]
    refine zo_gr h.a.C.o h.a.C.r3 (by omega) (by omega) ?_
    refine zo_ob h.a.D.sh.o (by omega) ?_
    refine zo_bn (d_rule h.a.D (i := 3) (by decide)) ?_
    exact zo_rt ⟨_, rfl, FV.rf⟩
  · refine zo_tb _ 0 7 rfl (by decide) ?_
    have e3 : w32 (7 - 3) = 4 := w32_e (by decide)
    rw [e3]
    refine zo_gr h.a.C.o h.a.C.r3 (by omega) (by omega) ?_
    refine zo_ob h.a.D.sh.o (by omega) ?_
    refine zo_bn (d_rule h.a.D (i := 4) (by decide)) ?_
    exact zo_rt ⟨_, rfl, FV.rf⟩
  · refine zo_tb _ 0 8 rfl (by decide) ?_
    refine zo_gr h.a.C.o h.a.C.r3 (by omega) (by omega) ?_
    refine zo_gr h.a.D.sh.o h.a.D.sh.r6 (by omega) (by omega) ?_
    refine zo_gf h.a.D.sh.qu.o h.a.D.qu.1 (by omega) (by omega) ?_
    exact zo_rt ⟨_, rfl, FV.rf⟩
  · refine zo_tb _ 0 9 rfl (by decide) ?_
    refine zo_gr h.a.C.o h.a.C.r3 (by omega) (by omega) ?_
    refine zo_ob h.a.D.sh.o (by omega) ?_
    refine zo_bn (d_linkCount h.a.D) ?_
    exact zo_rt ⟨_, rfl, FV.rf⟩
theorem q_nextProbe {B x : Int} {S : zG} {μ : zM} {M : zD} {L : List zD} {K : zKs} {inp out : List Int} {c p : Int} {a : Int} (h : Wd B x S μ M L K inp out c p) (h1 : 0 ≤ a ∧ a < (M.an.length : Int)) : ∃ μ', f_X7_nextProbe x a (S, μ) = some (.inl (M.nxp a), (S, μ')) ∧ FV (x + 5) μ μ' := by
  have h60 := h.a.D.al
  have h61 := h.a.D.wl
  have W := h.w.M
  refine zo_xq ?_
  refine j_X7_nextProbe ?_
  refine zo_ob h.a.C.o (by omega) ?_
  refine zo_bn (k_A h.a.C h.a.D h1) ?_
  obtain ⟨μ4, e4, f4⟩ := c_bestWay (r := 0) h.a.C h.a.D W (by omega) (show 0 ≤ a ∧ a < 6 by omega)
  obtain ⟨μ5, e5, f5⟩ := c_rivalsOf (r := M.bst a 0) h.a.C (f4.d h.a.D) W (show 0 ≤ a ∧ a < 6 by omega)
  refine zo_gr h.a.C.o h.a.C.r3 (by omega) (by omega) ?_
  refine zo_ob h.a.C.o (by omega) ?_
  refine zo_bn e4 ?_
  refine zo_ob h.a.C.o (by omega) ?_
  refine zo_bn e5 ?_
  by_cases hz : M.riv a (M.bst a 0) = 0
  · have er : M.nxp a = -1 := if_pos hz
    refine zo_pos hz ?_
    exact zo_rt ⟨_, by rw [er], FV.tr f4 f5⟩
  · have er : M.nxp a = (zlp (znps M a (M.bst a 0) (M.riv a (M.bst a 0))) 0 M.wn.length (-1, -1)).1 := if_neg hz
    rw [er]
    refine zo_neg hz ?_
    refine zo_mono (c_nextP h.a.C h.a.D W (show 0 ≤ a ∧ a < 6 by omega) (FV.tr f4 f5)) ?_
    rintro r ⟨μ6, hr, f6⟩
    exact ⟨μ6, hr, f6⟩
theorem q_saved {B x : Int} {S : zG} {μ : zM} {M : zD} {L : List zD} {K : zKs} {inp out : List Int} {c p : Int} {a : Int} (h : Wd B x S μ M L K inp out c p) (h1 : 0 ≤ a ∧ a < (M.an.length : Int)) : ∃ μ', f_X7_saved x a (S, μ) = some (.inl (M.svd a), (S, μ')) ∧ FV (x + 5) μ μ' := by
  have h60 := h.a.D.al
  have h61 := h.a.D.wl
  have W := h.w.M
  refine zo_xq ?_
  refine j_X7_saved ?_
  refine zo_ob h.a.C.o (by omega) ?_
  refine zo_bn (k_A h.a.C h.a.D h1) ?_
  refine zo_mono (c_saved h.a.C h.a.D W (show 0 ≤ a ∧ a < 6 by omega)) ?_
  rintro r ⟨μ4, hr, f4⟩
  exact ⟨μ4, hr, f4⟩
theorem q_agreeing {B x : Int} {S : zG} {μ : zM} {M : zD} {L : List zD} {K : zKs} {inp out : List Int} {c p : Int} {a o : Int} (h : Wd B x S μ M L K inp out c p) (h1 : 0 ≤ a ∧ a < (M.an.length : Int)) (h2 : 0 ≤ o ∧ o < (M.an.length : Int)) : ∃ μ', f_X7_agreeing x a o (S, μ) = some (.inl (M.agr a o), (S, μ')) ∧ FV (x + 5) μ μ' := by
  have h60 := h.a.D.al
  have h61 := h.a.D.wl
  have W := h.w.M
  refine zo_xq ?_
  refine j_X7_agreeing ?_
  refine zo_ob h.a.C.o (by omega) ?_
  refine zo_bn (k_A h.a.C h.a.D h1) ?_
  refine zo_ob h.a.C.o (by omega) ?_
  refine zo_bn (k_A h.a.C h.a.D h2) ?_
  refine zo_mono (c_agree h.a.C h.a.D W (show 0 ≤ a ∧ a < 6 by omega) (by omega)) ?_
  rintro r ⟨μ4, hr, f4⟩
  exact ⟨μ4, hr, f4⟩
theorem q_common {B x : Int} {S : zG} {μ : zM} {M : zD} {L : List zD} {K : zKs} {inp out : List Int} {c p : Int} {w e : Int} (h : Wd B x S μ M L K inp out c p) (h1 : 0 ≤ w ∧ w < (M.wn.length : Int)) (h2 : 0 ≤ e ∧ e ≤ 1) : ∃ μ', f_X7_common x w e (S, μ) = some (.inl (M.cmn w e), (S, μ')) ∧ FV (x + 5) μ μ' := by
  have h60 := h.a.D.al
  have h61 := h.a.D.wl
  have W := h.w.M
  refine zo_xq ?_
  refine j_X7_common ?_
  refine zo_ob h.a.C.o (by omega) ?_
  refine zo_bn (k_W h.a.C h.a.D h1) ?_
  refine zo_bn (k_R h2) ?_
  refine zo_mono (c_comm h.a.C h.a.D) ?_
  rintro r rfl
  exact ⟨_, rfl, FV.rf⟩
theorem q_majority {B x : Int} {S : zG} {μ : zM} {M : zD} {L : List zD} {K : zKs} {inp out : List Int} {c p : Int} {a w : Int} (h : Wd B x S μ M L K inp out c p) (h1 : 0 ≤ a ∧ a < (M.an.length : Int)) (h2 : 0 ≤ w ∧ w < (M.wn.length : Int)) : ∃ μ', f_X7_majority x a w (S, μ) = some (.inl (M.agd a w).2, (S, μ')) ∧ FV (x + 5) μ μ' := by
  have h60 := h.a.D.al
  have h61 := h.a.D.wl
  have W := h.w.M
  refine zo_xq ?_
  refine j_X7_majority ?_
  refine zo_ob h.a.C.o (by omega) ?_
  refine zo_bn (k_A h.a.C h.a.D h1) ?_
  refine zo_ob h.a.C.o (by omega) ?_
  refine zo_bn (k_W h.a.C h.a.D h2) ?_
  obtain ⟨μ1, e1, h1v, f1⟩ := c_form (w := w) (x := -1) h.a.C.V h.a.D W (by omega) (show 0 ≤ a ∧ a < 6 by omega)
  refine zo_gr h.a.C.o h.a.C.r2 (by omega) (by omega) ?_
  refine zo_gr h.a.C.o h.a.C.r3 (by omega) (by omega) ?_
  refine zo_ob h.a.C.V.o (by omega) ?_
  refine zo_bn e1 ?_
  refine zo_gr h.a.C.o h.a.C.r2 (by omega) (by omega) ?_
  refine zo_ob h.a.C.V.o (by omega) ?_
  have el := c_largest h.a.C.V h1v
  rw [maj_eq W] at el
  refine zo_bn el ?_
  exact zo_rt ⟨μ1, rfl, f1⟩
theorem q_majorityBound {B x : Int} {S : zG} {μ : zM} {M : zD} {L : List zD} {K : zKs} {inp out : List Int} {c p : Int} {a w e : Int} (h : Wd B x S μ M L K inp out c p) (h1 : 0 ≤ a ∧ a < (M.an.length : Int)) (h2 : 0 ≤ w ∧ w < (M.wn.length : Int)) (h3 : 0 ≤ e ∧ e ≤ 1) : ∃ μ', f_X7_majorityBound x a w e (S, μ) = some (.inl (M.mjb a w e), (S, μ')) ∧ FV (x + 5) μ μ' := by
  have h60 := h.a.D.al
  have h61 := h.a.D.wl
  have W := h.w.M
  refine zo_xq ?_
  refine j_X7_majorityBound ?_
  refine zo_ob h.a.C.o (by omega) ?_
  refine zo_bn (k_A h.a.C h.a.D h1) ?_
  refine zo_ob h.a.C.o (by omega) ?_
  refine zo_bn (k_W h.a.C h.a.D h2) ?_
  refine zo_bn (k_R h3) ?_
  obtain ⟨μ1, e1, h1v, f1⟩ := c_form (w := w) (x := -1) h.a.C.V h.a.D W (by omega) (show 0 ≤ a ∧ a < 6 by omega)
  refine zo_gr h.a.C.o h.a.C.r2 (by omega) (by omega) ?_
  refine zo_gr h.a.C.o h.a.C.r3 (by omega) (by omega) ?_
  refine zo_ob h.a.C.V.o (by omega) ?_
  refine zo_bn e1 ?_
  refine zo_gr h.a.C.o h.a.C.r2 (by omega) (by omega) ?_
  refine zo_ob h.a.C.V.o (by omega) ?_
  have el := c_largest h.a.C.V h1v
  rw [maj_eq W] at el
  refine zo_bn el ?_
  by_cases hz : (M.agd a w).2 = 0
  · have er : M.mjb a w e = -1 := if_pos hz
    refine zo_pos hz ?_
    exact zo_rt ⟨μ1, by rw [er], f1⟩
  · refine zo_neg hz ?_
    have hag := agd_ok (a := a) (w := w) W 1000
    have hagd : M.agd a w = zlp (zast M a w) 0 1000 (-1, 0) := rfl
    rw [← hagd] at hag
    have e2 : (M.agd a w).2 = M.hset a w (M.agd a w).1 := by
      rcases hag with ⟨k1, k2, k3⟩ | ⟨k1, k2, k3, k4⟩
      · exact absurd k2 hz
      · exact k2
    by_cases he : e = 0
    · have er : M.mjb a w e = zfx (M.lo a) (zhn M a w (M.agd a w).1) (M.li a) 0 := (if_neg hz).trans (if_pos he)
      refine zo_pos he ?_
      refine zo_gr h.a.C.o h.a.C.r2 (by omega) (by omega) ?_
      refine zo_ob h.a.C.V.o (by omega) ?_
      refine zo_bn (c_lowOf h.a.C.V h1v) ?_
      rw [e2, low_eq W]
      exact zo_rt ⟨μ1, by rw [er], f1⟩
    · have er : M.mjb a w e = zfy (M.hi a) (zhn M a w (M.agd a w).1) (M.li a) 999 := (if_neg hz).trans (if_neg he)
      refine zo_neg he ?_
      refine zo_gr h.a.C.o h.a.C.r2 (by omega) (by omega) ?_
      refine zo_ob h.a.C.V.o (by omega) ?_
      refine zo_bn (c_highOf h.a.C.V h1v) ?_
      rw [e2, high_eq W]
      exact zo_rt ⟨μ1, by rw [er], f1⟩
theorem q_errorCode {B x : Int} {S : zG} {μ : zM} {M : zD} {L : List zD} {K : zKs} {inp out : List Int} {c p : Int} (h : Wd B x S μ M L K inp out c p) : f_X7_errorCode x (S, μ) = some (.inl c, (S, μ)) := by
  apply zo_un
  refine j_X7_errorCode ?_
  refine zo_gr h.a.C.o h.a.C.r5 (by omega) (by omega) ?_
  refine zo_gf h.a.po h.a.pc (by omega) (by omega) ?_
  exact zo_rt rfl
theorem q_errorPosition {B x : Int} {S : zG} {μ : zM} {M : zD} {L : List zD} {K : zKs} {inp out : List Int} {c p : Int} (h : Wd B x S μ M L K inp out c p) : f_X7_errorPosition x (S, μ) = some (.inl p, (S, μ)) := by
  apply zo_un
  refine j_X7_errorPosition ?_
  refine zo_gr h.a.C.o h.a.C.r5 (by omega) (by omega) ?_
  refine zo_gf h.a.po h.a.pp (by omega) (by omega) ?_
  exact zo_rt rfl
theorem q_push {B x : Int} {S : zG} {μ : zM} {M : zD} {L : List zD} {K : zKs} {inp out : List Int} {c p : Int} {f7 : zS → zFn} {v : Int} {M' : zD} (h : Wd B x S μ M L K inp out c p) (hB : B + 99 ≤ 1000000) (hM : WF (B + 99) M')
    (e7 : ∀ S1 μ1, f_X2_push (x + 63) (x + 12) (S, μ) = some (.inl 0, (S1, μ1)) → W7 S1 μ1 x M (zpush L M) K inp out c p → ∃ μ2, f7 (S, μ) = some (.inl v, (S1, μ2)) ∧ (D7 S1 μ2 (x + 12) M' ∧ FW x μ1 μ2)) : ∃ S1 μ2, f7 (S, μ) = some (.inl v, (S1, μ2)) ∧ Wd (B + 99) x S1 μ2 M' (zpush L M) K inp out c p := by
  obtain ⟨S1, μ1, e1, h1, f1⟩ := w7_push h.a
  obtain ⟨μ2, e2, h2, f2⟩ := e7 S1 μ1 e1 h1
  exact ⟨S1, μ2, e2, Wd.mk ⟨h1.desk2 h2 f2, h.w.psh hM hB⟩⟩
theorem fw_r {x : Int} {μ μ' : zM} (f : FR (x + 12) μ μ') : FW x μ μ' := fun y h1 h2 => f y (by omega)
theorem fw_v {x : Int} {μ μ' : zM} (f : FV (x + 5) μ μ') : FW x μ μ' := fun y h1 h2 => f y (by omega)
theorem q_probe {B x : Int} {S : zG} {μ : zM} {M : zD} {L : List zD} {K : zKs} {inp out : List Int} {c p : Int} {a w lo hi : Int} (h : Wd B x S μ M L K inp out c p) (hB : B + 99 ≤ 1000000) (h1 : 0 ≤ a ∧ a < (M.an.length : Int)) (h2 : 0 ≤ w ∧ w < (M.wn.length : Int)) (h3 : 0 ≤ lo ∧ lo ≤ hi ∧ hi ≤ 999) : ∃ S1 μ2, f_X7_probe x a w lo hi (S, μ) = some (.inl (M.prb a w lo hi).2, (S1, μ2)) ∧ Wd (B + 99) x S1 μ2 (M.prb a w lo hi).1 (zpush L M) K inp out c p := by
  have h60 := h.a.D.al
  have h61 := h.a.D.wl
  have W := h.w.M
  refine q_push (v := (M.prb a w lo hi).2) (M' := (M.prb a w lo hi).1) h hB ((W.prb h1 h2 h3).up hB) ?_
  intro S1 μ1 e1 h1p
  obtain ⟨rH, hH⟩ := h.a.H
  refine zo_x7 ?_
  refine j_X7_probe ?_
  refine zo_ob h.a.C.o (by omega) ?_
  refine zo_bn (k_A h.a.C h.a.D h1) ?_
  refine zo_ob h.a.C.o (by omega) ?_
  refine zo_bn (k_W h.a.C h.a.D h2) ?_
  refine zo_bn (k_B h3) ?_
  refine zo_gr h.a.C.o h.a.C.r6 (by omega) (by omega) ?_
  refine zo_gr h.a.C.o h.a.C.r3 (by omega) (by omega) ?_
  refine zo_ob hH.o (by omega) ?_
  refine zo_bn e1 ?_
  refine zo_gr h1p.C.o h1p.C.r3 (by omega) (by omega) ?_
  refine zo_ob h1p.D.sh.o (by omega) ?_
  obtain ⟨μ5, e5, h5, f5⟩ := d_makeProbe h1p.D W h1 h2 h3
  refine zo_bn e5 ?_
  exact zo_rt ⟨μ5, rfl, h5, fw_r f5⟩
theorem q_share {B x : Int} {S : zG} {μ : zM} {M : zD} {L : List zD} {K : zKs} {inp out : List Int} {c p : Int} {a : Int} (h : Wd B x S μ M L K inp out c p) (hB : B + 99 ≤ 1000000) (h1 : 0 ≤ a ∧ a < (M.an.length : Int)) : ∃ S1 μ2, f_X7_share x a (S, μ) = some (.inl ((M.snd a 1).qu.length - M.qu.length : Int), (S1, μ2)) ∧ Wd (B + 99) x S1 μ2 (M.snd a 1) (zpush L M) K inp out c p := by
  have h60 := h.a.D.al
  have h61 := h.a.D.wl
  have W := h.w.M
  refine q_push (v := ((M.snd a 1).qu.length - M.qu.length : Int)) (M' := (M.snd a 1)) h hB ((W.snd (by decide) h1).1.up hB) ?_
  intro S1 μ1 e1 h1p
  obtain ⟨rH, hH⟩ := h.a.H
  refine zo_x7 ?_
  refine j_X7_share ?_
  refine zo_ob h.a.C.o (by omega) ?_
  refine zo_bn (k_A h.a.C h.a.D h1) ?_
  refine zo_gr h.a.C.o h.a.C.r6 (by omega) (by omega) ?_
  refine zo_gr h.a.C.o h.a.C.r3 (by omega) (by omega) ?_
  refine zo_ob hH.o (by omega) ?_
  refine zo_bn e1 ?_
  refine zo_gr h1p.C.o h1p.C.r3 (by omega) (by omega) ?_
  refine zo_ob h1p.D.sh.o (by omega) ?_
  obtain ⟨μ5, e5, h5, f5⟩ := d_sendReports (hp' := 1) h1p.D (show 0 ≤ a ∧ a < 6 by omega)
  refine zo_bn e5 ?_
  exact zo_rt ⟨μ5, rfl, h5, fw_r f5⟩
theorem q_relay {B x : Int} {S : zG} {μ : zM} {M : zD} {L : List zD} {K : zKs} {inp out : List Int} {c p : Int} {a : Int} (h : Wd B x S μ M L K inp out c p) (hB : B + 99 ≤ 1000000) (h1 : 0 ≤ a ∧ a < (M.an.length : Int)) : ∃ S1 μ2, f_X7_relay x a (S, μ) = some (.inl ((M.snd a (M.ru 4)).qu.length - M.qu.length : Int), (S1, μ2)) ∧ Wd (B + 99) x S1 μ2 (M.snd a (M.ru 4)) (zpush L M) K inp out c p := by
  have h60 := h.a.D.al
  have h61 := h.a.D.wl
  have W := h.w.M
  refine q_push (v := ((M.snd a (M.ru 4)).qu.length - M.qu.length : Int)) (M' := (M.snd a (M.ru 4))) h hB ((W.snd W.r4.2 h1).1.up hB) ?_
  intro S1 μ1 e1 h1p
  obtain ⟨rH, hH⟩ := h.a.H
  refine zo_x7 ?_
  refine j_X7_relay ?_
  refine zo_ob h.a.C.o (by omega) ?_
  refine zo_bn (k_A h.a.C h.a.D h1) ?_
  refine zo_gr h.a.C.o h.a.C.r6 (by omega) (by omega) ?_
  refine zo_gr h.a.C.o h.a.C.r3 (by omega) (by omega) ?_
  refine zo_ob hH.o (by omega) ?_
  refine zo_bn e1 ?_
  refine zo_gr h1p.C.o h1p.C.r3 (by omega) (by omega) ?_
  refine zo_gr h1p.C.o h1p.C.r3 (by omega) (by omega) ?_
  refine zo_ob h1p.D.sh.o (by omega) ?_
  refine zo_bn (d_rule h1p.D (show 0 ≤ (4 : Int) ∧ (4 : Int) < 5 by decide)) ?_
  refine zo_ob h1p.D.sh.o (by omega) ?_
  obtain ⟨μ5, e5, h5, f5⟩ := d_sendReports (hp' := M.ru 4) h1p.D (show 0 ≤ a ∧ a < 6 by omega)
  refine zo_bn e5 ?_
  exact zo_rt ⟨μ5, rfl, h5, fw_r f5⟩
theorem q_deliver {B x : Int} {S : zG} {μ : zM} {M : zD} {L : List zD} {K : zKs} {inp out : List Int} {c p : Int} {j : Nat} (h : Wd B x S μ M L K inp out c p) (hB : B + 99 ≤ 1000000) (h1 : 1 ≤ j ∧ j ≤ 100) : ∃ S1 μ2, f_X7_deliver x (j : Int) (S, μ) = some (.inl (M.dlv j).2, (S1, μ2)) ∧ Wd (B + 99) x S1 μ2 (M.dlv j).1 (zpush L M) K inp out c p := by
  have h60 := h.a.D.al
  have h61 := h.a.D.wl
  have W := h.w.M
  refine q_push (v := (M.dlv j).2) (M' := (M.dlv j).1) h hB ((W.dlv j).up hB) ?_
  intro S1 μ1 e1 h1p
  obtain ⟨rH, hH⟩ := h.a.H
  refine zo_x7 ?_
  refine j_X7_deliver ?_
  refine zo_bn (k_R (by omega)) ?_
  refine zo_gr h.a.C.o h.a.C.r6 (by omega) (by omega) ?_
  refine zo_gr h.a.C.o h.a.C.r3 (by omega) (by omega) ?_
  refine zo_ob hH.o (by omega) ?_
  refine zo_bn e1 ?_
  refine zo_gr h1p.C.o h1p.C.r3 (by omega) (by omega) ?_
  refine zo_ob h1p.D.sh.o (by omega) ?_
  obtain ⟨μ5, e5, h5, f5⟩ := d_deliverFirst h1p.D W (a1 := (j : Int)) (n := min j M.qu.length) (by omega)
  rw [dlv_mn M j] at e5 h5
  refine zo_bn e5 ?_
  exact zo_rt ⟨μ5, rfl, h5, fw_r f5⟩
theorem q_pass {B x : Int} {S : zG} {μ : zM} {M : zD} {L : List zD} {K : zKs} {inp out : List Int} {c p : Int} {t : Int} (h : Wd B x S μ M L K inp out c p) (hB : B + 99 ≤ 1000000) (h1 : 1 ≤ t ∧ t ≤ 99) : ∃ S1 μ2, f_X7_pass x t (S, μ) = some (.inl (M.pas t).2, (S1, μ2)) ∧ Wd (B + 99) x S1 μ2 (M.pas t).1 (zpush L M) K inp out c p := by
  have h60 := h.a.D.al
  have h61 := h.a.D.wl
  have W := h.w.M
  refine q_push (v := (M.pas t).2) (M' := (M.pas t).1) h hB (W.pas (by omega) hB) ?_
  intro S1 μ1 e1 h1p
  obtain ⟨rH, hH⟩ := h.a.H
  refine zo_x7 ?_
  refine j_X7_pass ?_
  refine zo_bn (k_R h1) ?_
  refine zo_gr h.a.C.o h.a.C.r6 (by omega) (by omega) ?_
  refine zo_gr h.a.C.o h.a.C.r3 (by omega) (by omega) ?_
  refine zo_ob hH.o (by omega) ?_
  refine zo_bn e1 ?_
  refine zo_gr h1p.C.o h1p.C.r3 (by omega) (by omega) ?_
  refine zo_ob h1p.D.sh.o (by omega) ?_
  obtain ⟨μ5, e5, h5, f5⟩ := d_letPass (t := t) h1p.D
  refine zo_bn e5 ?_
  exact zo_rt ⟨μ5, rfl, h5, fw_r f5⟩
theorem q_exchange {B x : Int} {S : zG} {μ : zM} {M : zD} {L : List zD} {K : zKs} {inp out : List Int} {c p : Int} {j : Nat} (h : Wd B x S μ M L K inp out c p) (hB : B + 99 ≤ 1000000) (h1 : 1 ≤ j ∧ j ≤ 6) : ∃ S1 μ2, f_X7_exchange x (j : Int) (S, μ) = some (.inl (M.rds j).2, (S1, μ2)) ∧ Wd (B + 99) x S1 μ2 (M.rds j).1 (zpush L M) K inp out c p := by
  have h60 := h.a.D.al
  have h61 := h.a.D.wl
  have W := h.w.M
  refine q_push (v := (M.rds j).2) (M' := (M.rds j).1) h hB ((W.rds j).up hB) ?_
  intro S1 μ1 e1 h1p
  obtain ⟨rH, hH⟩ := h.a.H
  refine zo_x7 ?_
  refine j_X7_exchange ?_
  refine zo_bn (k_R (by omega)) ?_
  refine zo_gr h.a.C.o h.a.C.r6 (by omega) (by omega) ?_
  refine zo_gr h.a.C.o h.a.C.r3 (by omega) (by omega) ?_
  refine zo_ob hH.o (by omega) ?_
  refine zo_bn e1 ?_
  refine zo_gr h1p.C.o h1p.C.r3 (by omega) (by omega) ?_
  refine zo_ob h1p.D.sh.o (by omega) ?_
  obtain ⟨μ5, e5, h5, f5⟩ := d_makeRounds (R := j) h1p.D W (by omega)
  refine zo_bn e5 ?_
  exact zo_rt ⟨μ5, rfl, h5, fw_r f5⟩
theorem q_forget {B x : Int} {S : zG} {μ : zM} {M : zD} {L : List zD} {K : zKs} {inp out : List Int} {c p : Int} {a w : Int} (h : Wd B x S μ M L K inp out c p) (hB : B + 99 ≤ 1000000) (h1 : 0 ≤ a ∧ a < (M.an.length : Int)) (h2 : 0 ≤ w ∧ w < (M.wn.length : Int)) : ∃ S1 μ2, f_X7_forget x a w (S, μ) = some (.inl ((M.li a).length - ((M.li a).filter (zkf w)).length : Int), (S1, μ2)) ∧ Wd (B + 99) x S1 μ2 (M.wli (zup1 M.li a ((M.li a).filter (zkf w)))) (zpush L M) K inp out c p := by
  have h60 := h.a.D.al
  have h61 := h.a.D.wl
  have W := h.w.M
  refine q_push (v := ((M.li a).length - ((M.li a).filter (zkf w)).length : Int)) (M' := (M.wli (zup1 M.li a ((M.li a).filter (zkf w))))) h hB ((W.fil h1 _).up hB) ?_
  intro S1 μ1 e1 h1p
  obtain ⟨rH, hH⟩ := h.a.H
  refine zo_x7 ?_
  refine j_X7_forget ?_
  refine zo_ob h.a.C.o (by omega) ?_
  refine zo_bn (k_A h.a.C h.a.D h1) ?_
  refine zo_ob h.a.C.o (by omega) ?_
  refine zo_bn (k_W h.a.C h.a.D h2) ?_
  refine zo_gr h.a.C.o h.a.C.r6 (by omega) (by omega) ?_
  refine zo_gr h.a.C.o h.a.C.r3 (by omega) (by omega) ?_
  refine zo_ob hH.o (by omega) ?_
  refine zo_bn e1 ?_
  refine zo_gr h1p.C.o h1p.C.r3 (by omega) (by omega) ?_
  refine zo_ob h1p.D.sh.o (by omega) ?_
  refine zo_bn (d_listOf h1p.D (show 0 ≤ a ∧ a < 6 by omega)) ?_
  obtain ⟨μ5, e5, h5, f5⟩ := d_removeAll (w := w) (s := -1) h1p.D (show 0 ≤ a ∧ a < 6 by omega)
  rw [fil_forget W] at e5 h5
  refine zo_ob (h1p.D.sh.ls a (by omega) (by omega)).o (by omega) ?_
  refine zo_bn e5 ?_
  exact zo_rt ⟨μ5, rfl, h5, fw_r f5⟩
theorem q_cleanse {B x : Int} {S : zG} {μ : zM} {M : zD} {L : List zD} {K : zKs} {inp out : List Int} {c p : Int} {a : Int} (h : Wd B x S μ M L K inp out c p) (hB : B + 99 ≤ 1000000) (h1 : 0 ≤ a ∧ a < (M.an.length : Int)) : ∃ S1 μ2, f_X7_cleanse x a (S, μ) = some (.inl ((M.li a).length - ((M.li a).filter (zka M a)).length : Int), (S1, μ2)) ∧ Wd (B + 99) x S1 μ2 (M.wli (zup1 M.li a ((M.li a).filter (zka M a)))) (zpush L M) K inp out c p := by
  have h60 := h.a.D.al
  have h61 := h.a.D.wl
  have W := h.w.M
  refine q_push (v := ((M.li a).length - ((M.li a).filter (zka M a)).length : Int)) (M' := (M.wli (zup1 M.li a ((M.li a).filter (zka M a))))) h hB ((W.fil h1 _).up hB) ?_
  intro S1 μ1 e1 h1p
  obtain ⟨rH, hH⟩ := h.a.H
  refine zo_x7 ?_
  refine j_X7_cleanse ?_
  refine zo_ob h.a.C.o (by omega) ?_
  refine zo_bn (k_A h.a.C h.a.D h1) ?_
  refine zo_gr h.a.C.o h.a.C.r6 (by omega) (by omega) ?_
  refine zo_gr h.a.C.o h.a.C.r3 (by omega) (by omega) ?_
  refine zo_ob hH.o (by omega) ?_
  refine zo_bn e1 ?_
  refine zo_mono (c_cleanse h1p.C h1p.D W h1) ?_
  rintro r ⟨μ5, hr, h5, f5⟩
  exact ⟨μ5, hr, h5, f5⟩
theorem q_setRule {B x : Int} {S : zG} {μ : zM} {M : zD} {L : List zD} {K : zKs} {inp out : List Int} {c p : Int} {w v : Int} (h : Wd B x S μ M L K inp out c p) (hB : B + 99 ≤ 1000000) (h1 : (0 ≤ w ∧ w < 5) ∧ (zsv 0 w ≤ v ∧ v ≤ zsv 1 w)) : ∃ S1 μ2, f_X7_setRule x w v (S, μ) = some (.inl (M.ru w), (S1, μ2)) ∧ Wd (B + 99) x S1 μ2 (M.wru (zup1 M.ru w v)) (zpush L M) K inp out c p := by
  have h60 := h.a.D.al
  have h61 := h.a.D.wl
  have W := h.w.M
  refine q_push (v := (M.ru w)) (M' := (M.wru (zup1 M.ru w v))) h hB ((W.rul h1.1 h1.2).up hB) ?_
  intro S1 μ1 e1 h1p
  obtain ⟨rH, hH⟩ := h.a.H
  refine zo_x7 ?_
  refine j_X7_setRule ?_
  refine zo_bn k_rv ?_
  refine zo_zp h1 ?_
  refine zo_gr h.a.C.o h.a.C.r6 (by omega) (by omega) ?_
  refine zo_gr h.a.C.o h.a.C.r3 (by omega) (by omega) ?_
  refine zo_ob hH.o (by omega) ?_
  refine zo_bn e1 ?_
  refine zo_gr h1p.C.o h1p.C.r3 (by omega) (by omega) ?_
  refine zo_ob h1p.D.sh.o (by omega) ?_
  refine zo_bn (d_rule h1p.D h1.1) ?_
  refine zo_gr h1p.C.o h1p.C.r3 (by omega) (by omega) ?_
  refine zo_ob h1p.D.sh.o (by omega) ?_
  obtain ⟨μ5, e5, h5, f5⟩ := d_putRule h1p.D (i := w) (v := v) h1.1
  refine zo_bn e5 ?_
  exact zo_rt ⟨μ5, rfl, h5, fw_r f5⟩
/-- a link, as it is from now on -/
noncomputable def zD.lnk2 (M : zD) (a o on : Int) : zD := if zbl (¬ M.T a o = -1) = on then M else M.wT (zup2 (zup2 M.T a o (if on = 0 then -1 else 5)) o a (if on = 0 then -1 else 5))
theorem q_link {B x : Int} {S : zG} {μ : zM} {M : zD} {L : List zD} {K : zKs} {inp out : List Int} {c p : Int} {a o on : Int} (h : Wd B x S μ M L K inp out c p) (hB : B + 99 ≤ 1000000) (h1 : 0 ≤ a ∧ a < (M.an.length : Int)) (h2 : 0 ≤ o ∧ o < (M.an.length : Int)) (h3 : ¬ a = o) : ∃ S1 μ2, f_X7_link x a o on (S, μ) = some (.inl (zbl (¬ M.T a o = -1)), (S1, μ2)) ∧ Wd (B + 99) x S1 μ2 (M.lnk2 a o on) (zpush L M) K inp out c p := by
  have h60 := h.a.D.al
  have W := h.w.M
  by_cases h4 : zbl (¬ M.T a o = -1) = on
  · have eM : M.lnk2 a o on = M := if_pos h4
    rw [eM]
    refine q_push (v := zbl (¬ M.T a o = -1)) (M' := M) h hB (W.up hB) ?_
    intro S1 μ1 e1 h1p
    obtain ⟨rH, hH⟩ := h.a.H
    refine zo_x7 ?_
    refine j_X7_link ?_
    refine zo_ob h.a.C.o (by omega) ?_
    refine zo_bn (k_A h.a.C h.a.D h1) ?_
    refine zo_ob h.a.C.o (by omega) ?_
    refine zo_bn (k_A h.a.C h.a.D h2) ?_
    refine zo_neg h3 ?_
    refine zo_gr h.a.C.o h.a.C.r6 (by omega) (by omega) ?_
    refine zo_gr h.a.C.o h.a.C.r3 (by omega) (by omega) ?_
    refine zo_ob hH.o (by omega) ?_
    refine zo_bn e1 ?_
    refine zo_gr h1p.C.o h1p.C.r3 (by omega) (by omega) ?_
    refine zo_ob h1p.D.sh.o (by omega) ?_
    refine zo_bn (d_isLinked h1p.D (by omega) (by omega)) ?_
    refine zo_pos h4 ?_
    refine zo_pos (zbl_01 _) ?_
    exact zo_rt ⟨μ1, rfl, h1p.D, FW.rf⟩
  · have eM : M.lnk2 a o on = M.wT (zup2 (zup2 M.T a o (if on = 0 then -1 else 5)) o a (if on = 0 then -1 else 5)) := if_neg h4
    rw [eM]
    have hv : -1 ≤ (if on = 0 then (-1 : Int) else 5) ∧ (if on = 0 then (-1 : Int) else 5) ≤ 10 := by split <;> decide
    generalize hev : (if on = 0 then (-1 : Int) else 5) = v at hv
    refine q_push (v := zbl (¬ M.T a o = -1)) (M' := M.wT (zup2 (zup2 M.T a o v) o a v)) h hB ((W.lnk h1 h2 h3 hv).up hB) ?_
    intro S1 μ1 e1 h1p
    obtain ⟨rH, hH⟩ := h.a.H
    have go : zo (f_X7_link_63 x a o (zbl (¬ M.T a o = -1)) v (S1, μ1)) (fun r => ∃ μ', r = (.inl (zbl (¬ M.T a o = -1)), (S1, μ')) ∧ (D7 S1 μ' (x + 12) (M.wT (zup2 (zup2 M.T a o v) o a v)) ∧ FW x μ1 μ')) := by
      refine j_X7_link_63 ?_
      refine zo_gr h1p.C.o h1p.C.r3 (by omega) (by omega) ?_
      refine zo_ob h1p.D.sh.o (by omega) ?_
      obtain ⟨μ5, e5, h5, f5⟩ := d_putTrust h1p.D (i := a) (j := o) (v := v) (by omega) (by omega)
      refine zo_bn e5 ?_
      refine zo_gr h1p.C.o h1p.C.r3 (by omega) (by omega) ?_
      refine zo_ob h1p.D.sh.o (by omega) ?_
      obtain ⟨μ6, e6, h6, f6⟩ := d_putTrust h5 (i := o) (j := a) (v := v) (by omega) (by omega)
      refine zo_bn e6 ?_
      refine zo_pos (zbl_01 _) ?_
      exact zo_rt ⟨μ6, rfl, h6, fw_r (FR.tr f5 f6)⟩
    refine zo_x7 ?_
    refine j_X7_link ?_
    refine zo_ob h.a.C.o (by omega) ?_
    refine zo_bn (k_A h.a.C h.a.D h1) ?_
    refine zo_ob h.a.C.o (by omega) ?_
    refine zo_bn (k_A h.a.C h.a.D h2) ?_
    refine zo_neg h3 ?_
    refine zo_gr h.a.C.o h.a.C.r6 (by omega) (by omega) ?_
    refine zo_gr h.a.C.o h.a.C.r3 (by omega) (by omega) ?_
    refine zo_ob hH.o (by omega) ?_
    refine zo_bn e1 ?_
    refine zo_gr h1p.C.o h1p.C.r3 (by omega) (by omega) ?_
    refine zo_ob h1p.D.sh.o (by omega) ?_
    refine zo_bn (d_isLinked h1p.D (by omega) (by omega)) ?_
    refine zo_neg h4 ?_
    by_cases z : on = 0
    · rw [if_pos z] at hev
      subst hev
      exact zo_pos z go
    · rw [if_neg z] at hev
      subst hev
      exact zo_neg z go
theorem q_append {B x : Int} {S : zG} {μ : zM} {M : zD} {L : List zD} {K : zKs} {inp out : List Int} {c p : Int} {a1 a2 a3 a4 a5 : Int} (h : Wd B x S μ M L K inp out c p) (h1 : inp.length + 20 ≤ 600) : ∃ μ', f_X7_append x a1 a2 a3 a4 a5 (S, μ) = some (.inl ((inp.length : Int) + 20), (S, μ')) ∧ Wd B x S μ' M L K (inp ++ zfour a1 ++ zfour a2 ++ zfour a3 ++ zfour a4 ++ zfour a5) out c p ∧ FB (x + 1) μ μ' := by
  have hx := h.a.C.x0
  have hil := h.a.il
  have C := h.a.C
  obtain ⟨μ1, e1, l1, f1⟩ := c_addFour (v := a1) h.a.bi (by rw [show x + 1 + 1 = x + 2 by omega]; exact h.a.li) (by omega) (by decide)
  obtain ⟨μ2, e2, l2, f2⟩ := c_addFour (v := a2) h.a.bi l1 (by rw [List.length_append, zfour_len]; omega) (by decide)
  obtain ⟨μ3, e3, l3, f3⟩ := c_addFour (v := a3) h.a.bi l2 (by rw [List.length_append, List.length_append, zfour_len, zfour_len]; omega) (by decide)
  obtain ⟨μ4, e4, l4, f4⟩ := c_addFour (v := a4) h.a.bi l3 (by rw [List.length_append, List.length_append, List.length_append, zfour_len, zfour_len, zfour_len]; omega) (by decide)
  obtain ⟨μ5, e5, l5, f5⟩ := c_addFour (v := a5) h.a.bi l4 (by rw [List.length_append, List.length_append, List.length_append, List.length_append, zfour_len, zfour_len, zfour_len, zfour_len]; omega) (by decide)
  have hf := FB.tr (FB.tr (FB.tr (FB.tr f1 f2) f3) f4) f5
  have hlen : (inp ++ zfour a1 ++ zfour a2 ++ zfour a3 ++ zfour a4 ++ zfour a5).length = inp.length + 20 := by
    rw [List.length_append, List.length_append, List.length_append, List.length_append, List.length_append, zfour_len, zfour_len, zfour_len, zfour_len, zfour_len]
  have hlI : ((inp ++ zfour a1 ++ zfour a2 ++ zfour a3 ++ zfour a4 ++ zfour a5).length : Int) = (inp.length : Int) + 20 := by rw [hlen]; rfl
  have e12 : x + 1 + 1 = x + 2 := by omega
  rw [e12] at l5
  have ew : w32 ((inp.length : Int) + 20) = (inp.length : Int) + 20 := w32_e (by omega)
  refine ⟨μ5, ?_, Wd.mk ⟨h.a.inpu l5 hf (by omega), h.w⟩, hf⟩
  apply zo_un
  refine j_X7_append ?_
  refine zo_gr C.o C.r0 (by omega) (by omega) ?_
  refine zo_gf h.a.bi.o h.a.li.n (by omega) (by omega) ?_
  rw [ew]
  refine zo_neg (by omega) ?_
  refine zo_gr C.o C.r0 (by omega) (by omega) ?_
  refine zo_ob h.a.bi.o (by omega) ?_
  refine zo_bn e1 ?_
  refine zo_gr C.o C.r0 (by omega) (by omega) ?_
  refine zo_ob h.a.bi.o (by omega) ?_
  refine zo_bn e2 ?_
  refine zo_gr C.o C.r0 (by omega) (by omega) ?_
  refine zo_ob h.a.bi.o (by omega) ?_
  refine zo_bn e3 ?_
  refine zo_gr C.o C.r0 (by omega) (by omega) ?_
  refine zo_ob h.a.bi.o (by omega) ?_
  refine zo_bn e4 ?_
  refine zo_gr C.o C.r0 (by omega) (by omega) ?_
  refine zo_ob h.a.bi.o (by omega) ?_
  refine zo_bn e5 ?_
  refine zo_gr C.o C.r0 (by omega) (by omega) ?_
  refine zo_gf h.a.bi.o l5.n (by omega) (by omega) ?_
  exact zo_rt (by rw [hlI])
theorem q_truncate {B x : Int} {S : zG} {μ : zM} {M : zD} {L : List zD} {K : zKs} {inp out : List Int} {c p : Int} {k : Nat} (h : Wd B x S μ M L K inp out c p) (h1 : k ≤ inp.length) : ∃ v μ', f_X7_truncate x (k : Int) (S, μ) = some (.inl v, (S, μ')) ∧ Wd B x S μ' M L K (inp.take k) out c p ∧ FB (x + 1) μ μ' := by
  have hx := h.a.C.x0
  have hil := h.a.il
  have C := h.a.C
  have hf : FB (x + 1) μ (zup μ (x + 1) 1 (k : Int)) := fun y hy hz => zup_c (by omega)
  refine ⟨0, zup μ (x + 1) 1 (k : Int), ?_, Wd.mk ⟨h.a.inpu (h.a.li.tk (by omega) k h1) hf (by rw [List.length_take]; omega), h.w⟩, hf⟩
  apply zo_un
  refine j_X7_truncate ?_
  refine zo_gr C.o C.r0 (by omega) (by omega) ?_
  refine zo_gf h.a.bi.o h.a.li.n (by omega) (by omega) ?_
  refine zo_bn (k_R (by omega)) ?_
  refine zo_gr C.o C.r0 (by omega) (by omega) ?_
  refine zo_pf 1 h.a.bi.o (by omega) (by omega) ?_
  exact zo_rt rfl
theorem q_load {B x : Int} {S : zG} {μ : zM} {M : zD} {L : List zD} {K : zKs} {inp out : List Int} {c p : Int} {z : zTk × zD} (h : Wd B x S μ M L K inp out c p) (hB : B + 99 ≤ 1000000) (hp : pParse inp = .inr z) : ∃ S1 μ2, f_X7_load x (S, μ) = some (.inl (z.2.an.length : Int), (S1, μ2)) ∧ Wd (B + 99) x S1 μ2 z.2 (zpush L M) K [] out 0 (-1) := by
  have hx := h.a.C.x0
  have hil := h.a.il
  have C := h.a.C
  have htm := h.w.M.tm
  have hB' : (0 : Int) ≤ B ∧ B ≤ 1000000 := by omega
  have PC0 : PC S μ x inp := PC.mk ⟨hx, h.a.po, h.a.p0, h.a.p1, h.a.bi, by rw [show x + 1 + 1 = x + 2 by omega]; exact h.a.li, hil⟩
  obtain ⟨b, μ1, e1, h1, f1⟩ := c_parse PC0 h.a.ts h.a.te hB'
  have fz : ∀ y, (y < x + 37 ∨ x + 63 ≤ y) → y ≠ x + 1 → zup μ1 (x + 1) 1 0 y = μ y := fun y h1 h2 => by rw [zup_c h2, f1 y h1]
  have l0 : LBy (zup μ1 (x + 1) 1 0) [] (x + 1) 1 (x + 2) := LBy.mk ⟨zup_at, fun k y hk => absurd hk (by simp), fun y hy => absurd hy (by simp)⟩
  rw [hp] at h1
  obtain ⟨hb, G⟩ := h1
  have D0 : D7 S (zup μ1 (x + 1) 1 0) (x + 37) z.2 := G.D.keep (fun y h1 h2 => zup_c (by omega))
  have W1 : W7 S (zup μ1 (x + 1) 1 0) x M L K [] out 0 (-1) := h.a.lod fz l0 (by decide) (by rw [zup_c (by omega)]; exact G.D.em37) (by rw [zup_c (by omega)]; exact G.c.1) (by rw [zup_c (by omega)]; exact G.c.2)
  obtain ⟨r, hr⟩ := W1.H
  obtain ⟨S2, μ2, r2, e2, h2, f2, _⟩ := c_push hr W1.D
  have W2 := W1.hist f2 h2
  have D2 : D7 S2 μ2 (x + 37) z.2 := D0.keep2 (fun y h3 h4 => f2.sh y (by omega)) (fun y j h3 h4 => f2.rf y j (by omega) (by omega) (by omega)) (fun y h3 h4 => f2.m y (by omega) (by omega))
  obtain ⟨μ3, e3, h3, f3⟩ := d_become W2.D.sh (by omega) W2.D.em D2 (by omega)
  have WX : WF B z.2 := by
    obtain ⟨zr, hzr, hzl⟩ := bnd_inv (show pBnd (pRules inp (ztk inp 0)) (fun z => pLoop inp 601 z.2 z.1) = .inr z from hp)
    have k0 := tk_ok (l := inp) (Nat.zero_le inp.length)
    obtain ⟨w1, w2⟩ := rules_inv hB'.1 hB'.2 k0.1 (show pRules inp (ztk inp 0) = .inr (zr.1, zr.2) from hzr)
    exact loop_inv h.a.li.g 601 zr.2 zr.1 w2 w1 (show pLoop inp 601 zr.2 zr.1 = .inr (z.1, z.2) from hzl)
  refine ⟨S2, μ3, ?_, Wd.mk ⟨W2.desk h3 f3, h.w.psh (WX.up hB) hB⟩⟩
  apply zo_un
  refine j_X7_load ?_
  refine zo_gr C.o C.r5 (by omega) (by omega) ?_
  refine zo_ob h.a.po (by omega) ?_
  refine zo_bn e1 ?_
  refine zo_gr C.o C.r0 (by omega) (by omega) ?_
  refine zo_pf 1 h.a.bi.o (by omega) (by omega) ?_
  refine zo_neg (by rw [hb]; decide) ?_
  refine zo_gr C.o C.r6 (by omega) (by omega) ?_
  refine zo_gr C.o C.r3 (by omega) (by omega) ?_
  refine zo_ob hr.o (by omega) ?_
  refine zo_bn e2 ?_
  refine zo_gr W2.C.o W2.C.r3 (by omega) (by omega) ?_
  refine zo_gr W2.C.o W2.C.r4 (by omega) (by omega) ?_
  refine zo_ob W2.D.sh.o (by omega) ?_
  refine zo_bn e3 ?_
  refine zo_gr W2.C.o W2.C.r3 (by omega) (by omega) ?_
  refine zo_gr h3.sh.o h3.sh.r1 (by omega) (by omega) ?_
  refine zo_gf h3.sh.ag.o h3.an0 (by omega) (by omega) ?_
  exact zo_rt rfl
