/-! C 63: more operations that ask -/
theorem FV.d {x : Int} {S : zG} {μ μ' : zM} {M : zD} (f : FV (x + 5) μ μ') (h : D7 S μ (x + 12) M) : D7 S μ' (x + 12) M := h.keep (fun y h1 h2 => f y (by omega))
theorem riv_rng (M : zD) (a b : Int) : zI (M.riv a b) := by
  unfold zD.riv
  split
  · unfold zI; decide
  · refine zlp_inv (P := fun c : Int => zI c) (N := M.wn.length) ?_ _ 0 0 (by omega) (by unfold zI; decide)
    intro k c _ hc
    unfold zriv
    split
    · exact zor_rng _ _
    · exact hc
/-- the model's worlds go on -/
theorem FM.d8 {m : Int} {μ μ' : zM} {M : zD} (f : FM m μ μ') (h : D8 (μ (m + 1)) M) : D8 (μ' (m + 1)) M := by
  rw [f.x _ (by omega) (by omega) (by omega) (by omega) (by omega)]
  exact h
theorem ROk.col {A W t i : Int} {q : zP} (h : ROk A W t i q) (hA : A ≤ 6) (hW : W ≤ 6) (ht : t ≤ 1000000) : ∀ c : Nat, c < 7 → zI (q c) := by
  have h1 := h.o
  have h2 := h.v
  have h3 := h.h
  have h4 := h.w
  have h5 := h.t
  have h6 := h.b
  unfold zI
  exact c7 (by omega) (by omega) (by omega) (by omega) (by omega) (by omega) (by omega)
theorem o_rivals {B x : Int} {S : zG} {μ : zM} {M : zD} {L : List zD} {K : zKs} {inp out : List Int} {c p : Int} {P : zG → zM → Prop} {a : Int} (h : Wd B x S μ M L K inp out c p) (hP : ∀ S1 μ3, Wd B x S1 μ3 M L K inp out c p → P S1 μ3) : zOp x P (f_X7_rivals x a) (f_X8_rivals (x + 66) a) [(2, 1)] S μ := by
  have h60 := h.a.D.al
  have h61 := h.a.D.wl
  have W := h.w.M
  by_cases h1 : 0 ≤ a ∧ a < (M.an.length : Int)
  · skip
    refine op_q (v := (M.riv a (M.bst a 0))) h ?_ (riv_rng _ _ _) ?_ hP
    · refine zo_xq ?_
      refine j_X7_rivals ?_
      refine zo_ob h.a.C.o (by omega) ?_
      refine zo_bn (k_A h.a.C h.a.D h1) ?_
      obtain ⟨μ4, e4, f4⟩ := c_bestWay (r := 0) h.a.C h.a.D W (by omega) (show 0 ≤ a ∧ a < 6 by omega)
      obtain ⟨μ5, e5, f5⟩ := c_rivalsOf (r := M.bst a 0) h.a.C (f4.d h.a.D) W (show 0 ≤ a ∧ a < 6 by omega)
      refine zo_gr h.a.C.o h.a.C.r3 (by omega) (by omega) ?_
      refine zo_ob h.a.C.o (by omega) ?_
      refine zo_bn e4 ?_
      refine zo_ob h.a.C.o (by omega) ?_
      refine zo_bn e5 ?_
      exact zo_rt ⟨_, rfl, FV.tr f4 f5⟩
    · intro S1 μ2 h8
      refine zo_xq ?_
      refine j_X8_rivals ?_
      refine zo_ob h8.H.o (by omega) ?_
      refine zo_bn (b_isAgent h8.H h8.D) ?_
      refine m_p1 h8.H (zbl_nz h1) ?_
      have g8 : W8 S1 (zup μ2 (x + 66) 0 0) (x + 66) M L K inp out c p := FM.u0.w8 h8
      have gt : zup μ2 (x + 66) 0 0 (x + 66) 0 = 0 := zup_at
      obtain ⟨μ4, e4, f4⟩ := b_rivalsOf g8.H g8.D W (show 0 ≤ a ∧ a < 6 by omega) g8.w
      refine zo_ob g8.H.o (by omega) ?_
      refine zo_bn e4 ?_
      exact zo_rt ⟨μ4, rfl, FM.tr FM.u0 f4.fm, by rw [f4.f _ (by decide) (by decide)]; exact gt⟩
  · refine op_t 2 1 h ?_ (by decide) (by decide) ?_ hP
    · apply zo_un
      refine j_X7_rivals ?_
      refine zo_ob h.a.C.o (by omega) ?_
      exact zo_be (k_A_no h.a.C h.a.D h1) rfl
    · intro S1 μ2 h8
      refine zo_xt ?_
      refine j_X8_rivals ?_
      refine zo_ob h8.H.o (by omega) ?_
      refine zo_bn (b_isAgent h8.H h8.D) ?_
      refine m_f1 h8.H (zbl_n (fun z => h1 z)) ?_
      exact ⟨_, _, rfl, FM.u0, zup_at⟩
theorem o_status {B x : Int} {S : zG} {μ : zM} {M : zD} {L : List zD} {K : zKs} {inp out : List Int} {c p : Int} {P : zG → zM → Prop} {a i : Int} (h : Wd B x S μ M L K inp out c p) (hP : ∀ S1 μ3, Wd B x S1 μ3 M L K inp out c p → P S1 μ3) : zOp x P (f_X7_status x a i) (f_X8_status (x + 66) a i) [(2, 1)] S μ := by
  have h60 := h.a.D.al
  have h61 := h.a.D.wl
  have W := h.w.M
  by_cases h1 : (0 ≤ a ∧ a < (M.an.length : Int)) ∧ (0 ≤ i ∧ i < ((M.li a).length : Int))
  · skip
    obtain ⟨k, rfl⟩ : ∃ k : Nat, i = (k : Int) := ⟨i.toNat, by omega⟩
    have hkl : k < (M.li a).length := by omega
    obtain ⟨q, hq⟩ : ∃ q, (M.li a)[k]? = some q := ⟨_, List.getElem?_eq_getElem hkl⟩
    have hqo := W.li a q (List.mem_of_getElem? hq)
    have hqv := hqo.v
    refine op_q (v := (M.sts a k q)) h ?_ (by have := zso_rng (bel_st M a (q 3) (-1)) k (zent (q 3) (-1) (M.li a) 0); unfold zI zD.sts; omega) ?_ hP
    · refine zo_xq ?_
      refine j_X7_status ?_
      refine zo_ob h.a.C.o (by omega) ?_
      refine zo_bn (k_P2 h.a.C h.a.D h1) ?_
      refine zo_ob h.a.C.o (by omega) ?_
      obtain ⟨μ4, e4, f4⟩ := c_statusIn h.a.C h.a.D W (show 0 ≤ a ∧ a < 6 by omega) hq
      refine zo_bn e4 ?_
      exact zo_rt ⟨μ4, rfl, f4⟩
    · intro S1 μ2 h8
      refine zo_xq ?_
      refine j_X8_status ?_
      refine zo_ob h8.H.o (by omega) ?_
      refine zo_bn (b_isReport h8.H h8.D) ?_
      refine m_p1 h8.H (zbl_nz h1) ?_
      have g8 : W8 S1 (zup μ2 (x + 66) 0 0) (x + 66) M L K inp out c p := FM.u0.w8 h8
      have gt : zup μ2 (x + 66) 0 0 (x + 66) 0 = 0 := zup_at
      obtain ⟨μ4, e4, f4⟩ := b_statusAt g8.H g8.D W (show 0 ≤ a ∧ a < 6 by omega) g8.w hq
      refine zo_ob g8.H.o (by omega) ?_
      refine zo_bn e4 ?_
      exact zo_rt ⟨μ4, rfl, FM.tr FM.u0 f4.fm, by rw [f4.f _ (by decide) (by decide)]; exact gt⟩
  · refine op_t 2 1 h ?_ (by decide) (by decide) ?_ hP
    · apply zo_un
      refine j_X7_status ?_
      refine zo_ob h.a.C.o (by omega) ?_
      exact zo_be (k_P_no h.a.C h.a.D h1) rfl
    · intro S1 μ2 h8
      refine zo_xt ?_
      refine j_X8_status ?_
      refine zo_ob h8.H.o (by omega) ?_
      refine zo_bn (b_isReport h8.H h8.D) ?_
      refine m_f1 h8.H (zbl_n (fun z => h1 z)) ?_
      exact ⟨_, _, rfl, FM.u0, zup_at⟩
theorem o_report {B x : Int} {S : zG} {μ : zM} {M : zD} {L : List zD} {K : zKs} {inp out : List Int} {c p : Int} {P : zG → zM → Prop} {a i w : Int} (h : Wd B x S μ M L K inp out c p) (hP : ∀ S1 μ3, Wd B x S1 μ3 M L K inp out c p → P S1 μ3) : zOp x P (f_X7_report x a i w) (f_X8_report (x + 66) a i w) [(2, 1), (1, 2)] S μ := by
  have h60 := h.a.D.al
  have h61 := h.a.D.wl
  have W := h.w.M
  by_cases h1 : (0 ≤ a ∧ a < (M.an.length : Int)) ∧ (0 ≤ i ∧ i < ((M.li a).length : Int))
  · skip
    by_cases h2 : 0 ≤ w ∧ w ≤ 6
    · skip
      obtain ⟨k, rfl⟩ : ∃ k : Nat, i = (k : Int) := ⟨i.toNat, by omega⟩
      have hkl : k < (M.li a).length := by omega
      obtain ⟨q, hq⟩ : ∃ q, (M.li a)[k]? = some q := ⟨_, List.getElem?_eq_getElem hkl⟩
      have hqo := W.li a q (List.mem_of_getElem? hq)
      have hqv := hqo.v
      obtain ⟨j, rfl⟩ : ∃ j : Nat, w = (j : Int) := ⟨w.toNat, by omega⟩
      refine op_q (v := (q j)) h ?_ (hqo.col (by omega) (by omega) (by have := W.tm; have := W.B0; omega) j (by omega)) ?_ hP
      · refine zo_xq ?_
        refine j_X7_report ?_
        refine zo_ob h.a.C.o (by omega) ?_
        refine zo_bn (k_P2 h.a.C h.a.D h1) ?_
        refine zo_bn (k_R h2) ?_
        refine zo_gr h.a.C.o h.a.C.r3 (by omega) (by omega) ?_
        refine zo_ob h.a.D.sh.o (by omega) ?_
        refine zo_bn (d_listOf h.a.D (show 0 ≤ a ∧ a < 6 by omega)) ?_
        refine zo_ob (h.a.D.sh.ls a (by omega) (by omega)).o (by omega) ?_
        refine zo_bn (c_get (h.a.D.sh.ls a (by omega) (by omega)) (h.a.D.li a (by omega) (by omega)) (by have := h.a.D.ll a (by omega) (by omega); omega) (by decide) (by decide) hq (show j < 7 by omega)) ?_
        exact zo_rt ⟨_, rfl, FV.rf⟩
      · intro S1 μ2 h8
        refine zo_xq ?_
        refine j_X8_report ?_
        refine zo_ob h8.H.o (by omega) ?_
        refine zo_bn (b_isReport h8.H h8.D) ?_
        refine zo_bn (b_in) ?_
        refine m_p2 h8.H (zbl_nz h1) (zbl_nz h2) ?_
        have g8 : W8 S1 (zup μ2 (x + 66) 0 0) (x + 66) M L K inp out c p := FM.u0.w8 h8
        have gt : zup μ2 (x + 66) 0 0 (x + 66) 0 = 0 := zup_at
        refine zo_ob g8.H.o (by omega) ?_
        refine zo_bn (b_ofReport g8.H g8.D (show 0 ≤ a ∧ a < 6 by omega) hq (show j < 7 by omega)) ?_
        exact zo_rt ⟨_, rfl, FM.u0, gt⟩
    · refine op_t 1 2 h ?_ (by decide) (by decide) ?_ hP
      · apply zo_un
        refine j_X7_report ?_
        refine zo_ob h.a.C.o (by omega) ?_
        refine zo_bn (k_P2 h.a.C h.a.D h1) ?_
        exact zo_be (k_R_no h2) rfl
      · intro S1 μ2 h8
        refine zo_xt ?_
        refine j_X8_report ?_
        refine zo_ob h8.H.o (by omega) ?_
        refine zo_bn (b_isReport h8.H h8.D) ?_
        refine zo_bn (b_in) ?_
        refine m_f2b h8.H (zbl_nz h1) (zbl_n (fun z => h2 z)) ?_
        exact ⟨_, _, rfl, FM.u0, zup_at⟩
  · refine op_t 2 1 h ?_ (by decide) (by decide) ?_ hP
    · apply zo_un
      refine j_X7_report ?_
      refine zo_ob h.a.C.o (by omega) ?_
      exact zo_be (k_P_no h.a.C h.a.D h1) rfl
    · intro S1 μ2 h8
      refine zo_xt ?_
      refine j_X8_report ?_
      refine zo_ob h8.H.o (by omega) ?_
      refine zo_bn (b_isReport h8.H h8.D) ?_
      refine zo_bn (b_in) ?_
      refine m_f2a h8.H (zbl_n (fun z => h1 z)) ?_
      exact ⟨_, _, rfl, FM.u0, zup_at⟩
noncomputable def zD.mvd (M : zD) (a e : Int) (q : zP) : Int := if q 1 = a ∨ ¬ M.T a (q 1) = -1 then (if e = 0 then M.lo a q else M.hi a q) else -1
theorem mvd_rng (M : zD) (a e : Int) (q : zP) : zI (M.mvd a e q) := by
  have h1 := w32_rng (q 5 - M.sp a q)
  have h2 := w32_rng (q 6 + M.sp a q)
  unfold zD.mvd zD.lo zD.hi zlo zhi zI
  split
  · split <;> omega
  · decide
theorem o_moved {B x : Int} {S : zG} {μ : zM} {M : zD} {L : List zD} {K : zKs} {inp out : List Int} {c p : Int} {P : zG → zM → Prop} {a i e : Int} (h : Wd B x S μ M L K inp out c p) (hP : ∀ S1 μ3, Wd B x S1 μ3 M L K inp out c p → P S1 μ3) : zOp x P (f_X7_moved x a i e) (f_X8_moved (x + 66) a i e) [(2, 1), (1, 2)] S μ := by
  have h60 := h.a.D.al
  have h61 := h.a.D.wl
  have W := h.w.M
  by_cases h1 : (0 ≤ a ∧ a < (M.an.length : Int)) ∧ (0 ≤ i ∧ i < ((M.li a).length : Int))
  · skip
    by_cases h2 : 0 ≤ e ∧ e ≤ 1
    · skip
      obtain ⟨k, rfl⟩ : ∃ k : Nat, i = (k : Int) := ⟨i.toNat, by omega⟩
      have hkl : k < (M.li a).length := by omega
      obtain ⟨q, hq⟩ : ∃ q, (M.li a)[k]? = some q := ⟨_, List.getElem?_eq_getElem hkl⟩
      have hqo := W.li a q (List.mem_of_getElem? hq)
      have hqv := hqo.v
      refine op_q (v := (M.mvd a e q)) h ?_ (mvd_rng _ _ _ _) ?_ hP
      · refine zo_xq ?_
        refine j_X7_moved ?_
        refine zo_ob h.a.C.o (by omega) ?_
        refine zo_bn (k_P2 h.a.C h.a.D h1) ?_
        refine zo_bn (k_R h2) ?_
        have c52 : ∀ f4 : q 1 = a ∨ ¬ M.T a (q 1) = -1, zo (f_X7_moved_52 x a (k : Int) e (x + 12 + 13 + 2 * a) (S, μ)) (fun r => ∃ μ', r = (.inl (M.mvd a e q), (S, μ')) ∧ FV (x + 5) μ μ') := by
          intro hc
          have em : M.mvd a e q = if e = 0 then M.lo a q else M.hi a q := if_pos hc
          refine j_X7_moved_52 ?_
          refine zo_gr h.a.C.o h.a.C.r3 (by omega) (by omega) ?_
          refine zo_ob h.a.D.sh.o (by omega) ?_
          refine zo_bn (d_spreadOf h.a.D (show 0 ≤ a ∧ a < 6 by omega) hq (by omega)) ?_
          by_cases he : e = 0
          · rw [em.trans (if_pos he)]
            refine zo_pos he ?_
            refine zo_ob (h.a.D.sh.ls a (by omega) (by omega)).o (by omega) ?_
            refine zo_bn (d_lowMoved h.a.D (show 0 ≤ a ∧ a < 6 by omega) hq) ?_
            exact zo_rt ⟨_, rfl, FV.rf⟩
          · rw [em.trans (if_neg he)]
            refine zo_neg he ?_
            refine zo_ob (h.a.D.sh.ls a (by omega) (by omega)).o (by omega) ?_
            refine zo_bn (d_highMoved h.a.D (show 0 ≤ a ∧ a < 6 by omega) hq) ?_
            exact zo_rt ⟨_, rfl, FV.rf⟩
        refine zo_gr h.a.C.o h.a.C.r3 (by omega) (by omega) ?_
        refine zo_ob h.a.D.sh.o (by omega) ?_
        refine zo_bn (d_listOf h.a.D (show 0 ≤ a ∧ a < 6 by omega)) ?_
        refine zo_ob (h.a.D.sh.ls a (by omega) (by omega)).o (by omega) ?_
        refine zo_bn (d_get1 h.a.D (show 0 ≤ a ∧ a < 6 by omega) hq) ?_
        refine zo_ite (fun h4 => c52 (Or.inl h4)) (fun h4 => ?_)
        refine zo_gr h.a.C.o h.a.C.r3 (by omega) (by omega) ?_
        refine zo_ob h.a.D.sh.o (by omega) ?_
        refine zo_bn (d_isLinked h.a.D (show 0 ≤ a ∧ a < 6 by omega) (show 0 ≤ q 1 ∧ q 1 < 6 by omega)) ?_
        refine zo_zb (fun h5 => ?_) (fun h5 => c52 (Or.inr h5))
        have em : M.mvd a e q = -1 := if_neg (fun z => z.elim h4 (fun y => h5 y))
        exact zo_rt ⟨_, by rw [em], FV.rf⟩
      · intro S1 μ2 h8
        refine zo_xq ?_
        refine j_X8_moved ?_
        refine zo_ob h8.H.o (by omega) ?_
        refine zo_bn (b_isReport h8.H h8.D) ?_
        refine zo_bn (b_in) ?_
        refine m_p2 h8.H (zbl_nz h1) (zbl_nz h2) ?_
        have g8 : W8 S1 (zup μ2 (x + 66) 0 0) (x + 66) M L K inp out c p := FM.u0.w8 h8
        have gt : zup μ2 (x + 66) 0 0 (x + 66) 0 = 0 := zup_at
        have he1 := hqo.e1
        have c43 : (q 1 = a ∨ ¬ M.T a (q 1) = -1) → zo (f_X8_moved_43 (x + 66) a (k : Int) e (S1, zup μ2 (x + 66) 0 0)) (fun r => ∃ μ', r = (.inl (M.mvd a e q), (S1, μ')) ∧ (FM (x + 66) μ2 μ' ∧ μ' (x + 66) 0 = 0)) := by
          intro hc
          have em : M.mvd a e q = if e = 0 then M.lo a q else M.hi a q := if_pos hc
          refine j_X8_moved_43 ?_
          by_cases he : e = 0
          · rw [em.trans (if_pos he)]
            refine zo_pos he ?_
            refine zo_ob g8.H.o (by omega) ?_
            refine zo_bn (b_movedBy g8.H g8.D W (show 0 ≤ a ∧ a < 6 by omega) hq) ?_
            refine zo_ob g8.H.o (by omega) ?_
            refine zo_bn (b_lowBy g8.H g8.D (show 0 ≤ a ∧ a < 6 by omega) hq) ?_
            exact zo_rt ⟨_, rfl, FM.u0, gt⟩
          · rw [em.trans (if_neg he)]
            refine zo_neg he ?_
            refine zo_ob g8.H.o (by omega) ?_
            refine zo_bn (b_movedBy g8.H g8.D W (show 0 ≤ a ∧ a < 6 by omega) hq) ?_
            refine zo_ob g8.H.o (by omega) ?_
            refine zo_bn (b_topBy g8.H g8.D (show 0 ≤ a ∧ a < 6 by omega) hq) ?_
            exact zo_rt ⟨_, rfl, FM.u0, gt⟩
        refine zo_ob g8.H.o (by omega) ?_
        refine zo_bn (b_isOwn g8.H g8.D (show 0 ≤ a ∧ a < 6 by omega) hq) ?_
        refine zo_zb (fun h4 => ?_) (fun h4 => c43 (Or.inl (he1.mpr h4)))
        refine zo_ob g8.H.o (by omega) ?_
        refine zo_bn (b_trustInVia g8.H g8.D (show 0 ≤ a ∧ a < 6 by omega) hq h4 (by omega)) ?_
        refine zo_ite (fun h5 => ?_) (fun h5 => c43 (Or.inr h5))
        have em : M.mvd a e q = -1 := if_neg (fun z => z.elim (fun y => h4 (he1.mp y)) (fun y => y h5))
        exact zo_rt ⟨_, by rw [em], FM.u0, gt⟩
    · refine op_t 1 2 h ?_ (by decide) (by decide) ?_ hP
      · apply zo_un
        refine j_X7_moved ?_
        refine zo_ob h.a.C.o (by omega) ?_
        refine zo_bn (k_P2 h.a.C h.a.D h1) ?_
        exact zo_be (k_R_no h2) rfl
      · intro S1 μ2 h8
        refine zo_xt ?_
        refine j_X8_moved ?_
        refine zo_ob h8.H.o (by omega) ?_
        refine zo_bn (b_isReport h8.H h8.D) ?_
        refine zo_bn (b_in) ?_
        refine m_f2b h8.H (zbl_nz h1) (zbl_n (fun z => h2 z)) ?_
        exact ⟨_, _, rfl, FM.u0, zup_at⟩
  · refine op_t 2 1 h ?_ (by decide) (by decide) ?_ hP
    · apply zo_un
      refine j_X7_moved ?_
      refine zo_ob h.a.C.o (by omega) ?_
      exact zo_be (k_P_no h.a.C h.a.D h1) rfl
    · intro S1 μ2 h8
      refine zo_xt ?_
      refine j_X8_moved ?_
      refine zo_ob h8.H.o (by omega) ?_
      refine zo_bn (b_isReport h8.H h8.D) ?_
      refine zo_bn (b_in) ?_
      refine m_f2a h8.H (zbl_n (fun z => h1 z)) ?_
      exact ⟨_, _, rfl, FM.u0, zup_at⟩
noncomputable def zD.rgt (M : zD) (a : Int) : Int := if M.wn.length = 0 then -1 else w32 ((M.bel a (M.bst a 0) (-1)).2.2 - (M.bel a (M.bst a 1) (-1)).2.1)
theorem rgt_rng (M : zD) (a : Int) : zI (M.rgt a) := by
  unfold zD.rgt
  split
  · unfold zI; decide
  · exact w32_rng _
theorem o_regret {B x : Int} {S : zG} {μ : zM} {M : zD} {L : List zD} {K : zKs} {inp out : List Int} {c p : Int} {P : zG → zM → Prop} {a : Int} (h : Wd B x S μ M L K inp out c p) (hP : ∀ S1 μ3, Wd B x S1 μ3 M L K inp out c p → P S1 μ3) : zOp x P (f_X7_regret x a) (f_X8_regret (x + 66) a) [(2, 1)] S μ := by
  have h60 := h.a.D.al
  have h61 := h.a.D.wl
  have W := h.w.M
  by_cases h1 : 0 ≤ a ∧ a < (M.an.length : Int)
  · skip
    refine op_q (v := (M.rgt a)) h ?_ (rgt_rng _ _) ?_ hP
    · refine zo_xq ?_
      refine j_X7_regret ?_
      refine zo_ob h.a.C.o (by omega) ?_
      refine zo_bn (k_A h.a.C h.a.D h1) ?_
      refine zo_gr h.a.C.o h.a.C.r3 (by omega) (by omega) ?_
      refine zo_gr h.a.D.sh.o h.a.D.sh.r2 (by omega) (by omega) ?_
      refine zo_gf h.a.D.sh.wa.o h.a.D.wn0 (by omega) (by omega) ?_
      by_cases hw0 : M.wn.length = 0
      · have er : M.rgt a = -1 := if_pos hw0
        refine zo_pos (by omega) ?_
        exact zo_rt ⟨_, by rw [er], FV.rf⟩
      · have er : M.rgt a = w32 (M.bnd a (M.bst a 0) 1 - M.bnd a (M.bst a 1) 0) := if_neg hw0
        refine zo_neg (by omega) ?_
        obtain ⟨μ4, e4, f4⟩ := c_bestWay (r := 0) h.a.C h.a.D W (by omega) (show 0 ≤ a ∧ a < 6 by omega)
        obtain ⟨μ5, e5, f5⟩ := c_believed (w := M.bst a 0) (e := 1) h.a.C (f4.d h.a.D) W (by omega) (show 0 ≤ a ∧ a < 6 by omega)
        obtain ⟨μ6, e6, f6⟩ := c_bestWay (r := 1) h.a.C ((FV.tr f4 f5).d h.a.D) W (by omega) (show 0 ≤ a ∧ a < 6 by omega)
        obtain ⟨μ7, e7, f7⟩ := c_believed (w := M.bst a 1) (e := 0) h.a.C ((FV.tr (FV.tr f4 f5) f6).d h.a.D) W (by omega) (show 0 ≤ a ∧ a < 6 by omega)
        refine zo_gr h.a.C.o h.a.C.r3 (by omega) (by omega) ?_
        refine zo_gr h.a.C.o h.a.C.r3 (by omega) (by omega) ?_
        refine zo_ob h.a.C.o (by omega) ?_
        refine zo_bn e4 ?_
        refine zo_ob h.a.C.o (by omega) ?_
        refine zo_bn e5 ?_
        refine zo_gr h.a.C.o h.a.C.r3 (by omega) (by omega) ?_
        refine zo_gr h.a.C.o h.a.C.r3 (by omega) (by omega) ?_
        refine zo_ob h.a.C.o (by omega) ?_
        refine zo_bn e6 ?_
        refine zo_ob h.a.C.o (by omega) ?_
        refine zo_bn e7 ?_
        exact zo_rt ⟨_, by rw [er], FV.tr (FV.tr (FV.tr f4 f5) f6) f7⟩
    · intro S1 μ2 h8
      refine zo_xq ?_
      refine j_X8_regret ?_
      refine zo_ob h8.H.o (by omega) ?_
      refine zo_bn (b_isAgent h8.H h8.D) ?_
      refine m_p1 h8.H (zbl_nz h1) ?_
      have g8 : W8 S1 (zup μ2 (x + 66) 0 0) (x + 66) M L K inp out c p := FM.u0.w8 h8
      have gt : zup μ2 (x + 66) 0 0 (x + 66) 0 = 0 := zup_at
      have hb0 := bst_rng M a 0
      obtain ⟨μ4, e4, f4⟩ := b_bestOf (r := 0) g8.H g8.D W (show 0 ≤ a ∧ a < 6 by omega) g8.w
      refine zo_ob g8.H.o (by omega) ?_
      refine zo_bn e4 ?_
      have g4 := f4.fm.w8 g8
      by_cases hw0 : M.wn.length = 0
      · have er : M.rgt a = -1 := if_pos hw0
        refine zo_pos (by omega) ?_
        exact zo_rt ⟨_, by rw [er], FM.tr FM.u0 f4.fm, by rw [f4.f _ (by decide) (by decide)]; exact gt⟩
      · have er : M.rgt a = w32 (M.val a (M.bst a 0) 0 - M.val a (M.bst a 1) 1) := if_neg hw0
        refine zo_neg (by omega) ?_
        obtain ⟨μ5, e5, f5⟩ := b_valueOf (w := M.bst a 0) (r := 0) g4.H g4.D W (show 0 ≤ a ∧ a < 6 by omega) g4.w
        have g5 := f5.fm.w8 g4
        obtain ⟨μ6, e6, f6⟩ := b_bestOf (r := 1) g5.H g5.D W (show 0 ≤ a ∧ a < 6 by omega) g5.w
        have g6 := f6.fm.w8 g5
        obtain ⟨μ7, e7, f7⟩ := b_valueOf (w := M.bst a 1) (r := 1) g6.H g6.D W (show 0 ≤ a ∧ a < 6 by omega) g6.w
        refine zo_ob g8.H.o (by omega) ?_
        refine zo_bn e5 ?_
        refine zo_ob g8.H.o (by omega) ?_
        refine zo_bn e6 ?_
        refine zo_ob g8.H.o (by omega) ?_
        refine zo_bn e7 ?_
        have fF := FN.tr (FN.tr (FN.tr f4 f5) f6) f7
        exact zo_rt ⟨_, by rw [er], FM.tr FM.u0 fF.fm, by rw [fF.f _ (by decide) (by decide)]; exact gt⟩
  · refine op_t 2 1 h ?_ (by decide) (by decide) ?_ hP
    · apply zo_un
      refine j_X7_regret ?_
      refine zo_ob h.a.C.o (by omega) ?_
      exact zo_be (k_A_no h.a.C h.a.D h1) rfl
    · intro S1 μ2 h8
      refine zo_xt ?_
      refine j_X8_regret ?_
      refine zo_ob h8.H.o (by omega) ?_
      refine zo_bn (b_isAgent h8.H h8.D) ?_
      refine m_f1 h8.H (zbl_n (fun z => h1 z)) ?_
      exact ⟨_, _, rfl, FM.u0, zup_at⟩
