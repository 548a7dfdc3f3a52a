/-! C 62: operations that ask -/
theorem k_P2 {S : zG} {μ : zM} {x : Int} {M : zD} (C : CB S x) (h : D7 S μ (x + 12) M) {a i : Int} (hc : (0 ≤ a ∧ a < (M.an.length : Int)) ∧ (0 ≤ i ∧ i < ((M.li a).length : Int))) : f_X7_checkReport x a i (S, μ) = some (.inl 0, (S, μ)) := k_P C h hc.1 hc.2
theorem o_trust {B x : Int} {S : zG} {μ : zM} {M : zD} {L : List zD} {K : zKs} {inp out : List Int} {c p : Int} {P : zG → zM → Prop} {a o : Int} (h : Wd B x S μ M L K inp out c p) (hP : ∀ S1 μ3, Wd B x S1 μ3 M L K inp out c p → P S1 μ3) : zOp x P (f_X7_trust x a o) (f_X8_trust (x + 66) a o) [(2, 1)] S μ := by
  have h60 := h.a.D.al
  have h61 := h.a.D.wl
  have W := h.w.M
  by_cases h1 : 0 ≤ a ∧ a < (M.an.length : Int)
  · skip
    by_cases h2 : 0 ≤ o ∧ o < (M.an.length : Int)
    · skip
      refine op_q (v := M.T a o) h ?_ (by have := W.Tr a o; unfold zI; omega) ?_ hP
      · refine zo_xq ?_
        refine j_X7_trust ?_
        refine zo_ob h.a.C.o (by omega) ?_
        refine zo_bn (k_A h.a.C h.a.D h1) ?_
        refine zo_ob h.a.C.o (by omega) ?_
        refine zo_bn (k_A h.a.C h.a.D h2) ?_
        refine zo_gr h.a.C.o h.a.C.r3 (by omega) (by omega) ?_
        refine zo_ob h.a.D.sh.o (by omega) ?_
        refine zo_bn (d_trustIn h.a.D (by omega) (by omega)) ?_
        exact zo_rt ⟨_, rfl, FV.rf⟩
      · intro S1 μ2 h8
        refine zo_xq ?_
        refine j_X8_trust ?_
        refine zo_ob h8.H.o (by omega) ?_
        refine zo_bn (b_areAgents h8.H h8.D) ?_
        refine m_p1 h8.H (zbl_nz ⟨h1, h2⟩) ?_
        have g8 : W8 S1 (zup μ2 (x + 66) 0 0) (x + 66) M L K inp out c p := FM.u0.w8 h8
        have gt : zup μ2 (x + 66) 0 0 (x + 66) 0 = 0 := zup_at
        refine zo_ob g8.H.o (by omega) ?_
        refine zo_bn (b_trustOf g8.H g8.D (by omega) (by omega)) ?_
        exact zo_rt ⟨_, rfl, FM.u0, gt⟩
    · refine op_t 2 1 h ?_ (by decide) (by decide) ?_ hP
      · apply zo_un
        refine j_X7_trust ?_
        refine zo_ob h.a.C.o (by omega) ?_
        refine zo_bn (k_A h.a.C h.a.D h1) ?_
        refine zo_ob h.a.C.o (by omega) ?_
        exact zo_be (k_A_no h.a.C h.a.D h2) rfl
      · intro S1 μ2 h8
        refine zo_xt ?_
        refine j_X8_trust ?_
        refine zo_ob h8.H.o (by omega) ?_
        refine zo_bn (b_areAgents h8.H h8.D) ?_
        refine m_f1 h8.H (zbl_n (fun z => h2 z.2)) ?_
        exact ⟨_, _, rfl, FM.u0, zup_at⟩
  · refine op_t 2 1 h ?_ (by decide) (by decide) ?_ hP
    · apply zo_un
      refine j_X7_trust ?_
      refine zo_ob h.a.C.o (by omega) ?_
      exact zo_be (k_A_no h.a.C h.a.D h1) rfl
    · intro S1 μ2 h8
      refine zo_xt ?_
      refine j_X8_trust ?_
      refine zo_ob h8.H.o (by omega) ?_
      refine zo_bn (b_areAgents h8.H h8.D) ?_
      refine m_f1 h8.H (zbl_n (fun z => h1 z.1)) ?_
      exact ⟨_, _, rfl, FM.u0, zup_at⟩
theorem o_reports {B x : Int} {S : zG} {μ : zM} {M : zD} {L : List zD} {K : zKs} {inp out : List Int} {c p : Int} {P : zG → zM → Prop} {a : Int} (h : Wd B x S μ M L K inp out c p) (hP : ∀ S1 μ3, Wd B x S1 μ3 M L K inp out c p → P S1 μ3) : zOp x P (f_X7_reports x a) (f_X8_reports (x + 66) a) [(2, 1)] S μ := by
  have h60 := h.a.D.al
  have h61 := h.a.D.wl
  have W := h.w.M
  by_cases h1 : 0 ≤ a ∧ a < (M.an.length : Int)
  · skip
    refine op_q (v := ((M.li a).length : Int)) h ?_ (by have := h.a.D.ll a (by omega) (by omega); unfold zI; omega) ?_ hP
    · refine zo_xq ?_
      refine j_X7_reports ?_
      refine zo_ob h.a.C.o (by omega) ?_
      refine zo_bn (k_A h.a.C h.a.D h1) ?_
      refine zo_gr h.a.C.o h.a.C.r3 (by omega) (by omega) ?_
      refine zo_ob h.a.D.sh.o (by omega) ?_
      refine zo_bn (d_listOf h.a.D (by omega)) ?_
      refine zo_gf (h.a.D.sh.ls a (by omega) (by omega)).o (h.a.D.li a (by omega) (by omega)).1 (by omega) (by omega) ?_
      exact zo_rt ⟨_, rfl, FV.rf⟩
    · intro S1 μ2 h8
      refine zo_xq ?_
      refine j_X8_reports ?_
      refine zo_ob h8.H.o (by omega) ?_
      refine zo_bn (b_isAgent h8.H h8.D) ?_
      refine m_p1 h8.H (zbl_nz h1) ?_
      have g8 : W8 S1 (zup μ2 (x + 66) 0 0) (x + 66) M L K inp out c p := FM.u0.w8 h8
      have gt : zup μ2 (x + 66) 0 0 (x + 66) 0 = 0 := zup_at
      refine zo_ob g8.H.o (by omega) ?_
      refine zo_bn (b_manyOf g8.H g8.D (by omega)) ?_
      exact zo_rt ⟨_, rfl, FM.u0, gt⟩
  · refine op_t 2 1 h ?_ (by decide) (by decide) ?_ hP
    · apply zo_un
      refine j_X7_reports ?_
      refine zo_ob h.a.C.o (by omega) ?_
      exact zo_be (k_A_no h.a.C h.a.D h1) rfl
    · intro S1 μ2 h8
      refine zo_xt ?_
      refine j_X8_reports ?_
      refine zo_ob h8.H.o (by omega) ?_
      refine zo_bn (b_isAgent h8.H h8.D) ?_
      refine m_f1 h8.H (zbl_n (fun z => h1 z)) ?_
      exact ⟨_, _, rfl, FM.u0, zup_at⟩
theorem o_own {B x : Int} {S : zG} {μ : zM} {M : zD} {L : List zD} {K : zKs} {inp out : List Int} {c p : Int} {P : zG → zM → Prop} {a w : Int} (h : Wd B x S μ M L K inp out c p) (hP : ∀ S1 μ3, Wd B x S1 μ3 M L K inp out c p → P S1 μ3) : zOp x P (f_X7_own x a w) (f_X8_own (x + 66) a w) [(2, 1)] S μ := by
  have h60 := h.a.D.al
  have h61 := h.a.D.wl
  have W := h.w.M
  by_cases h1 : 0 ≤ a ∧ a < (M.an.length : Int)
  · skip
    by_cases h2 : 0 ≤ w ∧ w < (M.wn.length : Int)
    · skip
      refine op_q (v := (zfi (zq a w) (zqD a w) (M.li a) 0)) h ?_ (by have h36 := h.a.D.ll a (by omega) (by omega); rcases zfi_cs a w (M.li a) with ⟨e, -⟩ | ⟨k, q, e, hk, -⟩ <;> rw [e] <;> unfold zI <;> (try have hkl := (List.getElem?_eq_some_iff.mp hk).1) <;> omega) ?_ hP
      · refine zo_xq ?_
        refine j_X7_own ?_
        refine zo_ob h.a.C.o (by omega) ?_
        refine zo_bn (k_A h.a.C h.a.D h1) ?_
        refine zo_ob h.a.C.o (by omega) ?_
        refine zo_bn (k_W h.a.C h.a.D h2) ?_
        refine zo_gr h.a.C.o h.a.C.r3 (by omega) (by omega) ?_
        refine zo_ob h.a.D.sh.o (by omega) ?_
        refine zo_bn (d_listOf h.a.D (by omega)) ?_
        refine zo_ob (h.a.D.sh.ls a (by omega) (by omega)).o (by omega) ?_
        refine zo_bn (d_find h.a.D (by omega)) ?_
        exact zo_rt ⟨_, rfl, FV.rf⟩
      · intro S1 μ2 h8
        refine zo_xq ?_
        refine j_X8_own ?_
        refine zo_ob h8.H.o (by omega) ?_
        refine zo_bn (b_areThere h8.H h8.D) ?_
        refine m_p1 h8.H (zbl_nz ⟨h1, h2⟩) ?_
        have g8 : W8 S1 (zup μ2 (x + 66) 0 0) (x + 66) M L K inp out c p := FM.u0.w8 h8
        have gt : zup μ2 (x + 66) 0 0 (x + 66) 0 = 0 := zup_at
        refine zo_ob g8.H.o (by omega) ?_
        refine zo_bn (b_ownOf g8.H g8.D (by omega)) ?_
        exact zo_rt ⟨_, rfl, FM.u0, gt⟩
    · refine op_t 2 1 h ?_ (by decide) (by decide) ?_ hP
      · apply zo_un
        refine j_X7_own ?_
        refine zo_ob h.a.C.o (by omega) ?_
        refine zo_bn (k_A h.a.C h.a.D h1) ?_
        refine zo_ob h.a.C.o (by omega) ?_
        exact zo_be (k_W_no h.a.C h.a.D h2) rfl
      · intro S1 μ2 h8
        refine zo_xt ?_
        refine j_X8_own ?_
        refine zo_ob h8.H.o (by omega) ?_
        refine zo_bn (b_areThere h8.H h8.D) ?_
        refine m_f1 h8.H (zbl_n (fun z => h2 z.2)) ?_
        exact ⟨_, _, rfl, FM.u0, zup_at⟩
  · refine op_t 2 1 h ?_ (by decide) (by decide) ?_ hP
    · apply zo_un
      refine j_X7_own ?_
      refine zo_ob h.a.C.o (by omega) ?_
      exact zo_be (k_A_no h.a.C h.a.D h1) rfl
    · intro S1 μ2 h8
      refine zo_xt ?_
      refine j_X8_own ?_
      refine zo_ob h8.H.o (by omega) ?_
      refine zo_bn (b_areThere h8.H h8.D) ?_
      refine m_f1 h8.H (zbl_n (fun z => h1 z.1)) ?_
      exact ⟨_, _, rfl, FM.u0, zup_at⟩
theorem o_belief {B x : Int} {S : zG} {μ : zM} {M : zD} {L : List zD} {K : zKs} {inp out : List Int} {c p : Int} {P : zG → zM → Prop} {a w e : Int} (h : Wd B x S μ M L K inp out c p) (hP : ∀ S1 μ3, Wd B x S1 μ3 M L K inp out c p → P S1 μ3) : zOp x P (f_X7_belief x a w e) (f_X8_belief (x + 66) a w e) [(2, 1), (1, 2)] S μ := by
  have h60 := h.a.D.al
  have h61 := h.a.D.wl
  have W := h.w.M
  by_cases h1 : 0 ≤ a ∧ a < (M.an.length : Int)
  · skip
    by_cases h2 : 0 ≤ w ∧ w < (M.wn.length : Int)
    · skip
      by_cases h3 : 0 ≤ e ∧ e ≤ 1
      · skip
        refine op_q (v := (M.bnd a w e)) h ?_ (by have := bel_rng M a w (-1); unfold zI zD.bnd; split <;> omega) ?_ hP
        · refine zo_xq ?_
          refine j_X7_belief ?_
          refine zo_ob h.a.C.o (by omega) ?_
          refine zo_bn (k_A h.a.C h.a.D h1) ?_
          refine zo_ob h.a.C.o (by omega) ?_
          refine zo_bn (k_W h.a.C h.a.D h2) ?_
          refine zo_bn (k_R h3) ?_
          refine zo_gr h.a.C.o h.a.C.r3 (by omega) (by omega) ?_
          refine zo_ob h.a.C.o (by omega) ?_
          obtain ⟨μ4, e4, f4⟩ := c_believed (w := w) (e := e) h.a.C h.a.D W (by omega) (show 0 ≤ a ∧ a < 6 by omega)
          refine zo_bn e4 ?_
          exact zo_rt ⟨μ4, rfl, f4⟩
        · intro S1 μ2 h8
          refine zo_xq ?_
          refine j_X8_belief ?_
          refine zo_ob h8.H.o (by omega) ?_
          refine zo_bn (b_areThere h8.H h8.D) ?_
          refine zo_bn (b_in) ?_
          refine m_p2 h8.H (zbl_nz ⟨h1, h2⟩) (zbl_nz h3) ?_
          have g8 : W8 S1 (zup μ2 (x + 66) 0 0) (x + 66) M L K inp out c p := FM.u0.w8 h8
          have gt : zup μ2 (x + 66) 0 0 (x + 66) 0 = 0 := zup_at
          obtain ⟨μ4, e4, f4⟩ := b_boundOf (w := w) (e := e) g8.H g8.D W (show 0 ≤ a ∧ a < 6 by omega) g8.w
          refine zo_ob g8.H.o (by omega) ?_
          refine zo_bn e4 ?_
          exact zo_rt ⟨μ4, rfl, FM.tr FM.u0 f4.fm, by rw [f4.f _ (by decide) (by decide)]; exact gt⟩
      · refine op_t 1 2 h ?_ (by decide) (by decide) ?_ hP
        · apply zo_un
          refine j_X7_belief ?_
          refine zo_ob h.a.C.o (by omega) ?_
          refine zo_bn (k_A h.a.C h.a.D h1) ?_
          refine zo_ob h.a.C.o (by omega) ?_
          refine zo_bn (k_W h.a.C h.a.D h2) ?_
          exact zo_be (k_R_no h3) rfl
        · intro S1 μ2 h8
          refine zo_xt ?_
          refine j_X8_belief ?_
          refine zo_ob h8.H.o (by omega) ?_
          refine zo_bn (b_areThere h8.H h8.D) ?_
          refine zo_bn (b_in) ?_
          refine m_f2b h8.H (zbl_nz ⟨h1, h2⟩) (zbl_n (fun z => h3 z)) ?_
          exact ⟨_, _, rfl, FM.u0, zup_at⟩
    · refine op_t 2 1 h ?_ (by decide) (by decide) ?_ hP
      · apply zo_un
        refine j_X7_belief ?_
        refine zo_ob h.a.C.o (by omega) ?_
        refine zo_bn (k_A h.a.C h.a.D h1) ?_
        refine zo_ob h.a.C.o (by omega) ?_
        exact zo_be (k_W_no h.a.C h.a.D h2) rfl
      · intro S1 μ2 h8
        refine zo_xt ?_
        refine j_X8_belief ?_
        refine zo_ob h8.H.o (by omega) ?_
        refine zo_bn (b_areThere h8.H h8.D) ?_
        refine zo_bn (b_in) ?_
        refine m_f2a h8.H (zbl_n (fun z => h2 z.2)) ?_
        exact ⟨_, _, rfl, FM.u0, zup_at⟩
  · refine op_t 2 1 h ?_ (by decide) (by decide) ?_ hP
    · apply zo_un
      refine j_X7_belief ?_
      refine zo_ob h.a.C.o (by omega) ?_
      exact zo_be (k_A_no h.a.C h.a.D h1) rfl
    · intro S1 μ2 h8
      refine zo_xt ?_
      refine j_X8_belief ?_
      refine zo_ob h8.H.o (by omega) ?_
      refine zo_bn (b_areThere h8.H h8.D) ?_
      refine zo_bn (b_in) ?_
      refine m_f2a h8.H (zbl_n (fun z => h1 z.1)) ?_
      exact ⟨_, _, rfl, FM.u0, zup_at⟩
theorem o_sources {B x : Int} {S : zG} {μ : zM} {M : zD} {L : List zD} {K : zKs} {inp out : List Int} {c p : Int} {P : zG → zM → Prop} {a w : Int} (h : Wd B x S μ M L K inp out c p) (hP : ∀ S1 μ3, Wd B x S1 μ3 M L K inp out c p → P S1 μ3) : zOp x P (f_X7_sources x a w) (f_X8_sources (x + 66) a w) [(2, 1)] S μ := by
  have h60 := h.a.D.al
  have h61 := h.a.D.wl
  have W := h.w.M
  by_cases h1 : 0 ≤ a ∧ a < (M.an.length : Int)
  · skip
    by_cases h2 : 0 ≤ w ∧ w < (M.wn.length : Int)
    · skip
      refine op_q (v := (M.ors a w 0)) h ?_ (zws_rng _ _ _ _ (by unfold zI; decide)) ?_ hP
      · refine zo_xq ?_
        refine j_X7_sources ?_
        refine zo_ob h.a.C.o (by omega) ?_
        refine zo_bn (k_A h.a.C h.a.D h1) ?_
        refine zo_ob h.a.C.o (by omega) ?_
        refine zo_bn (k_W h.a.C h.a.D h2) ?_
        refine zo_ob h.a.C.o (by omega) ?_
        obtain ⟨μ4, e4, f4⟩ := c_originsOf (w := w) (t := 0) h.a.C h.a.D W (show 0 ≤ a ∧ a < 6 by omega)
        refine zo_bn e4 ?_
        exact zo_rt ⟨μ4, rfl, f4⟩
      · intro S1 μ2 h8
        refine zo_xq ?_
        refine j_X8_sources ?_
        refine zo_ob h8.H.o (by omega) ?_
        refine zo_bn (b_areThere h8.H h8.D) ?_
        refine m_p1 h8.H (zbl_nz ⟨h1, h2⟩) ?_
        have g8 : W8 S1 (zup μ2 (x + 66) 0 0) (x + 66) M L K inp out c p := FM.u0.w8 h8
        have gt : zup μ2 (x + 66) 0 0 (x + 66) 0 = 0 := zup_at
        obtain ⟨μ4, e4, f4⟩ := b_originsWith (w := w) (t := 0) g8.H g8.D W (show 0 ≤ a ∧ a < 6 by omega) g8.w (by decide)
        refine zo_ob g8.H.o (by omega) ?_
        refine zo_bn e4 ?_
        exact zo_rt ⟨μ4, rfl, FM.tr FM.u0 f4.fm, by rw [f4.f _ (by decide) (by decide)]; exact gt⟩
    · refine op_t 2 1 h ?_ (by decide) (by decide) ?_ hP
      · apply zo_un
        refine j_X7_sources ?_
        refine zo_ob h.a.C.o (by omega) ?_
        refine zo_bn (k_A h.a.C h.a.D h1) ?_
        refine zo_ob h.a.C.o (by omega) ?_
        exact zo_be (k_W_no h.a.C h.a.D h2) rfl
      · intro S1 μ2 h8
        refine zo_xt ?_
        refine j_X8_sources ?_
        refine zo_ob h8.H.o (by omega) ?_
        refine zo_bn (b_areThere h8.H h8.D) ?_
        refine m_f1 h8.H (zbl_n (fun z => h2 z.2)) ?_
        exact ⟨_, _, rfl, FM.u0, zup_at⟩
  · refine op_t 2 1 h ?_ (by decide) (by decide) ?_ hP
    · apply zo_un
      refine j_X7_sources ?_
      refine zo_ob h.a.C.o (by omega) ?_
      exact zo_be (k_A_no h.a.C h.a.D h1) rfl
    · intro S1 μ2 h8
      refine zo_xt ?_
      refine j_X8_sources ?_
      refine zo_ob h8.H.o (by omega) ?_
      refine zo_bn (b_areThere h8.H h8.D) ?_
      refine m_f1 h8.H (zbl_n (fun z => h1 z.1)) ?_
      exact ⟨_, _, rfl, FM.u0, zup_at⟩
theorem o_contradicted {B x : Int} {S : zG} {μ : zM} {M : zD} {L : List zD} {K : zKs} {inp out : List Int} {c p : Int} {P : zG → zM → Prop} {a w : Int} (h : Wd B x S μ M L K inp out c p) (hP : ∀ S1 μ3, Wd B x S1 μ3 M L K inp out c p → P S1 μ3) : zOp x P (f_X7_contradicted x a w) (f_X8_contradicted (x + 66) a w) [(2, 1)] S μ := by
  have h60 := h.a.D.al
  have h61 := h.a.D.wl
  have W := h.w.M
  by_cases h1 : 0 ≤ a ∧ a < (M.an.length : Int)
  · skip
    by_cases h2 : 0 ≤ w ∧ w < (M.wn.length : Int)
    · skip
      refine op_q (v := (M.ors a w 1)) h ?_ (zws_rng _ _ _ _ (by unfold zI; decide)) ?_ hP
      · refine zo_xq ?_
        refine j_X7_contradicted ?_
        refine zo_ob h.a.C.o (by omega) ?_
        refine zo_bn (k_A h.a.C h.a.D h1) ?_
        refine zo_ob h.a.C.o (by omega) ?_
        refine zo_bn (k_W h.a.C h.a.D h2) ?_
        refine zo_ob h.a.C.o (by omega) ?_
        obtain ⟨μ4, e4, f4⟩ := c_originsOf (w := w) (t := 1) h.a.C h.a.D W (show 0 ≤ a ∧ a < 6 by omega)
        refine zo_bn e4 ?_
        exact zo_rt ⟨μ4, rfl, f4⟩
      · intro S1 μ2 h8
        refine zo_xq ?_
        refine j_X8_contradicted ?_
        refine zo_ob h8.H.o (by omega) ?_
        refine zo_bn (b_areThere h8.H h8.D) ?_
        refine m_p1 h8.H (zbl_nz ⟨h1, h2⟩) ?_
        have g8 : W8 S1 (zup μ2 (x + 66) 0 0) (x + 66) M L K inp out c p := FM.u0.w8 h8
        have gt : zup μ2 (x + 66) 0 0 (x + 66) 0 = 0 := zup_at
        obtain ⟨μ4, e4, f4⟩ := b_originsWith (w := w) (t := 1) g8.H g8.D W (show 0 ≤ a ∧ a < 6 by omega) g8.w (by decide)
        refine zo_ob g8.H.o (by omega) ?_
        refine zo_bn e4 ?_
        exact zo_rt ⟨μ4, rfl, FM.tr FM.u0 f4.fm, by rw [f4.f _ (by decide) (by decide)]; exact gt⟩
    · refine op_t 2 1 h ?_ (by decide) (by decide) ?_ hP
      · apply zo_un
        refine j_X7_contradicted ?_
        refine zo_ob h.a.C.o (by omega) ?_
        refine zo_bn (k_A h.a.C h.a.D h1) ?_
        refine zo_ob h.a.C.o (by omega) ?_
        exact zo_be (k_W_no h.a.C h.a.D h2) rfl
      · intro S1 μ2 h8
        refine zo_xt ?_
        refine j_X8_contradicted ?_
        refine zo_ob h8.H.o (by omega) ?_
        refine zo_bn (b_areThere h8.H h8.D) ?_
        refine m_f1 h8.H (zbl_n (fun z => h2 z.2)) ?_
        exact ⟨_, _, rfl, FM.u0, zup_at⟩
  · refine op_t 2 1 h ?_ (by decide) (by decide) ?_ hP
    · apply zo_un
      refine j_X7_contradicted ?_
      refine zo_ob h.a.C.o (by omega) ?_
      exact zo_be (k_A_no h.a.C h.a.D h1) rfl
    · intro S1 μ2 h8
      refine zo_xt ?_
      refine j_X8_contradicted ?_
      refine zo_ob h8.H.o (by omega) ?_
      refine zo_bn (b_areThere h8.H h8.D) ?_
      refine m_f1 h8.H (zbl_n (fun z => h1 z.1)) ?_
      exact ⟨_, _, rfl, FM.u0, zup_at⟩
theorem o_best {B x : Int} {S : zG} {μ : zM} {M : zD} {L : List zD} {K : zKs} {inp out : List Int} {c p : Int} {P : zG → zM → Prop} {a r : Int} (h : Wd B x S μ M L K inp out c p) (hP : ∀ S1 μ3, Wd B x S1 μ3 M L K inp out c p → P S1 μ3) : zOp x P (f_X7_best x a r) (f_X8_best (x + 66) a r) [(2, 1), (1, 2)] S μ := by
  have h60 := h.a.D.al
  have h61 := h.a.D.wl
  have W := h.w.M
  by_cases h1 : 0 ≤ a ∧ a < (M.an.length : Int)
  · skip
    by_cases h2 : 0 ≤ r ∧ r ≤ 2
    · skip
      refine op_q (v := (M.bst a r)) h ?_ (by have := bst_rng M a r; unfold zI; omega) ?_ hP
      · refine zo_xq ?_
        refine j_X7_best ?_
        refine zo_ob h.a.C.o (by omega) ?_
        refine zo_bn (k_A h.a.C h.a.D h1) ?_
        refine zo_bn (k_R h2) ?_
        refine zo_gr h.a.C.o h.a.C.r3 (by omega) (by omega) ?_
        refine zo_ob h.a.C.o (by omega) ?_
        obtain ⟨μ4, e4, f4⟩ := c_bestWay (r := r) h.a.C h.a.D W (by omega) (show 0 ≤ a ∧ a < 6 by omega)
        refine zo_bn e4 ?_
        exact zo_rt ⟨μ4, rfl, f4⟩
      · intro S1 μ2 h8
        refine zo_xq ?_
        refine j_X8_best ?_
        refine zo_ob h8.H.o (by omega) ?_
        refine zo_bn (b_isAgent h8.H h8.D) ?_
        refine zo_bn (b_in) ?_
        refine m_p2 h8.H (zbl_nz h1) (zbl_nz h2) ?_
        have g8 : W8 S1 (zup μ2 (x + 66) 0 0) (x + 66) M L K inp out c p := FM.u0.w8 h8
        have gt : zup μ2 (x + 66) 0 0 (x + 66) 0 = 0 := zup_at
        obtain ⟨μ4, e4, f4⟩ := b_bestOf (r := r) g8.H g8.D W (show 0 ≤ a ∧ a < 6 by omega) g8.w
        refine zo_ob g8.H.o (by omega) ?_
        refine zo_bn e4 ?_
        exact zo_rt ⟨μ4, rfl, FM.tr FM.u0 f4.fm, by rw [f4.f _ (by decide) (by decide)]; exact gt⟩
    · refine op_t 1 2 h ?_ (by decide) (by decide) ?_ hP
      · apply zo_un
        refine j_X7_best ?_
        refine zo_ob h.a.C.o (by omega) ?_
        refine zo_bn (k_A h.a.C h.a.D h1) ?_
        exact zo_be (k_R_no h2) rfl
      · intro S1 μ2 h8
        refine zo_xt ?_
        refine j_X8_best ?_
        refine zo_ob h8.H.o (by omega) ?_
        refine zo_bn (b_isAgent h8.H h8.D) ?_
        refine zo_bn (b_in) ?_
        refine m_f2b h8.H (zbl_nz h1) (zbl_n (fun z => h2 z)) ?_
        exact ⟨_, _, rfl, FM.u0, zup_at⟩
  · refine op_t 2 1 h ?_ (by decide) (by decide) ?_ hP
    · apply zo_un
      refine j_X7_best ?_
      refine zo_ob h.a.C.o (by omega) ?_
      exact zo_be (k_A_no h.a.C h.a.D h1) rfl
    · intro S1 μ2 h8
      refine zo_xt ?_
      refine j_X8_best ?_
      refine zo_ob h8.H.o (by omega) ?_
      refine zo_bn (b_isAgent h8.H h8.D) ?_
      refine zo_bn (b_in) ?_
      refine m_f2a h8.H (zbl_n (fun z => h1 z)) ?_
      exact ⟨_, _, rfl, FM.u0, zup_at⟩
theorem o_account {B x : Int} {S : zG} {μ : zM} {M : zD} {L : List zD} {K : zKs} {inp out : List Int} {c p : Int} {P : zG → zM → Prop} {a w : Int} (h : Wd B x S μ M L K inp out c p) (hP : ∀ S1 μ3, Wd B x S1 μ3 M L K inp out c p → P S1 μ3) : zOp x P (f_X7_account x a w) (f_X8_account (x + 66) a w) [(2, 1), (1, 2)] S μ := by
  have h60 := h.a.D.al
  have h61 := h.a.D.wl
  have W := h.w.M
  by_cases h1 : 0 ≤ a ∧ a < (M.an.length : Int)
  · skip
    by_cases h2 : 0 ≤ w ∧ w ≤ 4
    · skip
      refine op_q (v := (M.ac a w)) h ?_ (W.ai a w) ?_ hP
      · refine zo_xq ?_
        refine j_X7_account ?_
        refine zo_ob h.a.C.o (by omega) ?_
        refine zo_bn (k_A h.a.C h.a.D h1) ?_
        refine zo_bn (k_R h2) ?_
        refine zo_gr h.a.C.o h.a.C.r3 (by omega) (by omega) ?_
        refine zo_ob h.a.D.sh.o (by omega) ?_
        refine zo_bn (d_accountOf h.a.D (by omega) (by omega)) ?_
        exact zo_rt ⟨_, rfl, FV.rf⟩
      · intro S1 μ2 h8
        refine zo_xq ?_
        refine j_X8_account ?_
        refine zo_ob h8.H.o (by omega) ?_
        refine zo_bn (b_isAgent h8.H h8.D) ?_
        refine zo_bn (b_in) ?_
        refine m_p2 h8.H (zbl_nz h1) (zbl_nz h2) ?_
        have g8 : W8 S1 (zup μ2 (x + 66) 0 0) (x + 66) M L K inp out c p := FM.u0.w8 h8
        have gt : zup μ2 (x + 66) 0 0 (x + 66) 0 = 0 := zup_at
        rw [i_ac (by omega) (by omega)]
        refine zo_gr g8.H.o g8.H.r1 (by omega) (by omega) ?_
        refine zo_ld g8.H.a1 (by omega) (g8.D.ac a w (by omega) (by omega) (by omega) (by omega)) ?_
        exact zo_rt ⟨_, rfl, FM.u0, gt⟩
    · refine op_t 1 2 h ?_ (by decide) (by decide) ?_ hP
      · apply zo_un
        refine j_X7_account ?_
        refine zo_ob h.a.C.o (by omega) ?_
        refine zo_bn (k_A h.a.C h.a.D h1) ?_
        exact zo_be (k_R_no h2) rfl
      · intro S1 μ2 h8
        refine zo_xt ?_
        refine j_X8_account ?_
        refine zo_ob h8.H.o (by omega) ?_
        refine zo_bn (b_isAgent h8.H h8.D) ?_
        refine zo_bn (b_in) ?_
        refine m_f2b h8.H (zbl_nz h1) (zbl_n (fun z => h2 z)) ?_
        exact ⟨_, _, rfl, FM.u0, zup_at⟩
  · refine op_t 2 1 h ?_ (by decide) (by decide) ?_ hP
    · apply zo_un
      refine j_X7_account ?_
      refine zo_ob h.a.C.o (by omega) ?_
      exact zo_be (k_A_no h.a.C h.a.D h1) rfl
    · intro S1 μ2 h8
      refine zo_xt ?_
      refine j_X8_account ?_
      refine zo_ob h8.H.o (by omega) ?_
      refine zo_bn (b_isAgent h8.H h8.D) ?_
      refine zo_bn (b_in) ?_
      refine m_f2a h8.H (zbl_n (fun z => h1 z)) ?_
      exact ⟨_, _, rfl, FM.u0, zup_at⟩
