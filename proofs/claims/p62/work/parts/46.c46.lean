/-! C 46: the class's questions about beliefs -/
noncomputable def zD.bnd (M : zD) (a w e : Int) : Int := if e = 0 then (M.bel a w (-1)).2.1 else (M.bel a w (-1)).2.2
noncomputable def zD.wid (M : zD) (a w x : Int) : Int := w32 ((M.bel a w x).2.2 - (M.bel a w x).2.1)
noncomputable def zD.val (M : zD) (a w r : Int) : Int := if r = 0 then (M.bel a w (-1)).2.2 else if r = 1 then (M.bel a w (-1)).2.1 else w32 ((M.bel a w (-1)).2.1 + (M.bel a w (-1)).2.2)
noncomputable def zbst (M : zD) (a r : Int) (k : Nat) (z : Int × Int) : Int × Int := if z.1 = -1 ∨ M.val a (k : Int) r < z.2 then ((k : Int), M.val a (k : Int) r) else z
noncomputable def zD.bst (M : zD) (a r : Int) : Int := (zlp (zbst M a r) 0 M.wn.length (-1, 0)).1
noncomputable def zriv (M : zD) (a b h : Int) (k : Nat) (c : Int) : Int := if ¬ (k : Int) = b ∧ (M.bel a (k : Int) (-1)).2.1 < h then zor c (zshl 1 (k : Int)) else c
noncomputable def zD.riv (M : zD) (a b : Int) : Int := if b = -1 then 0 else zlp (zriv M a b (M.bel a b (-1)).2.2) 0 M.wn.length 0
noncomputable def zD.sts (M : zD) (a : Int) (k : Nat) (p : zP) : Int := zso (M.bel a (p 3) (-1)) k (zent (p 3) (-1) (M.li a) 0)
noncomputable def zD.ors (M : zD) (a w t : Int) : Int := zws (M.bel a w (-1)) t (zent w (-1) (M.li a) 0) 0
def CB (S : zG) (x : Int) : Prop := (0 ≤ x) ∧ (S.1 x = some (0, 7)) ∧ (S.2.1 x 0 = x + 1) ∧ (S.2.1 x 1 = x + 3) ∧ (S.2.1 x 2 = x + 5) ∧ (S.2.1 x 3 = x + 12) ∧ (S.2.1 x 4 = x + 37) ∧ (S.2.1 x 5 = x + 62) ∧ (S.2.1 x 6 = x + 63) ∧ (S.2.1 x 7 = x + 65) ∧ (VSh S (x + 5))
theorem CB.mk {S : zG} {x : Int} (h : (0 ≤ x) ∧ (S.1 x = some (0, 7)) ∧ (S.2.1 x 0 = x + 1) ∧ (S.2.1 x 1 = x + 3) ∧ (S.2.1 x 2 = x + 5) ∧ (S.2.1 x 3 = x + 12) ∧ (S.2.1 x 4 = x + 37) ∧ (S.2.1 x 5 = x + 62) ∧ (S.2.1 x 6 = x + 63) ∧ (S.2.1 x 7 = x + 65) ∧ (VSh S (x + 5))) : CB S x := h
theorem CB.x0 {S : zG} {x : Int} (h : CB S x) : 0 ≤ x := h.1
theorem CB.o {S : zG} {x : Int} (h : CB S x) : S.1 x = some (0, 7) := h.2.1
theorem CB.r0 {S : zG} {x : Int} (h : CB S x) : S.2.1 x 0 = x + 1 := h.2.2.1
theorem CB.r1 {S : zG} {x : Int} (h : CB S x) : S.2.1 x 1 = x + 3 := h.2.2.2.1
theorem CB.r2 {S : zG} {x : Int} (h : CB S x) : S.2.1 x 2 = x + 5 := h.2.2.2.2.1
theorem CB.r3 {S : zG} {x : Int} (h : CB S x) : S.2.1 x 3 = x + 12 := h.2.2.2.2.2.1
theorem CB.r4 {S : zG} {x : Int} (h : CB S x) : S.2.1 x 4 = x + 37 := h.2.2.2.2.2.2.1
theorem CB.r5 {S : zG} {x : Int} (h : CB S x) : S.2.1 x 5 = x + 62 := h.2.2.2.2.2.2.2.1
theorem CB.r6 {S : zG} {x : Int} (h : CB S x) : S.2.1 x 6 = x + 63 := h.2.2.2.2.2.2.2.2.1
theorem CB.r7 {S : zG} {x : Int} (h : CB S x) : S.2.1 x 7 = x + 65 := h.2.2.2.2.2.2.2.2.2.1
theorem CB.V {S : zG} {x : Int} (h : CB S x) : VSh S (x + 5) := h.2.2.2.2.2.2.2.2.2.2
section C46
variable {S : zG} {μ μ' μ1 : zM} {d B a v w x t e r : Int} {M : zD} {Q : zR × zS → Prop} {X : zEn} {s : zBs}
theorem c_believed (C : CB S x) (hD : D7 S μ d M) (W : WF B M) (hvd : x + 12 ≤ d) (ha : 0 ≤ a ∧ a < 6) : ∃ μ', f_X7_believed x d a w e (S, μ) = some (.inl (M.bnd a w e), (S, μ')) ∧ FV (x + 5) μ μ' := by
  obtain ⟨μ1, e1, h1, f1⟩ := c_form (w := w) (x := -1) C.V hD W (by omega) ha
  apply zo_ux
  refine j_X7_believed ?_
  refine zo_gr C.o C.r2 (by omega) (by omega) ?_
  refine zo_ob C.V.o (by omega) ?_
  refine zo_bn e1 ?_
  by_cases h : e = 0
  · have ez : M.bnd a w e = (M.bel a w (-1)).2.1 := if_pos h
    rw [ez]
    refine zo_pos h ?_
    refine zo_gr C.o C.r2 (by omega) (by omega) ?_
    refine zo_gf C.V.o h1.lo (by omega) (by omega) ?_
    exact zo_rt ⟨μ1, rfl, f1⟩
  · have ez : M.bnd a w e = (M.bel a w (-1)).2.2 := if_neg h
    rw [ez]
    refine zo_neg h ?_
    refine zo_gr C.o C.r2 (by omega) (by omega) ?_
    refine zo_gf C.V.o h1.hi (by omega) (by omega) ?_
    exact zo_rt ⟨μ1, rfl, f1⟩
theorem c_widthOf (C : CB S x) (hD : D7 S μ d M) (W : WF B M) (hvd : x + 12 ≤ d) (ha : 0 ≤ a ∧ a < 6) : ∃ μ', f_X7_widthOf x d a w t (S, μ) = some (.inl (M.wid a w t), (S, μ')) ∧ FV (x + 5) μ μ' := by
  obtain ⟨μ1, e1, h1, f1⟩ := c_form (w := w) (x := t) C.V hD W (by omega) ha
  apply zo_ux
  refine j_X7_widthOf ?_
  refine zo_gr C.o C.r2 (by omega) (by omega) ?_
  refine zo_ob C.V.o (by omega) ?_
  refine zo_bn e1 ?_
  refine zo_gr C.o C.r2 (by omega) (by omega) ?_
  refine zo_gf C.V.o h1.hi (by omega) (by omega) ?_
  refine zo_gr C.o C.r2 (by omega) (by omega) ?_
  refine zo_gf C.V.o h1.lo (by omega) (by omega) ?_
  exact zo_rt ⟨μ1, rfl, f1⟩
theorem c_statusIn {k : Nat} {p : zP} (C : CB S x) (hD : D7 S μ (x + 12) M) (W : WF B M) (ha : 0 ≤ a ∧ a < 6) (hk : (M.li a)[k]? = some p) : ∃ μ', f_X7_statusIn x a (k : Int) (S, μ) = some (.inl (M.sts a k p), (S, μ')) ∧ FV (x + 5) μ μ' := by
  have D := hD.sh
  obtain ⟨μ1, e1, h1, f1⟩ := c_form (w := p 3) (x := -1) C.V hD W (by omega) ha
  apply zo_ux
  refine j_X7_statusIn ?_
  refine zo_gr C.o C.r2 (by omega) (by omega) ?_
  refine zo_gr C.o C.r3 (by omega) (by omega) ?_
  refine zo_gr C.o C.r3 (by omega) (by omega) ?_
  refine zo_ob D.o (by omega) ?_
  refine zo_bn (d_listOf hD ha) ?_
  refine zo_ob (D.ls a ha.1 ha.2).o (by omega) ?_
  refine zo_bn (d_get3 hD ha hk) ?_
  refine zo_ob C.V.o (by omega) ?_
  refine zo_bn e1 ?_
  refine zo_gr C.o C.r2 (by omega) (by omega) ?_
  refine zo_ob C.V.o (by omega) ?_
  refine zo_bn (c_statusOf C.V h1) ?_
  exact zo_rt ⟨μ1, rfl, f1⟩
theorem c_originsOf (C : CB S x) (hD : D7 S μ (x + 12) M) (W : WF B M) (ha : 0 ≤ a ∧ a < 6) : ∃ μ', f_X7_originsOf x a w t (S, μ) = some (.inl (M.ors a w t), (S, μ')) ∧ FV (x + 5) μ μ' := by
  obtain ⟨μ1, e1, h1, f1⟩ := c_form (w := w) (x := -1) C.V hD W (by omega) ha
  apply zo_ux
  refine j_X7_originsOf ?_
  refine zo_gr C.o C.r2 (by omega) (by omega) ?_
  refine zo_gr C.o C.r3 (by omega) (by omega) ?_
  refine zo_ob C.V.o (by omega) ?_
  refine zo_bn e1 ?_
  refine zo_gr C.o C.r2 (by omega) (by omega) ?_
  refine zo_ob C.V.o (by omega) ?_
  refine zo_bn (c_originsWith C.V h1) ?_
  exact zo_rt ⟨μ1, rfl, f1⟩
theorem c_bestWay (C : CB S x) (hD : D7 S μ d M) (W : WF B M) (hvd : x + 12 ≤ d) (ha : 0 ≤ a ∧ a < 6) : ∃ μ', f_X7_bestWay x d a r (S, μ) = some (.inl (M.bst a r), (S, μ')) ∧ FV (x + 5) μ μ' := by
  have D := hD.sh
  have hwl := hD.wl
  apply zo_ux
  refine j_X7_bestWay ?_
  refine zo_l4 (F := fun m (k : Nat) (f l : Int) (μ2 : zM) => f_X7_bestWay_9 m x d a r f l (k : Int) (S, μ2)) (fun k f l μ2 => k ≤ M.wn.length ∧ zlp (zbst M a r) k (M.wn.length - k) (f, l) = zlp (zbst M a r) 0 M.wn.length (-1, 0) ∧ FV (x + 5) μ μ2) (fun k _ _ _ => M.wn.length - k) ?_ zFU 0 (-1) 0 μ ⟨by omega, rfl, FV.rf⟩ (by show M.wn.length - 0 < 1000000; omega)
  rintro m k f l μ2 ⟨hk, hz, hf⟩ ih
  have hD2 : D7 S μ2 d M := hD.keep (fun y h1 h2 => hf y (by omega))
  refine j_X7_bestWay_9 ?_
  refine zo_gr D.o D.r2 (by omega) (by omega) ?_
  refine zo_gf D.wa.o hD2.wn0 (by omega) (by omega) ?_
  by_cases e : k < M.wn.length
  · have e9 : M.wn.length - k = (M.wn.length - (k + 1)) + 1 := by omega
    rw [e9] at hz
    have hz' : zlp (zbst M a r) (k + 1) (M.wn.length - (k + 1)) (zbst M a r k (f, l)) = zlp (zbst M a r) 0 M.wn.length (-1, 0) := hz
    obtain ⟨μ3, e3, h3, f3⟩ := c_form (w := (k : Int)) (x := -1) C.V hD2 W (by omega) ha
    have go : ∀ u, M.val a (k : Int) r = u → zo (f_X7_bestWay_77 (f_X7_bestWay_9 m) x d a r f l (k : Int) u (S, μ3)) (fun y => ∃ μ', y = (.inl (M.bst a r), (S, μ')) ∧ FV (x + 5) μ μ') := by
      intro u hu
      unfold zbst at hz'
      rw [hu] at hz'
      have take : (f = -1 ∨ u < l) → zo (f_X7_bestWay_92 (f_X7_bestWay_9 m) x d a r (k : Int) u (S, μ3)) (fun y => ∃ μ', y = (.inl (M.bst a r), (S, μ')) ∧ FV (x + 5) μ μ') := by
        intro hc
        rw [if_pos hc] at hz'
        refine j_X7_bestWay_92 ?_
        refine j_X7_bestWay_100 ?_
        rw [w32_s (k := k) (by omega)]
        exact ih (k + 1) _ _ μ3 ⟨by omega, hz', FV.tr hf f3⟩ (by omega)
      refine j_X7_bestWay_77 ?_
      refine zo_ite (fun h1 => take (Or.inl h1)) (fun h1 => ?_)
      refine zo_ite (fun h2 => take (Or.inr h2)) (fun h2 => ?_)
      rw [if_neg (fun z => z.elim h1 h2)] at hz'
      refine j_X7_bestWay_100 ?_
      rw [w32_s (k := k) (by omega)]
      exact ih (k + 1) _ _ μ3 ⟨by omega, hz', FV.tr hf f3⟩ (by omega)
    refine zo_pos (by omega) ?_
    refine zo_gr C.o C.r2 (by omega) (by omega) ?_
    refine zo_ob C.V.o (by omega) ?_
    refine zo_bn e3 ?_
    refine zo_ite (fun h0 => ?_) (fun h0 => ?_)
    · refine zo_gr C.o C.r2 (by omega) (by omega) ?_
      refine zo_gf C.V.o h3.hi (by omega) (by omega) ?_
      exact go _ (if_pos h0)
    · refine zo_ite (fun h1 => ?_) (fun h1 => ?_)
      · refine zo_gr C.o C.r2 (by omega) (by omega) ?_
        refine zo_gf C.V.o h3.lo (by omega) (by omega) ?_
        exact go _ ((if_neg h0).trans (if_pos h1))
      · refine zo_gr C.o C.r2 (by omega) (by omega) ?_
        refine zo_gf C.V.o h3.lo (by omega) (by omega) ?_
        refine zo_gr C.o C.r2 (by omega) (by omega) ?_
        refine zo_gf C.V.o h3.hi (by omega) (by omega) ?_
        exact go _ ((if_neg h0).trans (if_neg h1))
  · have e9 : M.wn.length - k = 0 := by omega
    rw [e9] at hz
    have hz' : (f, l) = zlp (zbst M a r) 0 M.wn.length (-1, 0) := hz
    refine zo_neg (by omega) ?_
    refine zo_rt ⟨μ2, ?_, hf⟩
    unfold zD.bst
    rw [← hz']
theorem c_rivalsOf (C : CB S x) (hD : D7 S μ (x + 12) M) (W : WF B M) (ha : 0 ≤ a ∧ a < 6) : ∃ μ', f_X7_rivalsOf x a r (S, μ) = some (.inl (M.riv a r), (S, μ')) ∧ FV (x + 5) μ μ' := by
  have D := hD.sh
  have hwl := hD.wl
  apply zo_ux
  refine j_X7_rivalsOf ?_
  by_cases hr : r = -1
  · have ez : M.riv a r = 0 := if_pos hr
    rw [ez]
    refine zo_pos hr ?_
    exact zo_rt ⟨μ, rfl, FV.rf⟩
  · have ez : M.riv a r = zlp (zriv M a r (M.bel a r (-1)).2.2) 0 M.wn.length 0 := if_neg hr
    rw [ez]
    refine zo_neg hr ?_
    obtain ⟨μ1, e1, h1, f1⟩ := c_form (w := r) (x := -1) C.V hD W (by omega) ha
    refine zo_gr C.o C.r2 (by omega) (by omega) ?_
    refine zo_gr C.o C.r3 (by omega) (by omega) ?_
    refine zo_ob C.V.o (by omega) ?_
    refine zo_bn e1 ?_
    refine zo_gr C.o C.r2 (by omega) (by omega) ?_
    refine zo_gf C.V.o h1.hi (by omega) (by omega) ?_
    generalize (M.bel a r (-1)).2.2 = h at *
    refine zo_l3 (F := fun m (k : Nat) (c : Int) (μ2 : zM) => f_X7_rivalsOf_35 m x a r h c (k : Int) (S, μ2)) (fun k c μ2 => k ≤ M.wn.length ∧ zlp (zriv M a r h) k (M.wn.length - k) c = zlp (zriv M a r h) 0 M.wn.length 0 ∧ FV (x + 5) μ μ2) (fun k _ _ => M.wn.length - k) ?_ zFU 0 0 μ1 ⟨by omega, rfl, f1⟩ (by show M.wn.length - 0 < 1000000; omega)
    rintro m k c μ2 ⟨hk, hz, hf⟩ ih
    have hD2 : D7 S μ2 (x + 12) M := hD.keep (fun y h1 h2 => hf y (by omega))
    refine j_X7_rivalsOf_35 ?_
    refine zo_gr C.o C.r3 (by omega) (by omega) ?_
    refine zo_gr D.o D.r2 (by omega) (by omega) ?_
    refine zo_gf D.wa.o hD2.wn0 (by omega) (by omega) ?_
    by_cases e : k < M.wn.length
    · have e9 : M.wn.length - k = (M.wn.length - (k + 1)) + 1 := by omega
      rw [e9] at hz
      have hz' : zlp (zriv M a r h) (k + 1) (M.wn.length - (k + 1)) (zriv M a r h k c) = zlp (zriv M a r h) 0 M.wn.length 0 := hz
      obtain ⟨μ3, e3, h3, f3⟩ := c_form (w := (k : Int)) (x := -1) C.V hD2 W (by omega) ha
      have go : ∀ u, zriv M a r h k c = u → zo (f_X7_rivalsOf_91 (f_X7_rivalsOf_35 m) x a r h u (k : Int) (S, μ3)) (fun y => ∃ μ', y = (.inl (zlp (zriv M a r h) 0 M.wn.length 0), (S, μ')) ∧ FV (x + 5) μ μ') := by
        intro u hu
        rw [hu] at hz'
        refine j_X7_rivalsOf_91 ?_
        rw [w32_s (k := k) (by omega)]
        exact ih (k + 1) _ μ3 ⟨by omega, hz', FV.tr hf f3⟩ (by omega)
      refine zo_pos (by omega) ?_
      refine zo_gr C.o C.r2 (by omega) (by omega) ?_
      refine zo_gr C.o C.r3 (by omega) (by omega) ?_
      refine zo_ob C.V.o (by omega) ?_
      refine zo_bn e3 ?_
      refine zo_ite (fun h0 => go _ (if_neg (fun z => z.1 h0))) (fun h0 => ?_)
      refine zo_gr C.o C.r2 (by omega) (by omega) ?_
      refine zo_gf C.V.o h3.lo (by omega) (by omega) ?_
      refine zo_ite (fun h4 => go _ (if_pos ⟨h0, h4⟩)) (fun h4 => go _ (if_neg (fun z => h4 z.2)))
    · have e9 : M.wn.length - k = 0 := by omega
      rw [e9] at hz
      have hz' : c = zlp (zriv M a r h) 0 M.wn.length 0 := hz
      refine zo_neg (by omega) ?_
      exact zo_rt ⟨μ2, by rw [← hz'], hf⟩
end C46
