/-! R0: the law's worlds and small functions -/
section R0
variable {B x : Int} {S S' S0 : zG} {μ μ' μ0 μ1 μ2 : zM} {M : zD} {L : List zD} {K : zKs} {inp out : List Int} {c p a w o : Int} {H : Int → zS → zFn} {Q : zR × zS → Prop} {k i : Nat} {q q1 q2 : zP}
def Ext (x : Int) (S S' : zG) (μ μ' : zM) : Prop := (∀ y, y < S.2.2 → S'.1 y = S.1 y) ∧ (∀ y j, y < S.2.2 → S'.2.1 y j = S.2.1 y j) ∧ S.2.2 ≤ S'.2.2 ∧ (∀ y, y < S.2.2 → (y < x + 5 ∨ x + 12 ≤ y) → μ' y = μ y)
theorem Ext.rf : Ext x S S μ μ := ⟨fun _ _ => rfl, fun _ _ _ => rfl, Int.le_refl _, fun _ _ _ => rfl⟩
theorem Ext.tr {S2 : zG} (h : Ext x S S' μ μ1) (k : Ext x S' S2 μ1 μ2) : Ext x S S2 μ μ2 := ⟨fun y hy => (k.1 y (by have := h.2.2.1; omega)).trans (h.1 y hy), fun y j hy => (k.2.1 y j (by have := h.2.2.1; omega)).trans (h.2.1 y j hy), Int.le_trans h.2.2.1 k.2.2.1, fun y hy hz => (k.2.2.2 y (by have := h.2.2.1; omega) hz).trans (h.2.2.2 y hy hz)⟩
theorem Ext.fv (h : Ext x S S' μ μ1) (f : FV (x + 5) μ1 μ2) : Ext x S S' μ μ2 := ⟨h.1, h.2.1, h.2.2.1, fun y hy hz => (f y (by omega)).trans (h.2.2.2 y hy hz)⟩
theorem Ext.up (h : Ext x S S' μ μ1) {r j v : Int} (hr : S.2.2 ≤ r) : Ext x S S' μ (zup μ1 r j v) := ⟨h.1, h.2.1, h.2.2.1, fun y hy hz => (zup_c (by omega)).trans (h.2.2.2 y hy hz)⟩
theorem Wd.ext (h : Wd B x S μ M L K inp out c p) (e : Ext x S S' μ μ') : Wd B x S' μ' M L K inp out c p := by
  obtain ⟨es, er, en, em⟩ := e
  obtain ⟨r, hr⟩ := h.a.H
  have hz := hr.P.nz
  have hx := h.a.C.x0
  have hd : ∀ {d : Int} {X : zD}, x + 12 ≤ d → d + 25 ≤ S.2.2 → D7 S μ d X → D7 S' μ' d X := fun h1 h2 h3 => h3.keep2 (fun y h4 h5 => es y (by omega)) (fun y j h4 h5 => er y j (by omega)) (fun y h4 h5 => em y (by omega) (by omega))
  have hs : ∀ {d : Int}, x + 12 ≤ d → d + 25 ≤ S.2.2 → DSh S d → DSh S' d := fun h1 h2 h3 => h3.keep (fun y h4 h5 => es y (by omega)) (fun y j h4 h5 => er y j (by omega))
  have hR : HR7 S' μ' x (x + 66) r L K := by
    refine HR7.mk ⟨Pool.mk ⟨⟨hz.1, by omega⟩, fun i hi => ?_, hr.P.dj⟩, hr.xz, (es _ (by omega)).trans hr.o, (er _ _ (by omega)).trans hr.a, (es _ (by omega)).trans hr.s, (es _ (by omega)).trans hr.s2, fun i hi => (er _ _ (by omega)).trans (hr.r6 i hi), fun i hi => (er _ _ (by omega)).trans (hr.r2 i hi), hr.n, (congrFun (em _ (by omega) (by omega)) 1).trans hr.c, fun i X hX => ?_, hr.K0, fun i X hi hX => ?_⟩
    · rcases hr.P.ok i hi with h1 | ⟨h1, h2, h3, h4⟩
      · exact Or.inl h1
      · exact Or.inr ⟨h1, by omega, hs (by omega) h2 h3, (congrFun (em _ (by omega) (by omega)) 1).trans h4⟩
    · obtain ⟨h1, h2⟩ := hr.L i X hX
      have hi : i < 8 := by
        have h3 := (List.getElem?_eq_some_iff.mp hX).1
        have h4 := hr.n
        omega
      rcases hr.P.ok i hi with h3 | ⟨h3, h4, h5, h6⟩
      · exact absurd h3 h1
      · exact ⟨h1, hd (by omega) h4 h2⟩
    · obtain ⟨h1, h2⟩ := hr.K1 i X hi hX
      rcases hr.P.ok (6 + i) (by omega) with h3 | ⟨h3, h4, h5, h6⟩
      · exact absurd h3 h1
      · exact ⟨h1, hd (by omega) h4 h2⟩
  refine Wd.mk ⟨W7.mk ⟨h.a.C.keep (fun y h1 h2 => es y (by omega)) (fun y j h1 h2 => er y j (by omega)), hd (by omega) (by omega) h.a.D, hs (by omega) (by omega) h.a.ts, (congrFun (em _ (by omega) (by omega)) 1).trans h.a.te, ⟨r, hR⟩, h.a.bi.keep (es _ (by omega)) (es _ (by omega)) (er _ _ (by omega)), h.a.li.keep (congrFun (em _ (by omega) (by omega)) 1) (fun k => congrFun (em _ (by omega) (by omega)) _), h.a.bo.keep (es _ (by omega)) (es _ (by omega)) (er _ _ (by omega)), h.a.lo.keep (congrFun (em _ (by omega) (by omega)) 1) (fun k => congrFun (em _ (by omega) (by omega)) _), (es _ (by omega)).trans h.a.po, (er _ _ (by omega)).trans h.a.p0, (er _ _ (by omega)).trans h.a.p1, (congrFun (em _ (by omega) (by omega)) 6).trans h.a.pc, (congrFun (em _ (by omega) (by omega)) 7).trans h.a.pp, h.a.il, h.a.ol⟩, h.w⟩
theorem Wd.fv (h : Wd B x S μ M L K inp out c p) (f : FV (x + 5) μ μ') : Wd B x S μ' M L K inp out c p := h.ext (Ext.rf.fv f)
theorem Wd.nn (h : Wd B x S μ M L K inp out c p) : 0 ≤ x ∧ x + 66 ≤ S.2.2 := by
  obtain ⟨r, hr⟩ := h.a.H
  exact ⟨h.a.C.x0, hr.P.nz.2⟩
/-- a walk that only asks, begun at μ0 -/
def Sd (B x : Int) (S : zG) (μ0 μ : zM) (M : zD) (L : List zD) (K : zKs) (inp out : List Int) (c p : Int) : Prop := Wd B x S μ M L K inp out c p ∧ FV (x + 5) μ0 μ
theorem Wd.sd (h : Wd B x S μ M L K inp out c p) : Sd B x S μ μ M L K inp out c p := ⟨h, FV.rf⟩
theorem Sd.fv (h : Sd B x S μ0 μ M L K inp out c p) (f : FV (x + 5) μ μ') : Sd B x S μ0 μ' M L K inp out c p := ⟨h.1.fv f, FV.tr h.2 f⟩
theorem Sd.W (h : Sd B x S μ0 μ M L K inp out c p) : WF B M := h.1.w.M
theorem y_na {t N : Nat} {n : Int} {S : zG} {μ : zM} (hn : 0 ≤ n ∧ n ≤ (N : Int)) (q : ∀ S1 μ1, Ext x S S1 μ μ1 → S1.2.2 = S.2.2 + 1 → S1.1 S.2.2 = some (t, n) → (∀ j, μ1 S.2.2 j = 0) → zo (H S.2.2 (S1, μ1)) Q) : zo (zna t N n (S, μ) H) Q := by
  refine zo_na2 (a := S.2.2) (c := S.2.2 + 1) hn rfl rfl ?_
  rintro ⟨S1, μ1⟩ m
  exact q S1 μ1 ⟨fun y hy => m.sh y (by omega), fun y j hy => m.rf y j (by omega), by rw [show S1.2.2 = S.2.2 + 1 from m.nx]; omega, fun y hy _ => by funext j; exact m.m y j (by omega)⟩ m.nx m.sh0 m.m0
theorem prp0 (M : zD) : M.prp 0 = (M.an.length : Int) := rfl
theorem prp1 (M : zD) : M.prp 1 = (M.wn.length : Int) := rfl
theorem prp2 (M : zD) : M.prp 2 = M.tm := rfl
theorem prp8 (M : zD) : M.prp 8 = (M.qu.length : Int) := rfl
theorem prp9 (M : zD) : M.prp 9 = M.lks := rfl
theorem prp3 (M : zD) : M.prp 3 = M.ru 0 := rfl
theorem prp4 (M : zD) : M.prp 4 = M.ru 1 := rfl
theorem prp5 (M : zD) : M.prp 5 = M.ru 2 := rfl
theorem prp7 (M : zD) : M.prp 7 = M.ru 4 := rfl
theorem y_property0 (h : Sd B x S μ0 μ M L K inp out c p) (g : ∀ μ', Sd B x S μ0 μ' M L K inp out c p → zo (H (M.an.length : Int) (S, μ')) Q) : zo (zob 7 x (S, μ) (zbn (f_X7_property x 0 (S, μ)) H)) Q := by
  obtain ⟨μ', e, f⟩ := q_property (w := 0) h.1 (by decide)
  refine zo_ob h.1.a.C.o (by omega) ?_
  exact zo_bn e (g μ' (h.fv f))
theorem y_property1 (h : Sd B x S μ0 μ M L K inp out c p) (g : ∀ μ', Sd B x S μ0 μ' M L K inp out c p → zo (H (M.wn.length : Int) (S, μ')) Q) : zo (zob 7 x (S, μ) (zbn (f_X7_property x 1 (S, μ)) H)) Q := by
  obtain ⟨μ', e, f⟩ := q_property (w := 1) h.1 (by decide)
  refine zo_ob h.1.a.C.o (by omega) ?_
  exact zo_bn e (g μ' (h.fv f))
theorem y_property2 (h : Sd B x S μ0 μ M L K inp out c p) (g : ∀ μ', Sd B x S μ0 μ' M L K inp out c p → zo (H (M.tm) (S, μ')) Q) : zo (zob 7 x (S, μ) (zbn (f_X7_property x 2 (S, μ)) H)) Q := by
  obtain ⟨μ', e, f⟩ := q_property (w := 2) h.1 (by decide)
  refine zo_ob h.1.a.C.o (by omega) ?_
  exact zo_bn e (g μ' (h.fv f))
theorem y_property3 (h : Sd B x S μ0 μ M L K inp out c p) (g : ∀ μ', Sd B x S μ0 μ' M L K inp out c p → zo (H (M.ru 0) (S, μ')) Q) : zo (zob 7 x (S, μ) (zbn (f_X7_property x 3 (S, μ)) H)) Q := by
  obtain ⟨μ', e, f⟩ := q_property (w := 3) h.1 (by decide)
  refine zo_ob h.1.a.C.o (by omega) ?_
  exact zo_bn e (g μ' (h.fv f))
theorem y_property4 (h : Sd B x S μ0 μ M L K inp out c p) (g : ∀ μ', Sd B x S μ0 μ' M L K inp out c p → zo (H (M.ru 1) (S, μ')) Q) : zo (zob 7 x (S, μ) (zbn (f_X7_property x 4 (S, μ)) H)) Q := by
  obtain ⟨μ', e, f⟩ := q_property (w := 4) h.1 (by decide)
  refine zo_ob h.1.a.C.o (by omega) ?_
  exact zo_bn e (g μ' (h.fv f))
theorem y_property5 (h : Sd B x S μ0 μ M L K inp out c p) (g : ∀ μ', Sd B x S μ0 μ' M L K inp out c p → zo (H (M.ru 2) (S, μ')) Q) : zo (zob 7 x (S, μ) (zbn (f_X7_property x 5 (S, μ)) H)) Q := by
  obtain ⟨μ', e, f⟩ := q_property (w := 5) h.1 (by decide)
  refine zo_ob h.1.a.C.o (by omega) ?_
  exact zo_bn e (g μ' (h.fv f))
theorem y_property7 (h : Sd B x S μ0 μ M L K inp out c p) (g : ∀ μ', Sd B x S μ0 μ' M L K inp out c p → zo (H (M.ru 4) (S, μ')) Q) : zo (zob 7 x (S, μ) (zbn (f_X7_property x 7 (S, μ)) H)) Q := by
  obtain ⟨μ', e, f⟩ := q_property (w := 7) h.1 (by decide)
  refine zo_ob h.1.a.C.o (by omega) ?_
  exact zo_bn e (g μ' (h.fv f))
theorem y_property8 (h : Sd B x S μ0 μ M L K inp out c p) (g : ∀ μ', Sd B x S μ0 μ' M L K inp out c p → zo (H (M.qu.length : Int) (S, μ')) Q) : zo (zob 7 x (S, μ) (zbn (f_X7_property x 8 (S, μ)) H)) Q := by
  obtain ⟨μ', e, f⟩ := q_property (w := 8) h.1 (by decide)
  refine zo_ob h.1.a.C.o (by omega) ?_
  exact zo_bn e (g μ' (h.fv f))
theorem y_property9 (h : Sd B x S μ0 μ M L K inp out c p) (g : ∀ μ', Sd B x S μ0 μ' M L K inp out c p → zo (H (M.lks) (S, μ')) Q) : zo (zob 7 x (S, μ) (zbn (f_X7_property x 9 (S, μ)) H)) Q := by
  obtain ⟨μ', e, f⟩ := q_property (w := 9) h.1 (by decide)
  refine zo_ob h.1.a.C.o (by omega) ?_
  exact zo_bn e (g μ' (h.fv f))
theorem y_reports (h : Sd B x S μ0 μ M L K inp out c p) (ha : 0 ≤ a ∧ a < (M.an.length : Int)) (g : ∀ μ', Sd B x S μ0 μ' M L K inp out c p → zo (H (((M.li a).length : Int)) (S, μ')) Q) : zo (zob 7 x (S, μ) (zbn (f_X7_reports x a (S, μ)) H)) Q := by
  obtain ⟨μ', e, f⟩ := q_reports h.1 ha
  refine zo_ob h.1.a.C.o (by omega) ?_
  exact zo_bn e (g μ' (h.fv f))
theorem y_report0 (h : Sd B x S μ0 μ M L K inp out c p) (hq : (M.li a)[k]? = some q) (ha : 0 ≤ a ∧ a < (M.an.length : Int)) (g : ∀ μ', Sd B x S μ0 μ' M L K inp out c p → zo (H (q 0) (S, μ')) Q) : zo (zob 7 x (S, μ) (zbn (f_X7_report x a (k : Int) 0 (S, μ)) H)) Q := by
  obtain ⟨μ', e, f⟩ := q_report (j := 0) hq ha h.1 (by decide)
  refine zo_ob h.1.a.C.o (by omega) ?_
  exact zo_bn e (g μ' (h.fv f))
theorem y_report1 (h : Sd B x S μ0 μ M L K inp out c p) (hq : (M.li a)[k]? = some q) (ha : 0 ≤ a ∧ a < (M.an.length : Int)) (g : ∀ μ', Sd B x S μ0 μ' M L K inp out c p → zo (H (q 1) (S, μ')) Q) : zo (zob 7 x (S, μ) (zbn (f_X7_report x a (k : Int) 1 (S, μ)) H)) Q := by
  obtain ⟨μ', e, f⟩ := q_report (j := 1) hq ha h.1 (by decide)
  refine zo_ob h.1.a.C.o (by omega) ?_
  exact zo_bn e (g μ' (h.fv f))
theorem y_report2 (h : Sd B x S μ0 μ M L K inp out c p) (hq : (M.li a)[k]? = some q) (ha : 0 ≤ a ∧ a < (M.an.length : Int)) (g : ∀ μ', Sd B x S μ0 μ' M L K inp out c p → zo (H (q 2) (S, μ')) Q) : zo (zob 7 x (S, μ) (zbn (f_X7_report x a (k : Int) 2 (S, μ)) H)) Q := by
  obtain ⟨μ', e, f⟩ := q_report (j := 2) hq ha h.1 (by decide)
  refine zo_ob h.1.a.C.o (by omega) ?_
  exact zo_bn e (g μ' (h.fv f))
theorem y_report3 (h : Sd B x S μ0 μ M L K inp out c p) (hq : (M.li a)[k]? = some q) (ha : 0 ≤ a ∧ a < (M.an.length : Int)) (g : ∀ μ', Sd B x S μ0 μ' M L K inp out c p → zo (H (q 3) (S, μ')) Q) : zo (zob 7 x (S, μ) (zbn (f_X7_report x a (k : Int) 3 (S, μ)) H)) Q := by
  obtain ⟨μ', e, f⟩ := q_report (j := 3) hq ha h.1 (by decide)
  refine zo_ob h.1.a.C.o (by omega) ?_
  exact zo_bn e (g μ' (h.fv f))
theorem y_report4 (h : Sd B x S μ0 μ M L K inp out c p) (hq : (M.li a)[k]? = some q) (ha : 0 ≤ a ∧ a < (M.an.length : Int)) (g : ∀ μ', Sd B x S μ0 μ' M L K inp out c p → zo (H (q 4) (S, μ')) Q) : zo (zob 7 x (S, μ) (zbn (f_X7_report x a (k : Int) 4 (S, μ)) H)) Q := by
  obtain ⟨μ', e, f⟩ := q_report (j := 4) hq ha h.1 (by decide)
  refine zo_ob h.1.a.C.o (by omega) ?_
  exact zo_bn e (g μ' (h.fv f))
theorem y_report5 (h : Sd B x S μ0 μ M L K inp out c p) (hq : (M.li a)[k]? = some q) (ha : 0 ≤ a ∧ a < (M.an.length : Int)) (g : ∀ μ', Sd B x S μ0 μ' M L K inp out c p → zo (H (q 5) (S, μ')) Q) : zo (zob 7 x (S, μ) (zbn (f_X7_report x a (k : Int) 5 (S, μ)) H)) Q := by
  obtain ⟨μ', e, f⟩ := q_report (j := 5) hq ha h.1 (by decide)
  refine zo_ob h.1.a.C.o (by omega) ?_
  exact zo_bn e (g μ' (h.fv f))
theorem y_report6 (h : Sd B x S μ0 μ M L K inp out c p) (hq : (M.li a)[k]? = some q) (ha : 0 ≤ a ∧ a < (M.an.length : Int)) (g : ∀ μ', Sd B x S μ0 μ' M L K inp out c p → zo (H (q 6) (S, μ')) Q) : zo (zob 7 x (S, μ) (zbn (f_X7_report x a (k : Int) 6 (S, μ)) H)) Q := by
  obtain ⟨μ', e, f⟩ := q_report (j := 6) hq ha h.1 (by decide)
  refine zo_ob h.1.a.C.o (by omega) ?_
  exact zo_bn e (g μ' (h.fv f))
theorem y_trust (h : Sd B x S μ0 μ M L K inp out c p) (ha : 0 ≤ a ∧ a < (M.an.length : Int)) (ho : 0 ≤ o ∧ o < (M.an.length : Int)) (g : ∀ μ', Sd B x S μ0 μ' M L K inp out c p → zo (H (M.T a o) (S, μ')) Q) : zo (zob 7 x (S, μ) (zbn (f_X7_trust x a o (S, μ)) H)) Q := by
  obtain ⟨μ', e, f⟩ := q_trust h.1 ha ho
  refine zo_ob h.1.a.C.o (by omega) ?_
  exact zo_bn e (g μ' (h.fv f))
theorem y_moved0 (h : Sd B x S μ0 μ M L K inp out c p) (hq : (M.li a)[k]? = some q) (ha : 0 ≤ a ∧ a < (M.an.length : Int)) (g : ∀ μ', Sd B x S μ0 μ' M L K inp out c p → zo (H (M.mvd a 0 q) (S, μ')) Q) : zo (zob 7 x (S, μ) (zbn (f_X7_moved x a (k : Int) 0 (S, μ)) H)) Q := by
  obtain ⟨μ', e, f⟩ := q_moved (e := 0) hq ha h.1 (by decide)
  refine zo_ob h.1.a.C.o (by omega) ?_
  exact zo_bn e (g μ' (h.fv f))
theorem y_moved1 (h : Sd B x S μ0 μ M L K inp out c p) (hq : (M.li a)[k]? = some q) (ha : 0 ≤ a ∧ a < (M.an.length : Int)) (g : ∀ μ', Sd B x S μ0 μ' M L K inp out c p → zo (H (M.mvd a 1 q) (S, μ')) Q) : zo (zob 7 x (S, μ) (zbn (f_X7_moved x a (k : Int) 1 (S, μ)) H)) Q := by
  obtain ⟨μ', e, f⟩ := q_moved (e := 1) hq ha h.1 (by decide)
  refine zo_ob h.1.a.C.o (by omega) ?_
  exact zo_bn e (g μ' (h.fv f))
theorem y_status (h : Sd B x S μ0 μ M L K inp out c p) (hq : (M.li a)[k]? = some q) (ha : 0 ≤ a ∧ a < (M.an.length : Int)) (g : ∀ μ', Sd B x S μ0 μ' M L K inp out c p → zo (H (M.sts a k q) (S, μ')) Q) : zo (zob 7 x (S, μ) (zbn (f_X7_status x a (k : Int) (S, μ)) H)) Q := by
  obtain ⟨μ', e, f⟩ := q_status hq ha h.1
  refine zo_ob h.1.a.C.o (by omega) ?_
  exact zo_bn e (g μ' (h.fv f))
theorem y_belief0 (h : Sd B x S μ0 μ M L K inp out c p) (ha : 0 ≤ a ∧ a < (M.an.length : Int)) (hw : 0 ≤ w ∧ w < (M.wn.length : Int)) (g : ∀ μ', Sd B x S μ0 μ' M L K inp out c p → zo (H ((M.bel a w (-1)).2.1) (S, μ')) Q) : zo (zob 7 x (S, μ) (zbn (f_X7_belief x a w 0 (S, μ)) H)) Q := by
  obtain ⟨μ', e, f⟩ := q_belief (e := 0) h.1 ha hw (by decide)
  refine zo_ob h.1.a.C.o (by omega) ?_
  exact zo_bn e (g μ' (h.fv f))
theorem y_belief1 (h : Sd B x S μ0 μ M L K inp out c p) (ha : 0 ≤ a ∧ a < (M.an.length : Int)) (hw : 0 ≤ w ∧ w < (M.wn.length : Int)) (g : ∀ μ', Sd B x S μ0 μ' M L K inp out c p → zo (H ((M.bel a w (-1)).2.2) (S, μ')) Q) : zo (zob 7 x (S, μ) (zbn (f_X7_belief x a w 1 (S, μ)) H)) Q := by
  obtain ⟨μ', e, f⟩ := q_belief (e := 1) h.1 ha hw (by decide)
  refine zo_ob h.1.a.C.o (by omega) ?_
  exact zo_bn e (g μ' (h.fv f))
theorem y_own (h : Sd B x S μ0 μ M L K inp out c p) (ha : 0 ≤ a ∧ a < (M.an.length : Int)) (hw : 0 ≤ w ∧ w < (M.wn.length : Int)) (g : ∀ μ', Sd B x S μ0 μ' M L K inp out c p → zo (H (zfi (zq a w) (zqD a w) (M.li a) 0) (S, μ')) Q) : zo (zob 7 x (S, μ) (zbn (f_X7_own x a w (S, μ)) H)) Q := by
  obtain ⟨μ', e, f⟩ := q_own h.1 ha hw
  refine zo_ob h.1.a.C.o (by omega) ?_
  exact zo_bn e (g μ' (h.fv f))
theorem y_sources (h : Sd B x S μ0 μ M L K inp out c p) (ha : 0 ≤ a ∧ a < (M.an.length : Int)) (hw : 0 ≤ w ∧ w < (M.wn.length : Int)) (g : ∀ μ', Sd B x S μ0 μ' M L K inp out c p → zo (H (M.ors a w 0) (S, μ')) Q) : zo (zob 7 x (S, μ) (zbn (f_X7_sources x a w (S, μ)) H)) Q := by
  obtain ⟨μ', e, f⟩ := q_sources h.1 ha hw
  refine zo_ob h.1.a.C.o (by omega) ?_
  exact zo_bn e (g μ' (h.fv f))
theorem y_contradicted (h : Sd B x S μ0 μ M L K inp out c p) (ha : 0 ≤ a ∧ a < (M.an.length : Int)) (hw : 0 ≤ w ∧ w < (M.wn.length : Int)) (g : ∀ μ', Sd B x S μ0 μ' M L K inp out c p → zo (H (M.ors a w 1) (S, μ')) Q) : zo (zob 7 x (S, μ) (zbn (f_X7_contradicted x a w (S, μ)) H)) Q := by
  obtain ⟨μ', e, f⟩ := q_contradicted h.1 ha hw
  refine zo_ob h.1.a.C.o (by omega) ?_
  exact zo_bn e (g μ' (h.fv f))
theorem y_majority (h : Sd B x S μ0 μ M L K inp out c p) (ha : 0 ≤ a ∧ a < (M.an.length : Int)) (hw : 0 ≤ w ∧ w < (M.wn.length : Int)) (g : ∀ μ', Sd B x S μ0 μ' M L K inp out c p → zo (H ((M.agd a w).2) (S, μ')) Q) : zo (zob 7 x (S, μ) (zbn (f_X7_majority x a w (S, μ)) H)) Q := by
  obtain ⟨μ', e, f⟩ := q_majority h.1 ha hw
  refine zo_ob h.1.a.C.o (by omega) ?_
  exact zo_bn e (g μ' (h.fv f))
theorem y_majorityBound0 (h : Sd B x S μ0 μ M L K inp out c p) (ha : 0 ≤ a ∧ a < (M.an.length : Int)) (hw : 0 ≤ w ∧ w < (M.wn.length : Int)) (g : ∀ μ', Sd B x S μ0 μ' M L K inp out c p → zo (H (M.mjb a w 0) (S, μ')) Q) : zo (zob 7 x (S, μ) (zbn (f_X7_majorityBound x a w 0 (S, μ)) H)) Q := by
  obtain ⟨μ', e, f⟩ := q_majorityBound (e := 0) h.1 ha hw (by decide)
  refine zo_ob h.1.a.C.o (by omega) ?_
  exact zo_bn e (g μ' (h.fv f))
theorem y_majorityBound1 (h : Sd B x S μ0 μ M L K inp out c p) (ha : 0 ≤ a ∧ a < (M.an.length : Int)) (hw : 0 ≤ w ∧ w < (M.wn.length : Int)) (g : ∀ μ', Sd B x S μ0 μ' M L K inp out c p → zo (H (M.mjb a w 1) (S, μ')) Q) : zo (zob 7 x (S, μ) (zbn (f_X7_majorityBound x a w 1 (S, μ)) H)) Q := by
  obtain ⟨μ', e, f⟩ := q_majorityBound (e := 1) h.1 ha hw (by decide)
  refine zo_ob h.1.a.C.o (by omega) ?_
  exact zo_bn e (g μ' (h.fv f))
theorem y_best (h : Sd B x S μ0 μ M L K inp out c p) (ha : 0 ≤ a ∧ a < (M.an.length : Int)) (hw : 0 ≤ w ∧ w ≤ 2) (g : ∀ μ', Sd B x S μ0 μ' M L K inp out c p → zo (H (M.bst a w) (S, μ')) Q) : zo (zob 7 x (S, μ) (zbn (f_X7_best x a w (S, μ)) H)) Q := by
  obtain ⟨μ', e, f⟩ := q_best h.1 ha hw
  refine zo_ob h.1.a.C.o (by omega) ?_
  exact zo_bn e (g μ' (h.fv f))
theorem y_rivals (h : Sd B x S μ0 μ M L K inp out c p) (ha : 0 ≤ a ∧ a < (M.an.length : Int)) (g : ∀ μ', Sd B x S μ0 μ' M L K inp out c p → zo (H (M.riv a (M.bst a 0)) (S, μ')) Q) : zo (zob 7 x (S, μ) (zbn (f_X7_rivals x a (S, μ)) H)) Q := by
  obtain ⟨μ', e, f⟩ := q_rivals h.1 ha
  refine zo_ob h.1.a.C.o (by omega) ?_
  exact zo_bn e (g μ' (h.fv f))
theorem y_regret (h : Sd B x S μ0 μ M L K inp out c p) (ha : 0 ≤ a ∧ a < (M.an.length : Int)) (g : ∀ μ', Sd B x S μ0 μ' M L K inp out c p → zo (H (M.rgt a) (S, μ')) Q) : zo (zob 7 x (S, μ) (zbn (f_X7_regret x a (S, μ)) H)) Q := by
  obtain ⟨μ', e, f⟩ := q_regret h.1 ha
  refine zo_ob h.1.a.C.o (by omega) ?_
  exact zo_bn e (g μ' (h.fv f))
theorem y_nextProbe (h : Sd B x S μ0 μ M L K inp out c p) (ha : 0 ≤ a ∧ a < (M.an.length : Int)) (g : ∀ μ', Sd B x S μ0 μ' M L K inp out c p → zo (H (M.nxp a) (S, μ')) Q) : zo (zob 7 x (S, μ) (zbn (f_X7_nextProbe x a (S, μ)) H)) Q := by
  obtain ⟨μ', e, f⟩ := q_nextProbe h.1 ha
  refine zo_ob h.1.a.C.o (by omega) ?_
  exact zo_bn e (g μ' (h.fv f))
theorem y_saved (h : Sd B x S μ0 μ M L K inp out c p) (ha : 0 ≤ a ∧ a < (M.an.length : Int)) (g : ∀ μ', Sd B x S μ0 μ' M L K inp out c p → zo (H (M.svd a) (S, μ')) Q) : zo (zob 7 x (S, μ) (zbn (f_X7_saved x a (S, μ)) H)) Q := by
  obtain ⟨μ', e, f⟩ := q_saved h.1 ha
  refine zo_ob h.1.a.C.o (by omega) ?_
  exact zo_bn e (g μ' (h.fv f))
theorem y_agreeing (h : Sd B x S μ0 μ M L K inp out c p) (ha : 0 ≤ a ∧ a < (M.an.length : Int)) (ho : 0 ≤ o ∧ o < (M.an.length : Int)) (g : ∀ μ', Sd B x S μ0 μ' M L K inp out c p → zo (H (M.agr a o) (S, μ')) Q) : zo (zob 7 x (S, μ) (zbn (f_X7_agreeing x a o (S, μ)) H)) Q := by
  obtain ⟨μ', e, f⟩ := q_agreeing h.1 ha ho
  refine zo_ob h.1.a.C.o (by omega) ?_
  exact zo_bn e (g μ' (h.fv f))
theorem y_common0 (h : Sd B x S μ0 μ M L K inp out c p) (hw : 0 ≤ w ∧ w < (M.wn.length : Int)) (g : ∀ μ', Sd B x S μ0 μ' M L K inp out c p → zo (H (M.cmn w 0) (S, μ')) Q) : zo (zob 7 x (S, μ) (zbn (f_X7_common x w 0 (S, μ)) H)) Q := by
  obtain ⟨μ', e, f⟩ := q_common (e := 0) h.1 hw (by decide)
  refine zo_ob h.1.a.C.o (by omega) ?_
  exact zo_bn e (g μ' (h.fv f))
theorem y_common1 (h : Sd B x S μ0 μ M L K inp out c p) (hw : 0 ≤ w ∧ w < (M.wn.length : Int)) (g : ∀ μ', Sd B x S μ0 μ' M L K inp out c p → zo (H (M.cmn w 1) (S, μ')) Q) : zo (zob 7 x (S, μ) (zbn (f_X7_common x w 1 (S, μ)) H)) Q := by
  obtain ⟨μ', e, f⟩ := q_common (e := 1) h.1 hw (by decide)
  refine zo_ob h.1.a.C.o (by omega) ?_
  exact zo_bn e (g μ' (h.fv f))
theorem l_drift (h : Wd B x S μ M L K inp out c p) (hq : (M.li a)[k]? = some q) (ha : 0 ≤ a ∧ a < (M.an.length : Int)) : ∃ μ', f_L_drift x a (k : Int) (S, μ) = some (.inl (M.dr q), (S, μ')) ∧ FV (x + 5) μ μ' := by
  have W := h.w.M
  have h0 := h.sd
  refine zo_xq ?_
  refine j_L_drift ?_
  refine y_property3 h0 (fun μ1 h1 => ?_)
  refine y_property2 h1 (fun μ2 h2 => ?_)
  refine y_report4 h2 hq ha (fun μ3 h3 => ?_)
  exact zo_rt ⟨μ3, rfl, h3.2⟩
theorem y_drift (h : Sd B x S μ0 μ M L K inp out c p) (hq : (M.li a)[k]? = some q) (ha : 0 ≤ a ∧ a < (M.an.length : Int)) (g : ∀ μ', Sd B x S μ0 μ' M L K inp out c p → zo (H (M.dr q) (S, μ')) Q) : zo (zbn (f_L_drift x a (k : Int) (S, μ)) H) Q := by
  obtain ⟨μ', e, f⟩ := l_drift h.1 hq ha
  exact zo_bn e (g μ' (h.fv f))
theorem l_low (h : Wd B x S μ M L K inp out c p) (hq : (M.li a)[k]? = some q) (ha : 0 ≤ a ∧ a < (M.an.length : Int)) : ∃ μ', f_L_low x a (k : Int) o (S, μ) = some (.inl (zlo q o), (S, μ')) ∧ FV (x + 5) μ μ' := by
  have W := h.w.M
  have h0 := h.sd
  refine zo_xq ?_
  refine j_L_low ?_
  refine y_report5 h0 hq ha (fun μ3 h3 => ?_)
  exact zo_rt ⟨μ3, rfl, h3.2⟩
theorem y_low (h : Sd B x S μ0 μ M L K inp out c p) (hq : (M.li a)[k]? = some q) (ha : 0 ≤ a ∧ a < (M.an.length : Int)) (g : ∀ μ', Sd B x S μ0 μ' M L K inp out c p → zo (H (zlo q o) (S, μ')) Q) : zo (zbn (f_L_low x a (k : Int) o (S, μ)) H) Q := by
  obtain ⟨μ', e, f⟩ := l_low h.1 hq ha
  exact zo_bn e (g μ' (h.fv f))
theorem l_top (h : Wd B x S μ M L K inp out c p) (hq : (M.li a)[k]? = some q) (ha : 0 ≤ a ∧ a < (M.an.length : Int)) : ∃ μ', f_L_top x a (k : Int) o (S, μ) = some (.inl (zhi q o), (S, μ')) ∧ FV (x + 5) μ μ' := by
  have W := h.w.M
  have h0 := h.sd
  refine zo_xq ?_
  refine j_L_top ?_
  refine y_report6 h0 hq ha (fun μ3 h3 => ?_)
  exact zo_rt ⟨μ3, rfl, h3.2⟩
theorem y_top (h : Sd B x S μ0 μ M L K inp out c p) (hq : (M.li a)[k]? = some q) (ha : 0 ≤ a ∧ a < (M.an.length : Int)) (g : ∀ μ', Sd B x S μ0 μ' M L K inp out c p → zo (H (zhi q o) (S, μ')) Q) : zo (zbn (f_L_top x a (k : Int) o (S, μ)) H) Q := by
  obtain ⟨μ', e, f⟩ := l_top h.1 hq ha
  exact zo_bn e (g μ' (h.fv f))
theorem li_ok (W : WF B M) (hq : (M.li a)[k]? = some q) : ROk (M.an.length : Int) (M.wn.length : Int) M.tm a q := W.li a q (List.mem_of_getElem? hq)
theorem rk_e (W : WF B M) (hq : ROk (M.an.length : Int) (M.wn.length : Int) M.tm a q) : M.rk a q = (10 - M.tv a q) * 100 + q 2 * 10 + q 0 := by
  have h1 := hq.o
  have h2 := hq.h
  have h3 := W.al
  have h4 : -1 ≤ M.tv a q ∧ M.tv a q ≤ 11 := by
    unfold zD.tv
    split
    · decide
    · have := W.Tr a (q 1)
      omega
  have e0 : M.rk a q = w32 ((w32 ((w32 ((w32 (10 - M.tv a q)) * 100)) + (w32 (q 2 * 10)))) + q 0) := rfl
  rw [e0, w32_e (z := 10 - M.tv a q) (by omega), w32_e (z := (10 - M.tv a q) * 100) (by omega), w32_e (z := q 2 * 10) (by omega), w32_e (z := (10 - M.tv a q) * 100 + q 2 * 10) (by omega), w32_e (by omega)]
theorem tv_own (hq : ROk (M.an.length : Int) (M.wn.length : Int) M.tm a q) (h : q 0 = a) : M.tv a q = 11 := if_pos (hq.e1.mpr h)
theorem tv_oth (hq : ROk (M.an.length : Int) (M.wn.length : Int) M.tm a q) (h : ¬ q 0 = a) : M.tv a q = M.T a (q 1) := if_neg (fun z => h (hq.e1.mp z))
theorem l_isOut (h : Wd B x S μ M L K inp out c p) (hq : (M.li a)[k]? = some q) (ha : 0 ≤ a ∧ a < (M.an.length : Int)) : ∃ μ', f_L_isOut x a (k : Int) (S, μ) = some (.inl (zbl (M.out a q)), (S, μ')) ∧ FV (x + 5) μ μ' := by
  have W := h.w.M
  have h0 := h.sd
  refine zo_xq ?_
  refine j_L_isOut ?_
  have hr := li_ok W hq
  have hT := W.Tr a (q 1)
  have h5 := W.r2
  refine y_report0 h0 hq ha (fun μ1 h1 => ?_)
  refine zo_ite (fun h2 => ?_) (fun h2 => ?_)
  · refine zo_rt ⟨μ1, ?_, h1.2⟩
    have e : ¬ M.out a q := by
      unfold zD.out
      rw [tv_own hr h2]
      omega
    rw [zbl_n e]
  · refine y_report1 h1 hq ha (fun μ2 h2 => ?_)
    refine y_trust h2 ha hr.v (fun μ3 h3 => ?_)
    have eo : M.out a q ↔ (M.T a (q 1) = -1 ∨ M.T a (q 1) < M.ru 2) := by
      unfold zD.out
      rw [tv_oth hr (by assumption)]
    refine zo_ite (fun h4 => ?_) (fun h4 => ?_)
    · refine zo_rt ⟨μ3, ?_, h3.2⟩
      rw [zbl_p (eo.mpr (by omega))]
    · refine y_report1 h3 hq ha (fun μ4 h4 => ?_)
      refine y_trust h4 ha hr.v (fun μ5 h5 => ?_)
      refine y_property5 h5 (fun μ6 h6 => ?_)
      refine zo_ite (fun h7 => ?_) (fun h7 => ?_)
      · refine zo_rt ⟨μ6, ?_, h6.2⟩
        rw [zbl_p (eo.mpr (by omega))]
      · refine zo_rt ⟨μ6, ?_, h6.2⟩
        rw [zbl_n (fun z => by have := eo.mp z; omega)]
theorem y_isOut (h : Sd B x S μ0 μ M L K inp out c p) (hq : (M.li a)[k]? = some q) (ha : 0 ≤ a ∧ a < (M.an.length : Int)) (g : ∀ μ', Sd B x S μ0 μ' M L K inp out c p → zo (H (zbl (M.out a q)) (S, μ')) Q) : zo (zbn (f_L_isOut x a (k : Int) (S, μ)) H) Q := by
  obtain ⟨μ', e, f⟩ := l_isOut h.1 hq ha
  exact zo_bn e (g μ' (h.fv f))
theorem l_by (h : Wd B x S μ M L K inp out c p) (hq : (M.li a)[k]? = some q) (ha : 0 ≤ a ∧ a < (M.an.length : Int)) : ∃ μ', f_L_by x a (k : Int) (S, μ) = some (.inl (M.sp a q), (S, μ')) ∧ FV (x + 5) μ μ' := by
  have W := h.w.M
  have h0 := h.sd
  refine zo_xq ?_
  refine j_L_by ?_
  have hr := li_ok W hq
  refine y_drift h0 hq ha (fun μ1 h1 => ?_)
  refine y_report0 h1 hq ha (fun μ2 h2 => ?_)
  refine zo_ite (fun h3 => ?_) (fun h3 => ?_)
  · refine zo_rt ⟨μ2, ?_, h2.2⟩
    have e : M.sp a q = M.dr q := if_pos (hr.e1.mpr h3)
    have e2 : w32 (M.dr q + 0) = M.dr q := by
      rw [Int.add_zero]
      exact w32_e (w32_rng _)
    rw [e, e2]
  · refine y_property4 h2 (fun μ3 h3 => ?_)
    refine y_report1 h3 hq ha (fun μ4 h4 => ?_)
    refine y_trust h4 ha hr.v (fun μ5 h5 => ?_)
    refine y_report2 h5 hq ha (fun μ6 h6 => ?_)
    refine zo_rt ⟨μ6, ?_, h6.2⟩
    have e : M.sp a q = w32 (M.dr q + (w32 ((w32 (M.ru 1 * (w32 (10 - M.T a (q 1))))) * q 2))) := if_neg (fun z => (by assumption : ¬ q 0 = a) (hr.e1.mp z))
    rw [e]
theorem y_by (h : Sd B x S μ0 μ M L K inp out c p) (hq : (M.li a)[k]? = some q) (ha : 0 ≤ a ∧ a < (M.an.length : Int)) (g : ∀ μ', Sd B x S μ0 μ' M L K inp out c p → zo (H (M.sp a q) (S, μ')) Q) : zo (zbn (f_L_by x a (k : Int) (S, μ)) H) Q := by
  obtain ⟨μ', e, f⟩ := l_by h.1 hq ha
  exact zo_bn e (g μ' (h.fv f))
theorem l_width (h : Wd B x S μ M L K inp out c p) (ha : 0 ≤ a ∧ a < (M.an.length : Int)) (hw : 0 ≤ w ∧ w < (M.wn.length : Int)) : ∃ μ', f_L_width x a w (S, μ) = some (.inl (M.wid a w (-1)), (S, μ')) ∧ FV (x + 5) μ μ' := by
  have W := h.w.M
  have h0 := h.sd
  refine zo_xq ?_
  refine j_L_width ?_
  refine y_belief1 h0 ha hw (fun μ1 h1 => ?_)
  refine y_belief0 h1 ha hw (fun μ2 h2 => ?_)
  exact zo_rt ⟨μ2, rfl, h2.2⟩
theorem y_width (h : Sd B x S μ0 μ M L K inp out c p) (ha : 0 ≤ a ∧ a < (M.an.length : Int)) (hw : 0 ≤ w ∧ w < (M.wn.length : Int)) (g : ∀ μ', Sd B x S μ0 μ' M L K inp out c p → zo (H (M.wid a w (-1)) (S, μ')) Q) : zo (zbn (f_L_width x a w (S, μ)) H) Q := by
  obtain ⟨μ', e, f⟩ := l_width h.1 ha hw
  exact zo_bn e (g μ' (h.fv f))
theorem l_ahead (h : Wd B x S μ M L K inp out c p) (hq : (M.li a)[k]? = some q1) (hp : (M.li a)[i]? = some q2) (ha : 0 ≤ a ∧ a < (M.an.length : Int)) (hne : ¬ q1 0 = q2 0) : ∃ μ', f_L_ahead x a (k : Int) (i : Int) (S, μ) = some (.inl (zbl (M.rk a q1 < M.rk a q2)), (S, μ')) ∧ FV (x + 5) μ μ' := by
  have W := h.w.M
  have h0 := h.sd
  refine zo_xq ?_
  refine j_L_ahead ?_
  have r1 := li_ok W hq
  have r2 := li_ok W hp
  have e1 := rk_e W r1
  have e2 := rk_e W r2
  have b1 := r1.h
  have b2 := r2.h
  have b3 := r1.o
  have b4 := r2.o
  have b5 := W.al
  have b6 := W.Tr a (q1 1)
  have b7 := W.Tr a (q2 1)
  have fin : ∀ {v : Int} {μ3 : zM}, Sd B x S μ μ3 M L K inp out c p → v = zbl (M.rk a q1 < M.rk a q2) → zo (some ((Sum.inl v : zR), (S, μ3))) (fun r => ∃ μ', r = (.inl (zbl (M.rk a q1 < M.rk a q2)), (S, μ')) ∧ FV (x + 5) μ μ') := fun h3 e => zo_rt ⟨_, by rw [e], h3.2⟩
  refine y_report0 h0 hq ha (fun μ1 h1 => ?_)
  refine zo_ite (fun c1 => ?_) (fun c1 => ?_)
  · refine j_L_ahead_16 ?_
    refine zo_neg (by decide) ?_
    refine zo_pos (Or.inr rfl) ?_
    refine fin h1 (zbl_p ?_).symm
    rw [tv_own r1 c1] at e1
    rw [tv_oth r2 (fun z => hne (c1.trans z.symm))] at e2
    omega
  · rw [tv_oth r1 c1] at e1
    refine j_L_ahead_16 ?_
    refine zo_pos rfl ?_
    refine y_report0 h1 hp ha (fun μ2 h2 => ?_)
    refine zo_ite (fun c2 => ?_) (fun c2 => ?_)
    · refine zo_pos (Or.inl rfl) ?_
      refine fin h2 (zbl_n ?_).symm
      rw [tv_own r2 c2] at e2
      omega
    · rw [tv_oth r2 c2] at e2
      refine y_report1 h2 hq ha (fun μ3 h3 => ?_)
      refine y_trust h3 ha r1.v (fun μ4 h4 => ?_)
      refine y_report1 h4 hp ha (fun μ5 h5 => ?_)
      refine y_trust h5 ha r2.v (fun μ6 h6 => ?_)
      refine zo_ite (fun c3 => ?_) (fun c3 => ?_)
      · refine y_report2 h6 hq ha (fun μ7 h7 => ?_)
        refine y_report2 h7 hp ha (fun μ8 h8 => ?_)
        rw [w32_e (z := q1 2 - q2 2) (by omega)]
        refine zo_ite (fun c4 => ?_) (fun c4 => ?_)
        · refine y_report0 h8 hq ha (fun μ9 h9 => ?_)
          refine y_report0 h9 hp ha (fun μA hA => ?_)
          refine zo_ite (fun c5 => ?_) (fun c5 => ?_)
          · exact fin hA (zbl_p (by omega)).symm
          · exact fin hA (zbl_n (by omega)).symm
        · refine zo_ite (fun c5 => ?_) (fun c5 => ?_)
          · exact fin h8 (zbl_p (by omega)).symm
          · exact fin h8 (zbl_n (by omega)).symm
      · refine zo_ite (fun c5 => ?_) (fun c5 => ?_)
        · exact fin h6 (zbl_p (by omega)).symm
        · exact fin h6 (zbl_n (by omega)).symm
theorem y_ahead (h : Sd B x S μ0 μ M L K inp out c p) (hq : (M.li a)[k]? = some q1) (hp : (M.li a)[i]? = some q2) (ha : 0 ≤ a ∧ a < (M.an.length : Int)) (hne : ¬ q1 0 = q2 0) (g : ∀ μ', Sd B x S μ0 μ' M L K inp out c p → zo (H (zbl (M.rk a q1 < M.rk a q2)) (S, μ')) Q) : zo (zbn (f_L_ahead x a (k : Int) (i : Int) (S, μ)) H) Q := by
  obtain ⟨μ', e, f⟩ := l_ahead h.1 hq hp ha hne
  exact zo_bn e (g μ' (h.fv f))
end R0
