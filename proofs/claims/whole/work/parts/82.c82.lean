/-! C 82: the model reads a text -/
def zncf : Bool → Int
  | true => 0
  | false => 1
def zng8 : Bool → Int
  | true => 9
  | false => 15
/-- a call's value and state, then the rest -/
theorem zo_bzz {A : zFn} {F : Int → zS → zFn} {Q : zR × zS → Prop} (h : zo A (fun r => ∃ v τ, r = (.inl v, τ) ∧ zo (F v τ) Q)) : zo (zbn A F) Q := by
  obtain ⟨r, e, v, τ, hr, hF⟩ := h
  exact zo_bn (by rw [e, hr]) hF
def GD (S : zG) (μ : zM) (m : Int) (l : List Int) (t : zTk) (X : zD) : Prop := (PM S μ m l) ∧ (GM μ m l t) ∧ (D8 (μ (m + 2)) X)
theorem GD.mk {S : zG} {μ : zM} {m : Int} {l : List Int} {t : zTk} {X : zD} (h : (PM S μ m l) ∧ (GM μ m l t) ∧ (D8 (μ (m + 2)) X)) : GD S μ m l t X := h
theorem GD.P {S : zG} {μ : zM} {m : Int} {l : List Int} {t : zTk} {X : zD} (h : GD S μ m l t X) : PM S μ m l := h.1
theorem GD.G {S : zG} {μ : zM} {m : Int} {l : List Int} {t : zTk} {X : zD} (h : GD S μ m l t X) : GM μ m l t := h.2.1
theorem GD.D {S : zG} {μ : zM} {m : Int} {l : List Int} {t : zTk} {X : zD} (h : GD S μ m l t X) : D8 (μ (m + 2)) X := h.2.2
def FPZ (m : Int) (μ μ' : zM) : Prop := (∀ y, y ≠ m → y ≠ m + 2 → μ' y = μ y) ∧ (∀ k, k ≤ 12 ∨ 19 ≤ k → μ' m k = μ m k)
theorem FPZ.mk {m : Int} {μ μ' : zM} (h : (∀ y, y ≠ m → y ≠ m + 2 → μ' y = μ y) ∧ (∀ k, k ≤ 12 ∨ 19 ≤ k → μ' m k = μ m k)) : FPZ m μ μ' := h
theorem FPZ.e {m : Int} {μ μ' : zM} (h : FPZ m μ μ') : ∀ y, y ≠ m → y ≠ m + 2 → μ' y = μ y := h.1
theorem FPZ.f {m : Int} {μ μ' : zM} (h : FPZ m μ μ') : ∀ k, k ≤ 12 ∨ 19 ≤ k → μ' m k = μ m k := h.2
def OM (S : zG) (m : Int) (l : List Int) (μ' : zM) : zPr → Prop
  | .inl e => EM μ' m e
  | .inr z => GD S μ' m l z.1 z.2
/-- before the semicolon -/
def QM (S : zG) (m : Int) (l : List Int) (μ' : zM) (p : zPr) : Prop := (∃ e, p = .inl e ∧ EM μ' m e) ∨ (∃ t X, p = pEnd l X t ∧ TOk l t ∧ GD S μ' m l t X)
section C82
variable {S S' : zG} {μ μ' μ1 μ2 : zM} {m B : Int} {l : List Int} {t t' : zTk} {X X' : zD} {e : zEr} {Q : zR × zS → Prop}
theorem FPZ.rf : FPZ m μ μ := FPZ.mk ⟨fun _ _ _ => rfl, fun _ _ => rfl⟩
theorem FPZ.tr (h : FPZ m μ μ1) (k : FPZ m μ1 μ2) : FPZ m μ μ2 := FPZ.mk ⟨fun y h1 h2 => (k.e y h1 h2).trans (h.e y h1 h2), fun i h1 => (k.f i h1).trans (h.f i h1)⟩
theorem FP8.z (h : FP8 m μ μ') : FPZ m μ μ' := FPZ.mk ⟨fun y h1 _ => h.e y h1, h.f⟩
theorem FA.z2 (h : FA (m + 2) μ μ') : FPZ m μ μ' := FPZ.mk ⟨fun y _ h2 => h y h2, fun k _ => by rw [h m (by omega)]⟩
theorem PM.upZ (h : PM S μ m l) (f : FPZ m μ μ') : PM S μ' m l := PM.mk ⟨h.H, by rw [f.f _ (by decide)]; exact h.T, fun k y hk => by rw [f.e _ (by omega) (by omega)]; exact h.v k y hk, h.g, h.n⟩
theorem GM.a (h : GM μ m l t) (f : FA (m + 2) μ μ') : GM μ' m l t := by
  have e : μ' m = μ m := f m (by omega)
  unfold GM at *
  rw [e]
  exact ⟨TM.mk ⟨by rw [e]; exact h.1.k, by rw [e]; exact h.1.s, by rw [e]; exact h.1.n, fun z => by rw [e]; exact h.1.v2 z, fun z y hy => by rw [e]; exact h.1.v3 z y hy⟩, h.2⟩
theorem EM.a (h : EM μ m e) (f : FA (m + 2) μ μ') : EM μ' m e := by
  unfold EM at *
  rw [f m (by omega)]
  exact h
theorem GD.desk (h : GD S μ m l t X) (f : FA (m + 2) μ μ') (hD : D8 (μ' (m + 2)) X') : GD S μ' m l t X' := GD.mk ⟨h.P.upZ f.z2, h.G.a f, hD⟩
theorem GD.rd (h : GD S μ m l t X) (f : FP8 m μ μ') (hG : GM μ' m l t') : GD S μ' m l t' X := GD.mk ⟨h.P.up8 f, hG, by rw [f.e _ (by omega)]; exact h.D⟩
theorem GD.go (h : GD S μ m l t X) (ht : TOk l t) : ∃ μ', f_X8_goOn m (S, μ) = some (.inl 0, (S, μ')) ∧ GD S μ' m l (ztk l t.2.2) X ∧ FP8 m μ μ' := by
  obtain ⟨μ1, e1, h1, f1⟩ := b_goOn h.P ht h.G
  exact ⟨μ1, e1, h.rd f1 h1, f1⟩
theorem GD.er {c : Int} (h : GD S μ m l t X) (hc : ¬ c = 0) : ∃ μ', f_X8_errs m c (S, μ) = some (.inl 0, (S, μ')) ∧ EM μ' m (c, t.2.1) ∧ PM S μ' m l ∧ FP8 m μ μ' := by
  obtain ⟨μ1, e1, h1, f1⟩ := b_errs h.P h.G hc
  exact ⟨μ1, e1, h1, h.P.up8 f1, f1⟩
theorem D8.nmC {g : Int → Int} (h : D8 g X) : ∀ ag, g (zncf ag) = ((X.nms ag).length : Int)
  | true => h.an0
  | false => h.wn0
theorem D8.nmV {g : Int → Int} (h : D8 g X) : ∀ ag, ∀ (k : Nat) (y : List Int), (X.nms ag)[k]? = some y → g (zng8 ag + (k : Int)) = zcode 27 y
  | true => h.an
  | false => h.wn
theorem D8.nmN {g : Int → Int} (h : D8 g X) : ∀ ag, (X.nms ag).length ≤ 6
  | true => h.al
  | false => h.wl
theorem D8.add {g g' : Int → Int} {nm : List Int} : ∀ ag, D8 g X → (X.nms ag).length < 6 → (∀ j, g' j = if j = zncf ag then ((X.nms ag).length : Int) + 1 else if j = zng8 ag + ((X.nms ag).length : Int) then zcode 27 nm else g j) → D8 g' (X.ads nm ag)
  | true, h, hl, hg => by
    have hl' : X.an.length < 6 := hl
    have hg' : ∀ j, g' j = if j = 0 then (X.an.length : Int) + 1 else if j = 9 + (X.an.length : Int) then zcode 27 nm else g j := hg
    refine h.setAn (by rw [List.length_append]; exact hl') (by rw [hg', if_pos rfl, List.length_append]; rfl) ?_ ?_
    · intro k y hk
      rw [hg', if_neg (by omega)]
      rcases snoc_get hk with ⟨h1, h2⟩ | ⟨h1, h2⟩
      · rw [if_neg (by omega)]; exact h.an k y h2
      · rw [if_pos (by omega), h2]
    · intro j h1 h2
      rw [hg', if_neg h1, if_neg (by omega)]
  | false, h, hl, hg => by
    have hl' : X.wn.length < 6 := hl
    have hg' : ∀ j, g' j = if j = 1 then (X.wn.length : Int) + 1 else if j = 15 + (X.wn.length : Int) then zcode 27 nm else g j := hg
    refine h.setWn (by rw [List.length_append]; exact hl') (by rw [hg', if_pos rfl, List.length_append]; rfl) ?_ ?_
    · intro k y hk
      rw [hg', if_neg (by omega)]
      rcases snoc_get hk with ⟨h1, h2⟩ | ⟨h1, h2⟩
      · rw [if_neg (by omega)]; exact h.wn k y h2
      · rw [if_pos (by omega), h2]
    · intro j h1 h2
      rw [hg', if_neg h1, if_neg (by omega)]
theorem zn_rng (ag : Bool) : (0 ≤ zncf ag ∧ zncf ag ≤ 1) ∧ (9 ≤ zng8 ag ∧ zng8 ag ≤ 15) := by cases ag <;> decide
theorem good0 (h : PM S μ m l) (hE : EM μ m e) : f_X8_good m (S, μ) = some (.inl 0, (S, μ)) := by
  rw [b_good h, zbl_n (by rw [hE.1]; exact hE.2.2)]
theorem good1 (h : PM S μ m l) (hG : GM μ m l t) : f_X8_good m (S, μ) = some (.inl 1, (S, μ)) := by
  rw [b_good h, zbl_p hG.2.1]
/-- a name that is told -/
theorem b_told_ok (ag : Bool) {i : Int} (h : GD S μ m l t X) (ht : TOk l t) (W : WF B X) (hp : pTold l (X.nms ag) t = .inr i) : f_X8_told m (zncf ag) (zng8 ag) (S, μ) = some (.inl i, (S, μ)) := by
  obtain ⟨hN, hi, hi0, hi1⟩ := told_inv hp
  have hz := zn_rng ag
  have hok := zisn_ok (isN_ok ht h.P.g hN)
  apply zo_un
  refine j_X8_told ?_
  refine zo_ob h.P.H.o (by omega) ?_
  refine zo_bn (b_nameHere_ok h.P ht h.G hN) ?_
  refine zo_ob h.P.H.o (by omega) ?_
  refine zo_bn (good1 h.P h.G) ?_
  refine zo_neg (by decide) ?_
  refine zo_gr h.P.H.o h.P.H.r3 (by omega) (by omega) ?_
  refine zo_ld h.P.H.a2 (by omega) (h.D.nmC ag) ?_
  refine zo_ob h.P.H.o (by omega) ?_
  refine zo_bn (b_withName h.P.H (by omega) (h.D.nmV ag) (h.D.nmN ag) (W.nm ag) hok) ?_
  rw [← hi]
  refine j_X8_told_28 ?_
  refine zo_neg (by omega) ?_
  refine j_X8_told_41 ?_
  refine zo_ob h.P.H.o (by omega) ?_
  refine zo_bn (good1 h.P h.G) ?_
  exact zo_neg (by decide) (zo_rt rfl)
theorem b_told28E {s0 : Int} (h : PM S μ m l) (hE : EM μ m e) : zo (f_X8_told_28 m s0 (S, μ)) (fun r => r = (.inl 0, (S, μ))) := by
  have t41 : ∀ s0, zo (f_X8_told_41 m s0 (S, μ)) (fun r => r = (.inl 0, (S, μ))) := by
    intro s0
    refine j_X8_told_41 ?_
    refine zo_ob h.H.o (by omega) ?_
    refine zo_bn (good0 h hE) ?_
    exact zo_pos rfl (zo_rt rfl)
  refine j_X8_told_28 ?_
  refine zo_ite (fun z => ?_) (fun z => t41 _)
  refine zo_ob h.H.o (by omega) ?_
  refine zo_bn (b_errsE h hE) ?_
  exact t41 _
theorem b_told_no (ag : Bool) (h : GD S μ m l t X) (ht : TOk l t) (W : WF B X) (hp : pTold l (X.nms ag) t = .inl e) : ∃ μ', f_X8_told m (zncf ag) (zng8 ag) (S, μ) = some (.inl 0, (S, μ')) ∧ (EM μ' m e ∧ FP8 m μ μ') := by
  have hz := zn_rng ag
  apply zo_ux
  refine j_X8_told ?_
  by_cases hN : zisN l t
  · have hok := zisn_ok (isN_ok ht h.P.g hN)
    have ep : (if zni (znm (zsg l t)) (X.nms ag) 0 = -1 then (.inl (3, t.2.1) : zEr ⊕ Int) else .inr (zni (znm (zsg l t)) (X.nms ag) 0)) = .inl e := (if_pos hN).symm.trans hp
    have hn : zni (znm (zsg l t)) (X.nms ag) 0 = -1 := by
      refine Classical.byContradiction (fun z => ?_)
      rw [if_neg z] at ep
      simp at ep
    rw [if_pos hn] at ep
    have ee : e = (3, t.2.1) := (Sum.inl.inj ep).symm
    refine zo_ob h.P.H.o (by omega) ?_
    refine zo_bn (b_nameHere_ok h.P ht h.G hN) ?_
    refine zo_ob h.P.H.o (by omega) ?_
    refine zo_bn (good1 h.P h.G) ?_
    refine zo_neg (by decide) ?_
    refine zo_gr h.P.H.o h.P.H.r3 (by omega) (by omega) ?_
    refine zo_ld h.P.H.a2 (by omega) (h.D.nmC ag) ?_
    refine zo_ob h.P.H.o (by omega) ?_
    refine zo_bn (b_withName h.P.H (by omega) (h.D.nmV ag) (h.D.nmN ag) (W.nm ag) hok) ?_
    rw [hn]
    obtain ⟨μ1, e1, h1, q1, f1⟩ := h.er (c := 3) (by decide)
    refine j_X8_told_28 ?_
    refine zo_pos rfl ?_
    refine zo_ob h.P.H.o (by omega) ?_
    refine zo_bn e1 ?_
    refine j_X8_told_41 ?_
    refine zo_ob h.P.H.o (by omega) ?_
    refine zo_bn (good0 q1 h1) ?_
    exact zo_pos rfl (zo_rt ⟨μ1, rfl, by rw [ee]; exact h1, f1⟩)
  · have ep : (.inl (1, t.2.1) : zEr ⊕ Int) = .inl e := (if_neg hN).symm.trans hp
    have ee : e = (1, t.2.1) := (Sum.inl.inj ep).symm
    obtain ⟨μ1, e1, h1, f1⟩ := b_nameHere_no h.P ht h.G hN
    have q1 := h.P.up8 f1
    refine zo_ob h.P.H.o (by omega) ?_
    refine zo_bn e1 ?_
    refine zo_ob h.P.H.o (by omega) ?_
    refine zo_bn (good0 q1 h1) ?_
    refine zo_pos rfl ?_
    refine zo_mono (b_told28E q1 h1) ?_
    rintro r rfl
    exact ⟨μ1, rfl, by rw [ee]; exact h1, f1⟩
theorem b_toldE {c0 g0 : Int} (h : PM S μ m l) (hE : EM μ m e) : f_X8_told m c0 g0 (S, μ) = some (.inl 0, (S, μ)) := by
  apply zo_un
  refine j_X8_told ?_
  refine zo_ob h.H.o (by omega) ?_
  refine zo_bn (b_nameHereE h hE) ?_
  refine zo_ob h.H.o (by omega) ?_
  refine zo_bn (good0 h hE) ?_
  refine zo_pos rfl ?_
  exact b_told28E h hE
/-- a new name -/
theorem b_new53E {c0 g0 v : Int} (h : PM S μ m l) (hE : EM μ m e) : zo (f_X8_parseNew_53 m c0 g0 v (S, μ)) (fun r => r = (.inl 0, (S, μ))) := by
  refine j_X8_parseNew_53 ?_
  refine zo_ob h.H.o (by omega) ?_
  refine zo_bn (good0 h hE) ?_
  exact zo_pos rfl (zo_rt rfl)
theorem b_parseNew (ag : Bool) (h : GD S μ m l t X) (ht : TOk l t) (W : WF B X) : zo (f_X8_parseNew m (zncf ag) (zng8 ag) (S, μ)) (fun r => ∃ v μ', r = (.inl v, (S, μ')) ∧ (QM S m l μ' (pNew l ag X t) ∧ FPZ m μ μ')) := by
  have hz := zn_rng ag
  have h6 := h.D.nmN ag
  have k1 := tk_ok (l := l) ht.el
  have k2 := tk_ok (l := l) k1.1.el
  refine j_X8_parseNew ?_
  refine zo_gr h.P.H.o h.P.H.r3 (by omega) (by omega) ?_
  refine zo_ld h.P.H.a2 (by omega) (h.D.nmC ag) ?_
  by_cases hl : (X.nms ag).length = 6
  · have ep : pNew l ag X t = .inl (4, t.2.1) := if_pos hl
    obtain ⟨μ1, e1, h1, q1, f1⟩ := h.er (c := 4) (by decide)
    refine zo_pos (by omega) ?_
    refine zo_ob h.P.H.o (by omega) ?_
    refine zo_bn e1 ?_
    refine j_X8_parseNew_16 ?_
    refine zo_ob h.P.H.o (by omega) ?_
    refine zo_bn (b_goOnE q1 h1) ?_
    refine zo_ob h.P.H.o (by omega) ?_
    refine zo_bn (b_nameHereE q1 h1) ?_
    refine zo_ob h.P.H.o (by omega) ?_
    refine zo_bn (good0 q1 h1) ?_
    refine zo_pos rfl ?_
    refine zo_mono (b_new53E q1 h1) ?_
    rintro r rfl
    exact ⟨0, μ1, rfl, Or.inl ⟨_, ep, h1⟩, f1.z⟩
  · refine zo_neg (by omega) ?_
    refine j_X8_parseNew_16 ?_
    obtain ⟨μ1, e1, g1, f1⟩ := h.go ht
    refine zo_ob h.P.H.o (by omega) ?_
    refine zo_bn e1 ?_
    by_cases hN : zisN l (ztk l t.2.2)
    · have hok := zisn_ok (isN_ok k1.1 h.P.g hN)
      refine zo_ob h.P.H.o (by omega) ?_
      refine zo_bn (b_nameHere_ok g1.P k1.1 g1.G hN) ?_
      refine zo_ob h.P.H.o (by omega) ?_
      refine zo_bn (good1 g1.P g1.G) ?_
      refine zo_neg (by decide) ?_
      refine zo_gr g1.P.H.o g1.P.H.r3 (by omega) (by omega) ?_
      refine zo_ld g1.P.H.a2 (by omega) (g1.D.nmC ag) ?_
      refine zo_ob h.P.H.o (by omega) ?_
      refine zo_bn (b_withName g1.P.H (by omega) (g1.D.nmV ag) (g1.D.nmN ag) (W.nm ag) hok) ?_
      by_cases y : zni (znm (zsg l (ztk l t.2.2))) (X.nms ag) 0 = -1
      · have ep : pNew l ag X t = pEnd l (X.ads (znm (zsg l (ztk l t.2.2))) ag) (ztk l (ztk l t.2.2).2.2) := (if_neg hl).trans ((if_pos hN).trans (if_pos y))
        refine zo_pos y ?_
        refine j_X8_parseNew_53 ?_
        refine zo_ob h.P.H.o (by omega) ?_
        refine zo_bn (good1 g1.P g1.G) ?_
        refine zo_neg (by decide) ?_
        refine zo_gr g1.P.H.o g1.P.H.r3 (by omega) (by omega) ?_
        refine zo_gr g1.P.H.o g1.P.H.r3 (by omega) (by omega) ?_
        refine zo_ld g1.P.H.a2 (by omega) (g1.D.nmC ag) ?_
        rw [w32_e (show -2147483648 ≤ zng8 ag + ((X.nms ag).length : Int) ∧ zng8 ag + ((X.nms ag).length : Int) < 2147483648 by omega)]
        refine zo_si g1.P.H.a2 (by omega) ?_
        refine zo_gr g1.P.H.o g1.P.H.r3 (by omega) (by omega) ?_
        refine zo_ld g1.P.H.a2 (by omega) (v := ((X.nms ag).length : Int)) (by rw [zup_j (by omega)]; exact g1.D.nmC ag) ?_
        rw [w32_e (show -2147483648 ≤ ((X.nms ag).length : Int) + 1 ∧ ((X.nms ag).length : Int) + 1 < 2147483648 by omega)]
        refine zo_si g1.P.H.a2 (by omega) ?_
        have fA : FA (m + 2) μ1 (zup (zup μ1 (m + 2) (zng8 ag + ((X.nms ag).length : Int)) (zcode 27 (znm (zsg l (ztk l t.2.2))))) (m + 2) (zncf ag) (((X.nms ag).length : Int) + 1)) := FA.tr FA.up FA.up
        have g2 := g1.desk (X' := X.ads (znm (zsg l (ztk l t.2.2))) ag) fA (D8.add ag g1.D (by omega) (fun j => by
          by_cases ej : j = zncf ag
          · rw [if_pos ej, ej, zup_at]
          · rw [if_neg ej, zup_j ej]
            by_cases ej2 : j = zng8 ag + ((X.nms ag).length : Int)
            · rw [if_pos ej2, ej2, zup_at]
            · rw [if_neg ej2, zup_j ej2]))
        obtain ⟨μ3, e3, g3, f3⟩ := g2.go k1.1
        refine zo_ob h.P.H.o (by omega) ?_
        refine zo_bn e3 ?_
        exact zo_rt ⟨0, μ3, rfl, Or.inr ⟨_, _, ep, k2.1, g3⟩, FPZ.tr (FPZ.tr f1.z fA.z2) f3.z⟩
      · have ep : pNew l ag X t = .inl (3, (ztk l t.2.2).2.1) := (if_neg hl).trans ((if_pos hN).trans (if_neg y))
        obtain ⟨μ2, e2, h2, q2, f2⟩ := g1.er (c := 3) (by decide)
        refine zo_neg y ?_
        refine zo_ob h.P.H.o (by omega) ?_
        refine zo_bn e2 ?_
        refine zo_mono (b_new53E q2 h2) ?_
        rintro r rfl
        exact ⟨0, μ2, rfl, Or.inl ⟨_, ep, h2⟩, (FP8.tr f1 f2).z⟩
    · have ep : pNew l ag X t = .inl (1, (ztk l t.2.2).2.1) := (if_neg hl).trans (if_neg hN)
      obtain ⟨μ2, e2, h2, f2⟩ := b_nameHere_no g1.P k1.1 g1.G hN
      have q2 := g1.P.up8 f2
      refine zo_ob h.P.H.o (by omega) ?_
      refine zo_bn e2 ?_
      refine zo_ob h.P.H.o (by omega) ?_
      refine zo_bn (good0 q2 h2) ?_
      refine zo_pos rfl ?_
      refine zo_mono (b_new53E q2 h2) ?_
      rintro r rfl
      exact ⟨0, μ2, rfl, Or.inl ⟨_, ep, h2⟩, (FP8.tr f1 f2).z⟩
/-- a link -/
theorem b_link78E {a b v : Int} (h : PM S μ m l) (hE : EM μ m e) : zo (f_X8_parseLink_78 m a b v (S, μ)) (fun r => r = (.inl 0, (S, μ))) := by
  refine j_X8_parseLink_78 ?_
  refine zo_ob h.H.o (by omega) ?_
  refine zo_bn (good0 h hE) ?_
  exact zo_pos rfl (zo_rt rfl)
theorem b_link50E {a b : Int} (h : PM S μ m l) (hE : EM μ m e) : zo (f_X8_parseLink_50 m a b (S, μ)) (fun r => r = (.inl 0, (S, μ))) := by
  refine j_X8_parseLink_50 ?_
  refine zo_ob h.H.o (by omega) ?_
  refine zo_bn (b_goOnE h hE) ?_
  refine zo_ob h.H.o (by omega) ?_
  refine zo_bn (b_isWordE (i := 9) h hE (by decide)) ?_
  refine zo_pos rfl ?_
  exact b_link78E h hE
theorem b_link78 {i j v : Int} (h : GD S μ m l t X) (hi : 0 ≤ i ∧ i < 6) (hj : 0 ≤ j ∧ j < 6) (ht : TOk l t) : zo (f_X8_parseLink_78 m i j v (S, μ)) (fun r => ∃ u μ', r = (.inl u, (S, μ')) ∧ (QM S m l μ' (pLnk l X i j v t) ∧ FPZ m μ μ')) := by
  refine j_X8_parseLink_78 ?_
  refine zo_ob h.P.H.o (by omega) ?_
  refine zo_bn (good1 h.P h.G) ?_
  refine zo_neg (by decide) ?_
  obtain ⟨μ1, e1, h1, f1⟩ := b_putTrust h.P.H h.D (a := i) (o := j) (v := v) hi hj
  refine zo_ob h.P.H.o (by omega) ?_
  refine zo_bn e1 ?_
  obtain ⟨μ2, e2, h2, f2⟩ := b_putTrust h.P.H h1 (a := j) (o := i) (v := v) hj hi
  refine zo_ob h.P.H.o (by omega) ?_
  refine zo_bn e2 ?_
  have f := FA.tr f1 f2
  exact zo_rt ⟨0, μ2, rfl, Or.inr ⟨_, _, rfl, ht, h.desk f h2⟩, f.z2⟩
theorem b_link50 {i j : Int} (h : GD S μ m l t X) (ht : TOk l t) (hi : 0 ≤ i ∧ i < 6) (hj : 0 ≤ j ∧ j < 6) : zo (f_X8_parseLink_50 m i j (S, μ)) (fun r => ∃ u μ', r = (.inl u, (S, μ')) ∧ (QM S m l μ' (pLnT l X i j (ztk l t.2.2)) ∧ FPZ m μ μ')) := by
  have k1 := tk_ok (l := l) ht.el
  have k2 := tk_ok (l := l) k1.1.el
  refine j_X8_parseLink_50 ?_
  obtain ⟨μ1, e1, g1, f1⟩ := h.go ht
  refine zo_ob h.P.H.o (by omega) ?_
  refine zo_bn e1 ?_
  refine zo_ob h.P.H.o (by omega) ?_
  refine zo_bn (b_isWord (i := 9) g1.P k1.1 g1.G (by decide)) ?_
  refine zo_zb (fun u => ?_) (fun u => ?_)
  · have eq : pLnT l X i j (ztk l t.2.2) = pLnk l X i j 5 (ztk l t.2.2) := if_neg u
    rw [eq]
    refine zo_mono (b_link78 (v := 5) g1 hi hj k1.1) ?_
    rintro r ⟨v, μ2, hr, h2, f2⟩
    exact ⟨v, μ2, hr, h2, FPZ.tr f1.z f2⟩
  · have eq : pLnT l X i j (ztk l t.2.2) = pBnd (pNum l 0 10 (ztk l (ztk l t.2.2).2.2)) fun t5 => pLnk l X i j (znv (zsg l (ztk l (ztk l t.2.2).2.2))) t5 := if_pos u
    rw [eq]
    have nb : ∃ v μ2, f_X8_numberBehind m ((9 : Nat) : Int) 0 10 (S, μ1) = some (.inl v, (S, μ2)) ∧ (RM μ2 m l (pNum l 0 10 (ztk l (ztk l t.2.2).2.2)) ∧ FP8 m μ1 μ2 ∧ (∀ t2, pNum l 0 10 (ztk l (ztk l t.2.2).2.2) = .inr t2 → v = znv (zsg l (ztk l (ztk l t.2.2).2.2)))) := by
      refine zo_xb ?_
      refine j_X8_numberBehind ?_
      refine zo_ob h.P.H.o (by omega) ?_
      refine zo_bn (b_isWord (i := 9) g1.P k1.1 g1.G (by decide)) ?_
      refine zo_zp u ?_
      refine j_X8_numberBehind_13 ?_
      obtain ⟨μ2, e2, g2, f2⟩ := g1.go k1.1
      refine zo_ob h.P.H.o (by omega) ?_
      refine zo_bn e2 ?_
      obtain ⟨v, μ3, e3, h3, f3, v3, -⟩ := b_number (lo := 0) (hi := 10) g2.P k2.1 g2.G (by decide)
      refine zo_ob h.P.H.o (by omega) ?_
      refine zo_bn e3 ?_
      exact zo_rt ⟨v, μ3, rfl, h3, FP8.tr f2 f3, v3⟩
    obtain ⟨v, μ2, e2, h2, f2, v2⟩ := nb
    have q2 := g1.P.up8 f2
    refine zo_ob h.P.H.o (by omega) ?_
    refine zo_bn e2 ?_
    cases hp : pNum l 0 10 (ztk l (ztk l t.2.2).2.2) with
    | inl e =>
      rw [hp] at h2
      refine zo_mono (b_link78E q2 h2) ?_
      rintro r rfl
      exact ⟨0, μ2, rfl, Or.inl ⟨e, rfl, h2⟩, (FP8.tr f1 f2).z⟩
    | inr t5 =>
      rw [hp] at h2
      have i5 := num_inv k2.1 hp
      have g2 := g1.rd f2 h2
      rw [v2 t5 hp]
      refine zo_mono (b_link78 (v := znv (zsg l (ztk l (ztk l t.2.2).2.2))) g2 hi hj i5.2.1) ?_
      rintro r ⟨w, μ3, hr, h3, f3⟩
      exact ⟨w, μ3, hr, h3, FPZ.tr (FP8.tr f1 f2).z f3⟩
theorem b_parseLink (h : GD S μ m l t X) (ht : TOk l t) (W : WF B X) : zo (f_X8_parseLink m (S, μ)) (fun r => ∃ v μ', r = (.inl v, (S, μ')) ∧ (QM S m l μ' (pLink l X t) ∧ FPZ m μ μ')) := by
  have W60 := W.al
  have k1 := tk_ok (l := l) ht.el
  have k2 := tk_ok (l := l) k1.1.el
  have en : X.nms true = X.an := rfl
  refine j_X8_parseLink ?_
  obtain ⟨μ1, e1, g1, f1⟩ := h.go ht
  refine zo_ob h.P.H.o (by omega) ?_
  refine zo_bn e1 ?_
  unfold pLink
  cases hp : pTold l X.an (ztk l t.2.2) with
  | inl e =>
    obtain ⟨μ2, e2, h2, f2⟩ := b_told_no true g1 k1.1 W (show pTold l (X.nms true) (ztk l t.2.2) = .inl e from hp)
    have q2 := g1.P.up8 f2
    refine zo_ob h.P.H.o (by omega) ?_
    refine zo_bn e2 ?_
    refine zo_ob h.P.H.o (by omega) ?_
    refine zo_bn (b_goOnE q2 h2) ?_
    refine zo_ob h.P.H.o (by omega) ?_
    refine zo_bn (b_toldE q2 h2) ?_
    refine zo_ob h.P.H.o (by omega) ?_
    refine zo_bn (good0 q2 h2) ?_
    refine zo_pos rfl ?_
    refine zo_mono (b_link50E q2 h2) ?_
    rintro r rfl
    exact ⟨0, μ2, rfl, Or.inl ⟨e, rfl, h2⟩, (FP8.tr f1 f2).z⟩
  | inr i =>
    have hi := (told_inv hp).2.2
    refine zo_ob h.P.H.o (by omega) ?_
    refine zo_bn (b_told_ok true g1 k1.1 W (show pTold l (X.nms true) (ztk l t.2.2) = .inr i from hp)) ?_
    obtain ⟨μ3, e3, g3, f3⟩ := g1.go k1.1
    have F3 := FP8.tr f1 f3
    refine zo_ob h.P.H.o (by omega) ?_
    refine zo_bn e3 ?_
    show zo _ (fun r => ∃ v μ', r = (.inl v, (S, μ')) ∧ (QM S m l μ' (pBnd (pTold l X.an (ztk l (ztk l t.2.2).2.2)) fun j => if j = i ∨ ¬ X.T i j = -1 then .inl (3, (ztk l (ztk l t.2.2).2.2).2.1) else pLnT l X i j (ztk l (ztk l (ztk l t.2.2).2.2).2.2)) ∧ FPZ m μ μ'))
    cases hp2 : pTold l X.an (ztk l (ztk l t.2.2).2.2) with
    | inl e =>
      obtain ⟨μ4, e4, h4, f4⟩ := b_told_no true g3 k2.1 W (show pTold l (X.nms true) (ztk l (ztk l t.2.2).2.2) = .inl e from hp2)
      have q4 := g3.P.up8 f4
      refine zo_ob h.P.H.o (by omega) ?_
      refine zo_bn e4 ?_
      refine zo_ob h.P.H.o (by omega) ?_
      refine zo_bn (good0 q4 h4) ?_
      refine zo_pos rfl ?_
      refine zo_mono (b_link50E q4 h4) ?_
      rintro r rfl
      exact ⟨0, μ4, rfl, Or.inl ⟨e, rfl, h4⟩, (FP8.tr F3 f4).z⟩
    | inr j =>
      have hj := (told_inv hp2).2.2
      refine zo_ob h.P.H.o (by omega) ?_
      refine zo_bn (b_told_ok true g3 k2.1 W (show pTold l (X.nms true) (ztk l (ztk l t.2.2).2.2) = .inr j from hp2)) ?_
      refine zo_ob h.P.H.o (by omega) ?_
      refine zo_bn (good1 g3.P g3.G) ?_
      refine zo_neg (by decide) ?_
      show zo _ (fun r => ∃ v μ', r = (.inl v, (S, μ')) ∧ (QM S m l μ' (if j = i ∨ ¬ X.T i j = -1 then .inl (3, (ztk l (ztk l t.2.2).2.2).2.1) else pLnT l X i j (ztk l (ztk l (ztk l t.2.2).2.2).2.2)) ∧ FPZ m μ μ'))
      have bad : (j = i ∨ ¬ X.T i j = -1) → zo (f_X8_parseLink_45 m i j (S, μ3)) (fun r => ∃ v μ', r = (.inl v, (S, μ')) ∧ (QM S m l μ' (if j = i ∨ ¬ X.T i j = -1 then .inl (3, (ztk l (ztk l t.2.2).2.2).2.1) else pLnT l X i j (ztk l (ztk l (ztk l t.2.2).2.2).2.2)) ∧ FPZ m μ μ')) := by
        intro z
        have ep : (if j = i ∨ ¬ X.T i j = -1 then (.inl (3, (ztk l (ztk l t.2.2).2.2).2.1) : zPr) else pLnT l X i j (ztk l (ztk l (ztk l t.2.2).2.2).2.2)) = .inl (3, (ztk l (ztk l t.2.2).2.2).2.1) := if_pos z
        rw [ep]
        obtain ⟨μ5, e5, h5, q5, f5⟩ := g3.er (c := 3) (by decide)
        refine j_X8_parseLink_45 ?_
        refine zo_ob h.P.H.o (by omega) ?_
        refine zo_bn e5 ?_
        refine zo_mono (b_link50E q5 h5) ?_
        rintro r rfl
        exact ⟨0, μ5, rfl, Or.inl ⟨_, rfl, h5⟩, (FP8.tr F3 f5).z⟩
      refine zo_ite (fun z => bad (Or.inl z.symm)) (fun z => ?_)
      refine zo_ob h.P.H.o (by omega) ?_
      refine zo_bn (b_areLinked h.P.H g3.D (by omega) (by omega)) ?_
      refine zo_zb (fun y => ?_) (fun y => bad (Or.inr y))
      have ep : (if j = i ∨ ¬ X.T i j = -1 then (.inl (3, (ztk l (ztk l t.2.2).2.2).2.1) : zPr) else pLnT l X i j (ztk l (ztk l (ztk l t.2.2).2.2).2.2)) = pLnT l X i j (ztk l (ztk l (ztk l t.2.2).2.2).2.2) := if_neg (fun u => u.elim (fun w => z w.symm) y)
      rw [ep]
      refine zo_mono (b_link50 g3 k2.1 (by omega) (by omega)) ?_
      rintro r ⟨v, μ4, hr, h4, f4⟩
      exact ⟨v, μ4, hr, h4, FPZ.tr F3.z f4⟩
/-- a probe -/
theorem b_parseProbe (h : GD S μ m l t X) (ht : TOk l t) (W : WF B X) : zo (f_X8_parseProbe m (S, μ)) (fun r => ∃ v μ', r = (.inl v, (S, μ')) ∧ (QM S m l μ' (pProbe l X t) ∧ FPZ m μ μ')) := by
  have k1 := tk_ok (l := l) ht.el
  have k2 := tk_ok (l := l) k1.1.el
  have k3 := tk_ok (l := l) k2.1.el
  -- the rest with an error
  have last : ∀ (μ5 : zM) (e : zEr) (i w a b : Int), PM S μ5 m l → EM μ5 m e → zo (zob 8 m (S, μ5) (zbn (f_X8_good m (S, μ5)) fun x15 τ16 => if x15 = 0 then some (.inl 0, τ16) else (zob 8 m τ16 (zbn (f_X8_doProbe m i w a b τ16) fun x17 τ18 => some (.inl 0, τ18))))) (fun r => r = (.inl 0, (S, μ5))) := by
    intro μ5 e i w a b q5 h5
    refine zo_ob q5.H.o (by omega) ?_
    refine zo_bn (good0 q5 h5) ?_
    exact zo_pos rfl (zo_rt rfl)
  refine j_X8_parseProbe ?_
  obtain ⟨μ1, e1, g1, f1⟩ := h.go ht
  refine zo_ob h.P.H.o (by omega) ?_
  refine zo_bn e1 ?_
  unfold pProbe
  cases hp : pTold l X.an (ztk l t.2.2) with
  | inl e =>
    obtain ⟨μ2, e2, h2, f2⟩ := b_told_no true g1 k1.1 W (show pTold l (X.nms true) (ztk l t.2.2) = .inl e from hp)
    have q2 := g1.P.up8 f2
    refine zo_ob h.P.H.o (by omega) ?_
    refine zo_bn e2 ?_
    refine zo_ob h.P.H.o (by omega) ?_
    refine zo_bn (b_goOnE q2 h2) ?_
    refine zo_ob h.P.H.o (by omega) ?_
    refine zo_bn (b_toldE q2 h2) ?_
    refine zo_ob h.P.H.o (by omega) ?_
    refine zo_bn (b_goOnE q2 h2) ?_
    refine zo_ob h.P.H.o (by omega) ?_
    refine zo_bn (b_numberE q2 h2) ?_
    refine zo_ob h.P.H.o (by omega) ?_
    refine zo_bn (b_numberE q2 h2) ?_
    refine zo_mono (last μ2 e _ _ _ _ q2 h2) ?_
    rintro r rfl
    exact ⟨0, μ2, rfl, Or.inl ⟨e, rfl, h2⟩, (FP8.tr f1 f2).z⟩
  | inr i =>
    have hi := (told_inv hp).2.2
    refine zo_ob h.P.H.o (by omega) ?_
    refine zo_bn (b_told_ok true g1 k1.1 W (show pTold l (X.nms true) (ztk l t.2.2) = .inr i from hp)) ?_
    obtain ⟨μ3, e3, g3, f3⟩ := g1.go k1.1
    have F3 := FP8.tr f1 f3
    refine zo_ob h.P.H.o (by omega) ?_
    refine zo_bn e3 ?_
    show zo _ (fun r => ∃ v μ', r = (.inl v, (S, μ')) ∧ (QM S m l μ' (pBnd (pTold l X.wn (ztk l (ztk l t.2.2).2.2)) fun w => pPrN l X i w (ztk l (ztk l (ztk l t.2.2).2.2).2.2)) ∧ FPZ m μ μ'))
    cases hp2 : pTold l X.wn (ztk l (ztk l t.2.2).2.2) with
    | inl e =>
      obtain ⟨μ4, e4, h4, f4⟩ := b_told_no false g3 k2.1 W (show pTold l (X.nms false) (ztk l (ztk l t.2.2).2.2) = .inl e from hp2)
      have q4 := g3.P.up8 f4
      refine zo_ob h.P.H.o (by omega) ?_
      refine zo_bn e4 ?_
      refine zo_ob h.P.H.o (by omega) ?_
      refine zo_bn (b_goOnE q4 h4) ?_
      refine zo_ob h.P.H.o (by omega) ?_
      refine zo_bn (b_numberE q4 h4) ?_
      refine zo_ob h.P.H.o (by omega) ?_
      refine zo_bn (b_numberE q4 h4) ?_
      refine zo_mono (last μ4 e _ _ _ _ q4 h4) ?_
      rintro r rfl
      exact ⟨0, μ4, rfl, Or.inl ⟨e, rfl, h4⟩, (FP8.tr F3 f4).z⟩
    | inr w =>
      have hw := (told_inv hp2).2.2
      refine zo_ob h.P.H.o (by omega) ?_
      refine zo_bn (b_told_ok false g3 k2.1 W (show pTold l (X.nms false) (ztk l (ztk l t.2.2).2.2) = .inr w from hp2)) ?_
      obtain ⟨μ5, e5, g5, f5⟩ := g3.go k2.1
      have F5 := FP8.tr F3 f5
      refine zo_ob h.P.H.o (by omega) ?_
      refine zo_bn e5 ?_
      show zo _ (fun r => ∃ v μ', r = (.inl v, (S, μ')) ∧ (QM S m l μ' (pPrN l X i w (ztk l (ztk l (ztk l t.2.2).2.2).2.2)) ∧ FPZ m μ μ'))
      generalize ztk l (ztk l (ztk l t.2.2).2.2).2.2 = t3 at *
      unfold pPrN
      obtain ⟨v6, μ6, e6, h6, f6, w6, x6⟩ := b_number (lo := 0) (hi := 999) g5.P k3.1 g5.G (by decide)
      have F6 := FP8.tr F5 f6
      have q6 := g5.P.up8 f6
      refine zo_ob h.P.H.o (by omega) ?_
      refine zo_bn e6 ?_
      cases hp3 : pNum l 0 999 t3 with
      | inl e =>
        rw [hp3] at h6
        refine zo_ob h.P.H.o (by omega) ?_
        refine zo_bn (b_numberE q6 h6) ?_
        refine zo_mono (last μ6 e _ _ _ _ q6 h6) ?_
        rintro r rfl
        exact ⟨0, μ6, rfl, Or.inl ⟨e, rfl, h6⟩, F6.z⟩
      | inr t4 =>
        rw [hp3] at h6
        have i4 := num_inv k3.1 hp3
        have g6 := g5.rd f6 h6
        rw [w6 t4 hp3]
        obtain ⟨v7, μ7, e7, h7, f7, w7, x7⟩ := b_number (lo := znv (zsg l t3)) (hi := 999) g6.P i4.2.1 g6.G (by decide)
        have F7 := FP8.tr F6 f7
        have q7 := g6.P.up8 f7
        refine zo_ob h.P.H.o (by omega) ?_
        refine zo_bn e7 ?_
        show zo _ (fun r => ∃ v μ', r = (.inl v, (S, μ')) ∧ (QM S m l μ' (pBnd (pNum l (znv (zsg l t3)) 999 t4) fun t5 => pEnd l (X.prb i w (znv (zsg l t3)) (znv (zsg l t4))).1 t5) ∧ FPZ m μ μ'))
        cases hp4 : pNum l (znv (zsg l t3)) 999 t4 with
        | inl e =>
          rw [hp4] at h7
          refine zo_mono (last μ7 e _ _ _ _ q7 h7) ?_
          rintro r rfl
          exact ⟨0, μ7, rfl, Or.inl ⟨e, rfl, h7⟩, F7.z⟩
        | inr t5 =>
          rw [hp4] at h7
          have i5 := num_inv i4.2.1 hp4
          have g7 := g6.rd f7 h7
          rw [w7 t5 hp4]
          refine zo_ob h.P.H.o (by omega) ?_
          refine zo_bn (good1 g7.P g7.G) ?_
          refine zo_neg (by decide) ?_
          obtain ⟨μ8, e8, h8, f8⟩ := b_doProbe g7.P.H g7.D W (a := i) (w9 := w) (lo := znv (zsg l t3)) (hi := znv (zsg l t4)) ⟨hi.1, hi.2⟩ ⟨hw.1, hw.2⟩ ⟨i4.1.1, i5.1.1, i5.1.2⟩
          refine zo_ob h.P.H.o (by omega) ?_
          refine zo_bn e8 ?_
          exact zo_rt ⟨0, μ8, rfl, Or.inr ⟨_, _, rfl, i5.2.1, g7.desk f8 h8⟩, FPZ.tr F7.z f8.z2⟩
/-- a statement -/
theorem b_tail {p : zPr} (P : PM S μ m l) (h : QM S m l μ p) : zo (f_X8_parseStatement_79 m (S, μ)) (fun r => ∃ v μ', r = (.inl v, (S, μ')) ∧ (OM S m l μ' p ∧ FPZ m μ μ')) := by
  refine j_X8_parseStatement_79 ?_
  rcases h with ⟨e, hp, hE⟩ | ⟨t, X, hp, ht, G⟩
  · refine zo_ob P.H.o (by omega) ?_
    refine zo_bn (b_semicolonE P hE) ?_
    exact zo_rt ⟨0, μ, rfl, by rw [hp]; exact hE, FPZ.rf⟩
  · obtain ⟨μ1, e1, h1, f1⟩ := b_semicolon G.P ht G.G
    refine zo_ob P.H.o (by omega) ?_
    refine zo_bn e1 ?_
    refine zo_rt ⟨0, μ1, rfl, ?_, f1.z⟩
    rw [hp]
    unfold pEnd
    cases hs : pSemi l t with
    | inl e => rw [hs] at h1; exact h1
    | inr t2 => rw [hs] at h1; exact G.rd f1 h1
theorem b_parseStatement (h : GD S μ m l t X) (ht : TOk l t) (W : WF B X) : ∃ v μ', f_X8_parseStatement m (S, μ) = some (.inl v, (S, μ')) ∧ (OM S m l μ' (pStat l X t) ∧ FPZ m μ μ') := by
  have fin : ∀ {A : zFn}, zo A (fun r => ∃ v μ', r = (.inl v, (S, μ')) ∧ (QM S m l μ' (pStat l X t) ∧ FPZ m μ μ')) → zo (zbn A fun _ τ => f_X8_parseStatement_79 m τ) (fun r => ∃ v μ', r = (.inl v, (S, μ')) ∧ (OM S m l μ' (pStat l X t) ∧ FPZ m μ μ')) := by
    intro A hA
    refine zo_bzz (zo_mono hA ?_)
    rintro r ⟨v, μ1, hr, h1, f1⟩
    refine ⟨v, (S, μ1), hr, zo_mono (b_tail (h.P.upZ f1) h1) ?_⟩
    rintro r ⟨v, μ2, hr, h2, f2⟩
    exact ⟨v, μ2, hr, h2, FPZ.tr f1 f2⟩
  refine zo_xb ?_
  refine j_X8_parseStatement ?_
  refine zo_ob h.P.H.o (by omega) ?_
  refine zo_bn (b_isWord (i := 6) h.P ht h.G (by decide)) ?_
  refine zo_zb (fun n6 => ?_) (fun y6 => ?_)
  · refine zo_ob h.P.H.o (by omega) ?_
    refine zo_bn (b_isWord (i := 7) h.P ht h.G (by decide)) ?_
    refine zo_zb (fun n7 => ?_) (fun y7 => ?_)
    · refine zo_ob h.P.H.o (by omega) ?_
      refine zo_bn (b_isWord (i := 8) h.P ht h.G (by decide)) ?_
      refine zo_zb (fun n8 => ?_) (fun y8 => ?_)
      · refine zo_ob h.P.H.o (by omega) ?_
        refine zo_bn (b_isWord (i := 10) h.P ht h.G (by decide)) ?_
        refine zo_zb (fun nA => ?_) (fun yA => ?_)
        · have es : pStat l X t = .inl (1, t.2.1) := (if_neg n6).trans ((if_neg n7).trans ((if_neg n8).trans (if_neg nA)))
          obtain ⟨μ1, e1, h1, q1, f1⟩ := h.er (c := 1) (by decide)
          refine zo_ob h.P.H.o (by omega) ?_
          exact fin ⟨_, e1, 0, μ1, rfl, Or.inl ⟨_, es, h1⟩, f1.z⟩
        · have es : pStat l X t = pProbe l X t := (if_neg n6).trans ((if_neg n7).trans ((if_neg n8).trans (if_pos yA)))
          refine zo_ob h.P.H.o (by omega) ?_
          exact fin (by rw [es]; exact b_parseProbe h ht W)
      · have es : pStat l X t = pLink l X t := (if_neg n6).trans ((if_neg n7).trans (if_pos y8))
        refine zo_ob h.P.H.o (by omega) ?_
        exact fin (by rw [es]; exact b_parseLink h ht W)
    · have es : pStat l X t = pNew l false X t := (if_neg n6).trans (if_pos y7)
      refine zo_ob h.P.H.o (by omega) ?_
      exact fin (by rw [es]; exact b_parseNew false h ht W)
  · have es : pStat l X t = pNew l true X t := if_pos y6
    refine zo_ob h.P.H.o (by omega) ?_
    exact fin (by rw [es]; exact b_parseNew true h ht W)
/-- the rules -/
theorem b_numberBehind {i : Nat} {f : Int → Int} (hi : i < 5) (h : PM S μ m l) (ht : TOk l t) (hG : GM μ m l t) : ∃ v μ', f_X8_numberBehind m ((i + 1 : Nat) : Int) (zsv 0 (i : Int)) (zsv 1 (i : Int)) (S, μ) = some (.inl v, (S, μ')) ∧ (FP8 m μ μ' ∧ ((∃ e, pRul l i (t, f) = .inl e ∧ EM μ' m e) ∨ (∃ t2, pRul l i (t, f) = .inr (t2, zup1 f (i : Int) v) ∧ TOk l t2 ∧ GM μ' m l t2))) := by
  have hz : zsv 1 (i : Int) ≤ 999 := by
    have hc : i = 0 ∨ i = 1 ∨ i = 2 ∨ i = 3 ∨ i = 4 := by omega
    rcases hc with z | z | z | z | z <;> subst z <;> decide
  refine zo_xb ?_
  refine j_X8_numberBehind ?_
  refine zo_ob h.H.o (by omega) ?_
  refine zo_bn (b_isWord (i := i + 1) h ht hG (by omega)) ?_
  refine zo_zb (fun z => ?_) (fun z => ?_)
  · obtain ⟨μ1, e1, h1, f1⟩ := b_errs (c := 1) h hG (by decide)
    have q1 := h.up8 f1
    have ew : pWord l (i + 1) t = .inl (1, t.2.1) := if_neg z
    have ep : pRul l i (t, f) = .inl (1, t.2.1) := by
      unfold pRul
      rw [ew]
      rfl
    refine zo_ob h.H.o (by omega) ?_
    refine zo_bn e1 ?_
    refine j_X8_numberBehind_13 ?_
    refine zo_ob h.H.o (by omega) ?_
    refine zo_bn (b_goOnE q1 h1) ?_
    refine zo_ob h.H.o (by omega) ?_
    refine zo_bn (b_numberE q1 h1) ?_
    exact zo_rt ⟨_, μ1, rfl, f1, Or.inl ⟨_, ep, h1⟩⟩
  · have k1 := tk_ok (l := l) ht.el
    have ew : pWord l (i + 1) t = .inr (ztk l t.2.2) := if_pos z
    have ep : pRul l i (t, f) = pBnd (pNum l (zsv 0 (i : Int)) (zsv 1 (i : Int)) (ztk l t.2.2)) fun t2 => .inr (t2, zup1 f (i : Int) (znv (zsg l (ztk l t.2.2)))) := by
      unfold pRul
      rw [ew]
      rfl
    obtain ⟨μ1, e1, g1, f1⟩ := b_goOn h ht hG
    have q1 := h.up8 f1
    refine j_X8_numberBehind_13 ?_
    refine zo_ob h.H.o (by omega) ?_
    refine zo_bn e1 ?_
    obtain ⟨v, μ2, e2, h2, f2, v2, -⟩ := b_number (lo := zsv 0 (i : Int)) (hi := zsv 1 (i : Int)) q1 k1.1 g1 hz
    refine zo_ob h.H.o (by omega) ?_
    refine zo_bn e2 ?_
    refine zo_rt ⟨v, μ2, rfl, FP8.tr f1 f2, ?_⟩
    rw [ep]
    cases hp : pNum l (zsv 0 (i : Int)) (zsv 1 (i : Int)) (ztk l t.2.2) with
    | inl e => rw [hp] at h2; exact Or.inl ⟨e, rfl, h2⟩
    | inr t2 =>
      rw [hp] at h2
      refine Or.inr ⟨t2, ?_, (num_inv k1.1 hp).2.1, h2⟩
      rw [v2 t2 hp]
      rfl
theorem b_numberBehindE {i : Nat} {lo hi : Int} (h : PM S μ m l) (hE : EM μ m e) (hi2 : i < 11) : f_X8_numberBehind m (i : Int) lo hi (S, μ) = some (.inl lo, (S, μ)) := by
  apply zo_un
  refine j_X8_numberBehind ?_
  refine zo_ob h.H.o (by omega) ?_
  refine zo_bn (b_isWordE h hE hi2) ?_
  refine zo_pos rfl ?_
  refine zo_ob h.H.o (by omega) ?_
  refine zo_bn (b_errsE h hE) ?_
  refine j_X8_numberBehind_13 ?_
  refine zo_ob h.H.o (by omega) ?_
  refine zo_bn (b_goOnE h hE) ?_
  refine zo_ob h.H.o (by omega) ?_
  refine zo_bn (b_numberE h hE) ?_
  exact zo_rt rfl
theorem D8.ruC {g : Int → Int} {f f' : Int → Int} (h : D8 g (X.wru f)) (hf : ∀ i, 0 ≤ i → i < 5 → f i = f' i) : D8 g (X.wru f') := D8.mk ⟨h.al, h.wl, h.ll, h.ql, h.an0, h.wn0, h.tm, fun i h1 h2 => (h.ru i h1 h2).trans (hf i h1 h2), h.an, h.wn, h.T, h.ac, h.li, h.qu⟩
set_option maxHeartbeats 2000000 in
theorem b_rules15E (h : PM S μ m l) (hE : EM μ m e) : zo (f_X8_parseRules_15 m (S, μ)) (fun r => ∃ v μ', r = (.inl v, (S, μ')) ∧ (EM μ' m e ∧ FPZ m μ μ')) := by
  refine j_X8_parseRules_15 ?_
  refine zo_ob h.H.o (by omega) ?_
  refine zo_bn (b_goOnE h hE) ?_
  refine zo_gr h.H.o h.H.r3 (by omega) (by omega) ?_
  refine zo_ob h.H.o (by omega) ?_
  refine zo_bn (b_numberBehindE (i := 1) h hE (by decide)) ?_
  refine zo_si h.H.a2 (by omega) ?_
  have hx0 := h.upZ (FA.z2 (FA.up (A := m + 2) (i := 3) (v := 0)))
  have hEx0 := EM.a hE (FA.up (A := m + 2) (i := 3) (v := 0))
  refine zo_gr hx0.H.o hx0.H.r3 (by omega) (by omega) ?_
  refine zo_ob hx0.H.o (by omega) ?_
  refine zo_bn (b_numberBehindE (i := 2) hx0 hEx0 (by decide)) ?_
  refine zo_si hx0.H.a2 (by omega) ?_
  have hx0x1 := hx0.upZ (FA.z2 (FA.up (A := m + 2) (i := 4) (v := 0)))
  have hEx0x1 := EM.a hEx0 (FA.up (A := m + 2) (i := 4) (v := 0))
  refine zo_gr hx0x1.H.o hx0x1.H.r3 (by omega) (by omega) ?_
  refine zo_ob hx0x1.H.o (by omega) ?_
  refine zo_bn (b_numberBehindE (i := 3) hx0x1 hEx0x1 (by decide)) ?_
  refine zo_si hx0x1.H.a2 (by omega) ?_
  have hx0x1x2 := hx0x1.upZ (FA.z2 (FA.up (A := m + 2) (i := 5) (v := 0)))
  have hEx0x1x2 := EM.a hEx0x1 (FA.up (A := m + 2) (i := 5) (v := 0))
  refine zo_gr hx0x1x2.H.o hx0x1x2.H.r3 (by omega) (by omega) ?_
  refine zo_ob hx0x1x2.H.o (by omega) ?_
  refine zo_bn (b_numberBehindE (i := 4) hx0x1x2 hEx0x1x2 (by decide)) ?_
  refine zo_si hx0x1x2.H.a2 (by omega) ?_
  have hx0x1x2x3 := hx0x1x2.upZ (FA.z2 (FA.up (A := m + 2) (i := 6) (v := 1)))
  have hEx0x1x2x3 := EM.a hEx0x1x2 (FA.up (A := m + 2) (i := 6) (v := 1))
  refine zo_gr hx0x1x2x3.H.o hx0x1x2x3.H.r3 (by omega) (by omega) ?_
  refine zo_ob hx0x1x2x3.H.o (by omega) ?_
  refine zo_bn (b_numberBehindE (i := 5) hx0x1x2x3 hEx0x1x2x3 (by decide)) ?_
  refine zo_si hx0x1x2x3.H.a2 (by omega) ?_
  have hx0x1x2x3x4 := hx0x1x2x3.upZ (FA.z2 (FA.up (A := m + 2) (i := 7) (v := 1)))
  have hEx0x1x2x3x4 := EM.a hEx0x1x2x3 (FA.up (A := m + 2) (i := 7) (v := 1))
  exact zo_rt ⟨0, _, rfl, hEx0x1x2x3x4, FA.z2 (FA.tr (FA.tr (FA.tr (FA.tr FA.up FA.up) FA.up) FA.up) FA.up)⟩
set_option maxHeartbeats 4000000 in
theorem b_parseRules (h : GD S μ m l t (zD0.wru (fun _ => 0))) (ht : TOk l t) : zo (f_X8_parseRules m (S, μ)) (fun r => ∃ v μ', r = (.inl v, (S, μ')) ∧ (QM S m l μ' (pRules l t) ∧ FPZ m μ μ')) := by
  have P := h.P
  refine j_X8_parseRules ?_
  refine zo_ob P.H.o (by omega) ?_
  refine zo_bn (b_isWord (i := 0) P ht h.G (by decide)) ?_
  unfold pRules
  refine zo_zb (fun z => ?_) (fun z => ?_)
  · have ew : pWord l 0 t = .inl (1, t.2.1) := if_neg z
    obtain ⟨μ1, e1, h1, q1, f1⟩ := h.er (c := 1) (by decide)
    rw [ew]
    refine zo_ob P.H.o (by omega) ?_
    refine zo_bn e1 ?_
    refine zo_mono (b_rules15E q1 h1) ?_
    rintro r ⟨v, μ2, hr, h2, f2⟩
    exact ⟨v, μ2, hr, Or.inl ⟨_, rfl, h2⟩, FPZ.tr f1.z f2⟩
  · have ew : pWord l 0 t = .inr (ztk l t.2.2) := if_pos z
    have j0 := (tk_ok (l := l) ht.el).1
    rw [ew]
    refine j_X8_parseRules_15 ?_
    obtain ⟨μ0, e0, g0, f0⟩ := h.go ht
    refine zo_ob P.H.o (by omega) ?_
    refine zo_bn e0 ?_
    have F0 := f0.z
    obtain ⟨z0, hz0⟩ : ∃ z : zTk × (Int → Int), z = (ztk l t.2.2, zD0.ru) := ⟨_, rfl⟩
    show zo _ (fun r => ∃ v μ', r = (.inl v, (S, μ')) ∧ (QM S m l μ' (pBnd (pRul l 0 (ztk l t.2.2, zD0.ru)) fun z1 => pBnd (pRul l 1 z1) fun z2 => pBnd (pRul l 2 z2) fun z3 => pBnd (pRul l 3 z3) fun z4 => pBnd (pRul l 4 z4) fun z5 => pEnd l (zD0.wru z5.2) z5.1) ∧ FPZ m μ μ'))
    rw [← hz0]
    have j0 : TOk l z0.1 := by rw [hz0]; exact j0
    have g0 : GD S μ0 m l z0.1 (zD0.wru (fun _ => 0)) := by rw [hz0]; exact g0
    have c0 : ∀ j : Int, 0 ≤ j → j < 0 → (fun _ => (0 : Int)) j = z0.2 j := fun j h1 h2 => absurd h2 (by omega)
    clear hz0
    generalize (fun (_ : Int) => (0 : Int)) = r0 at *
    refine zo_gr g0.P.H.o g0.P.H.r3 (by omega) (by omega) ?_
    obtain ⟨v1, μ1n, e1, f1n, h1⟩ := b_numberBehind (i := 0) (f := z0.2) (by decide) g0.P j0 g0.G
    refine zo_ob P.H.o (by omega) ?_
    refine zo_bn e1 ?_
    have q1n := g0.P.up8 f1n
    have d1n : D8 (μ1n (m + 2)) (zD0.wru r0) := by rw [f1n.e _ (by omega)]; exact g0.D
    refine zo_si q1n.H.a2 (by omega) ?_
    have ez0 : ((z0.1, z0.2) : zTk × (Int → Int)) = z0 := rfl
    rw [ez0] at h1
    have fA1 : FA (m + 2) μ1n (zup μ1n (m + 2) 3 v1) := FA.up
    have F1 := FPZ.tr (FPZ.tr F0 f1n.z) fA1.z2
    have Q1 := q1n.upZ fA1.z2
    rcases h1 with ⟨er, hp, hE⟩ | ⟨t1, hp, j1, G1⟩
    · rw [hp]
      have hE0 := hE.a fA1
      refine zo_gr Q1.H.o Q1.H.r3 (by omega) (by omega) ?_
      refine zo_ob Q1.H.o (by omega) ?_
      refine zo_bn (b_numberBehindE (i := 2) Q1 hE0 (by decide)) ?_
      refine zo_si Q1.H.a2 (by omega) ?_
      have Q1x1 := Q1.upZ (FA.z2 (FA.up (A := m + 2) (i := 4) (v := 0)))
      have hE0x1 := EM.a hE0 (FA.up (A := m + 2) (i := 4) (v := 0))
      refine zo_gr Q1x1.H.o Q1x1.H.r3 (by omega) (by omega) ?_
      refine zo_ob Q1x1.H.o (by omega) ?_
      refine zo_bn (b_numberBehindE (i := 3) Q1x1 hE0x1 (by decide)) ?_
      refine zo_si Q1x1.H.a2 (by omega) ?_
      have Q1x1x2 := Q1x1.upZ (FA.z2 (FA.up (A := m + 2) (i := 5) (v := 0)))
      have hE0x1x2 := EM.a hE0x1 (FA.up (A := m + 2) (i := 5) (v := 0))
      refine zo_gr Q1x1x2.H.o Q1x1x2.H.r3 (by omega) (by omega) ?_
      refine zo_ob Q1x1x2.H.o (by omega) ?_
      refine zo_bn (b_numberBehindE (i := 4) Q1x1x2 hE0x1x2 (by decide)) ?_
      refine zo_si Q1x1x2.H.a2 (by omega) ?_
      have Q1x1x2x3 := Q1x1x2.upZ (FA.z2 (FA.up (A := m + 2) (i := 6) (v := 1)))
      have hE0x1x2x3 := EM.a hE0x1x2 (FA.up (A := m + 2) (i := 6) (v := 1))
      refine zo_gr Q1x1x2x3.H.o Q1x1x2x3.H.r3 (by omega) (by omega) ?_
      refine zo_ob Q1x1x2x3.H.o (by omega) ?_
      refine zo_bn (b_numberBehindE (i := 5) Q1x1x2x3 hE0x1x2x3 (by decide)) ?_
      refine zo_si Q1x1x2x3.H.a2 (by omega) ?_
      have Q1x1x2x3x4 := Q1x1x2x3.upZ (FA.z2 (FA.up (A := m + 2) (i := 7) (v := 1)))
      have hE0x1x2x3x4 := EM.a hE0x1x2x3 (FA.up (A := m + 2) (i := 7) (v := 1))
      exact zo_rt ⟨0, _, rfl, Or.inl ⟨er, rfl, hE0x1x2x3x4⟩, FPZ.tr (FPZ.tr (FPZ.tr (FPZ.tr (F1) (FA.z2 FA.up)) (FA.z2 FA.up)) (FA.z2 FA.up)) (FA.z2 FA.up)⟩
    · rw [hp]
      have d1 : D8 (zup μ1n (m + 2) 3 v1 (m + 2)) (zD0.wru (zup1 r0 0 v1)) := by
        rw [zup_fn]
        exact d1n.setRu (i := 0) (v := v1) (by decide)
      have g1 : GD S (zup μ1n (m + 2) 3 v1) m l t1 (zD0.wru (zup1 r0 0 v1)) := GD.mk ⟨Q1, G1.a fA1, d1⟩
      have c1 : ∀ j : Int, 0 ≤ j → j < 1 → zup1 r0 0 v1 j = zup1 z0.2 ((0 : Nat) : Int) v1 j := by
        intro j h1 h2
        by_cases ej : j = 0
        · rw [ej]
          exact zup1_at.trans zup1_at.symm
        · rw [zup1_b ej, zup1_b (show j ≠ ((0 : Nat) : Int) from ej)]
          exact c0 j h1 (by omega)
      obtain ⟨z1, hz1⟩ : ∃ z : zTk × (Int → Int), z = (t1, zup1 z0.2 ((0 : Nat) : Int) v1) := ⟨_, rfl⟩
      rw [← hz1]
      have j1 : TOk l z1.1 := by rw [hz1]; exact j1
      have g1 : GD S (zup μ1n (m + 2) 3 v1) m l z1.1 (zD0.wru (zup1 r0 0 v1)) := by rw [hz1]; exact g1
      have c1 : ∀ j : Int, 0 ≤ j → j < 1 → zup1 r0 0 v1 j = z1.2 j := by rw [hz1]; exact c1
      generalize zup1 r0 0 v1 = r1 at *
      show zo _ (fun r => ∃ v μ', r = (.inl v, (S, μ')) ∧ (QM S m l μ' (pBnd (pRul l 1 z1) fun z2 => pBnd (pRul l 2 z2) fun z3 => pBnd (pRul l 3 z3) fun z4 => pBnd (pRul l 4 z4) fun z5 => pEnd l (zD0.wru z5.2) z5.1) ∧ FPZ m μ μ'))
      refine zo_gr g1.P.H.o g1.P.H.r3 (by omega) (by omega) ?_
      obtain ⟨v2, μ2n, e2, f2n, h2⟩ := b_numberBehind (i := 1) (f := z1.2) (by decide) g1.P j1 g1.G
      refine zo_ob P.H.o (by omega) ?_
      refine zo_bn e2 ?_
      have q2n := g1.P.up8 f2n
      have d2n : D8 (μ2n (m + 2)) (zD0.wru r1) := by rw [f2n.e _ (by omega)]; exact g1.D
      refine zo_si q2n.H.a2 (by omega) ?_
      have ez1 : ((z1.1, z1.2) : zTk × (Int → Int)) = z1 := rfl
      rw [ez1] at h2
      have fA2 : FA (m + 2) μ2n (zup μ2n (m + 2) 4 v2) := FA.up
      have F2 := FPZ.tr (FPZ.tr F1 f2n.z) fA2.z2
      have Q2 := q2n.upZ fA2.z2
      rcases h2 with ⟨er, hp, hE⟩ | ⟨t2, hp, j2, G2⟩
      · rw [hp]
        have hE0 := hE.a fA2
        refine zo_gr Q2.H.o Q2.H.r3 (by omega) (by omega) ?_
        refine zo_ob Q2.H.o (by omega) ?_
        refine zo_bn (b_numberBehindE (i := 3) Q2 hE0 (by decide)) ?_
        refine zo_si Q2.H.a2 (by omega) ?_
        have Q2x2 := Q2.upZ (FA.z2 (FA.up (A := m + 2) (i := 5) (v := 0)))
        have hE0x2 := EM.a hE0 (FA.up (A := m + 2) (i := 5) (v := 0))
        refine zo_gr Q2x2.H.o Q2x2.H.r3 (by omega) (by omega) ?_
        refine zo_ob Q2x2.H.o (by omega) ?_
        refine zo_bn (b_numberBehindE (i := 4) Q2x2 hE0x2 (by decide)) ?_
        refine zo_si Q2x2.H.a2 (by omega) ?_
        have Q2x2x3 := Q2x2.upZ (FA.z2 (FA.up (A := m + 2) (i := 6) (v := 1)))
        have hE0x2x3 := EM.a hE0x2 (FA.up (A := m + 2) (i := 6) (v := 1))
        refine zo_gr Q2x2x3.H.o Q2x2x3.H.r3 (by omega) (by omega) ?_
        refine zo_ob Q2x2x3.H.o (by omega) ?_
        refine zo_bn (b_numberBehindE (i := 5) Q2x2x3 hE0x2x3 (by decide)) ?_
        refine zo_si Q2x2x3.H.a2 (by omega) ?_
        have Q2x2x3x4 := Q2x2x3.upZ (FA.z2 (FA.up (A := m + 2) (i := 7) (v := 1)))
        have hE0x2x3x4 := EM.a hE0x2x3 (FA.up (A := m + 2) (i := 7) (v := 1))
        exact zo_rt ⟨0, _, rfl, Or.inl ⟨er, rfl, hE0x2x3x4⟩, FPZ.tr (FPZ.tr (FPZ.tr (F2) (FA.z2 FA.up)) (FA.z2 FA.up)) (FA.z2 FA.up)⟩
      · rw [hp]
        have d2 : D8 (zup μ2n (m + 2) 4 v2 (m + 2)) (zD0.wru (zup1 r1 1 v2)) := by
          rw [zup_fn]
          exact d2n.setRu (i := 1) (v := v2) (by decide)
        have g2 : GD S (zup μ2n (m + 2) 4 v2) m l t2 (zD0.wru (zup1 r1 1 v2)) := GD.mk ⟨Q2, G2.a fA2, d2⟩
        have c2 : ∀ j : Int, 0 ≤ j → j < 2 → zup1 r1 1 v2 j = zup1 z1.2 ((1 : Nat) : Int) v2 j := by
          intro j h1 h2
          by_cases ej : j = 1
          · rw [ej]
            exact zup1_at.trans zup1_at.symm
          · rw [zup1_b ej, zup1_b (show j ≠ ((1 : Nat) : Int) from ej)]
            exact c1 j h1 (by omega)
        obtain ⟨z2, hz2⟩ : ∃ z : zTk × (Int → Int), z = (t2, zup1 z1.2 ((1 : Nat) : Int) v2) := ⟨_, rfl⟩
        rw [← hz2]
        have j2 : TOk l z2.1 := by rw [hz2]; exact j2
        have g2 : GD S (zup μ2n (m + 2) 4 v2) m l z2.1 (zD0.wru (zup1 r1 1 v2)) := by rw [hz2]; exact g2
        have c2 : ∀ j : Int, 0 ≤ j → j < 2 → zup1 r1 1 v2 j = z2.2 j := by rw [hz2]; exact c2
        generalize zup1 r1 1 v2 = r2 at *
        show zo _ (fun r => ∃ v μ', r = (.inl v, (S, μ')) ∧ (QM S m l μ' (pBnd (pRul l 2 z2) fun z3 => pBnd (pRul l 3 z3) fun z4 => pBnd (pRul l 4 z4) fun z5 => pEnd l (zD0.wru z5.2) z5.1) ∧ FPZ m μ μ'))
        refine zo_gr g2.P.H.o g2.P.H.r3 (by omega) (by omega) ?_
        obtain ⟨v3, μ3n, e3, f3n, h3⟩ := b_numberBehind (i := 2) (f := z2.2) (by decide) g2.P j2 g2.G
        refine zo_ob P.H.o (by omega) ?_
        refine zo_bn e3 ?_
        have q3n := g2.P.up8 f3n
        have d3n : D8 (μ3n (m + 2)) (zD0.wru r2) := by rw [f3n.e _ (by omega)]; exact g2.D
        refine zo_si q3n.H.a2 (by omega) ?_
        have ez2 : ((z2.1, z2.2) : zTk × (Int → Int)) = z2 := rfl
        rw [ez2] at h3
        have fA3 : FA (m + 2) μ3n (zup μ3n (m + 2) 5 v3) := FA.up
        have F3 := FPZ.tr (FPZ.tr F2 f3n.z) fA3.z2
        have Q3 := q3n.upZ fA3.z2
        rcases h3 with ⟨er, hp, hE⟩ | ⟨t3, hp, j3, G3⟩
        · rw [hp]
          have hE0 := hE.a fA3
          refine zo_gr Q3.H.o Q3.H.r3 (by omega) (by omega) ?_
          refine zo_ob Q3.H.o (by omega) ?_
          refine zo_bn (b_numberBehindE (i := 4) Q3 hE0 (by decide)) ?_
          refine zo_si Q3.H.a2 (by omega) ?_
          have Q3x3 := Q3.upZ (FA.z2 (FA.up (A := m + 2) (i := 6) (v := 1)))
          have hE0x3 := EM.a hE0 (FA.up (A := m + 2) (i := 6) (v := 1))
          refine zo_gr Q3x3.H.o Q3x3.H.r3 (by omega) (by omega) ?_
          refine zo_ob Q3x3.H.o (by omega) ?_
          refine zo_bn (b_numberBehindE (i := 5) Q3x3 hE0x3 (by decide)) ?_
          refine zo_si Q3x3.H.a2 (by omega) ?_
          have Q3x3x4 := Q3x3.upZ (FA.z2 (FA.up (A := m + 2) (i := 7) (v := 1)))
          have hE0x3x4 := EM.a hE0x3 (FA.up (A := m + 2) (i := 7) (v := 1))
          exact zo_rt ⟨0, _, rfl, Or.inl ⟨er, rfl, hE0x3x4⟩, FPZ.tr (FPZ.tr (F3) (FA.z2 FA.up)) (FA.z2 FA.up)⟩
        · rw [hp]
          have d3 : D8 (zup μ3n (m + 2) 5 v3 (m + 2)) (zD0.wru (zup1 r2 2 v3)) := by
            rw [zup_fn]
            exact d3n.setRu (i := 2) (v := v3) (by decide)
          have g3 : GD S (zup μ3n (m + 2) 5 v3) m l t3 (zD0.wru (zup1 r2 2 v3)) := GD.mk ⟨Q3, G3.a fA3, d3⟩
          have c3 : ∀ j : Int, 0 ≤ j → j < 3 → zup1 r2 2 v3 j = zup1 z2.2 ((2 : Nat) : Int) v3 j := by
            intro j h1 h2
            by_cases ej : j = 2
            · rw [ej]
              exact zup1_at.trans zup1_at.symm
            · rw [zup1_b ej, zup1_b (show j ≠ ((2 : Nat) : Int) from ej)]
              exact c2 j h1 (by omega)
          obtain ⟨z3, hz3⟩ : ∃ z : zTk × (Int → Int), z = (t3, zup1 z2.2 ((2 : Nat) : Int) v3) := ⟨_, rfl⟩
          rw [← hz3]
          have j3 : TOk l z3.1 := by rw [hz3]; exact j3
          have g3 : GD S (zup μ3n (m + 2) 5 v3) m l z3.1 (zD0.wru (zup1 r2 2 v3)) := by rw [hz3]; exact g3
          have c3 : ∀ j : Int, 0 ≤ j → j < 3 → zup1 r2 2 v3 j = z3.2 j := by rw [hz3]; exact c3
          generalize zup1 r2 2 v3 = r3 at *
          show zo _ (fun r => ∃ v μ', r = (.inl v, (S, μ')) ∧ (QM S m l μ' (pBnd (pRul l 3 z3) fun z4 => pBnd (pRul l 4 z4) fun z5 => pEnd l (zD0.wru z5.2) z5.1) ∧ FPZ m μ μ'))
          refine zo_gr g3.P.H.o g3.P.H.r3 (by omega) (by omega) ?_
          obtain ⟨v4, μ4n, e4, f4n, h4⟩ := b_numberBehind (i := 3) (f := z3.2) (by decide) g3.P j3 g3.G
          refine zo_ob P.H.o (by omega) ?_
          refine zo_bn e4 ?_
          have q4n := g3.P.up8 f4n
          have d4n : D8 (μ4n (m + 2)) (zD0.wru r3) := by rw [f4n.e _ (by omega)]; exact g3.D
          refine zo_si q4n.H.a2 (by omega) ?_
          have ez3 : ((z3.1, z3.2) : zTk × (Int → Int)) = z3 := rfl
          rw [ez3] at h4
          have fA4 : FA (m + 2) μ4n (zup μ4n (m + 2) 6 v4) := FA.up
          have F4 := FPZ.tr (FPZ.tr F3 f4n.z) fA4.z2
          have Q4 := q4n.upZ fA4.z2
          rcases h4 with ⟨er, hp, hE⟩ | ⟨t4, hp, j4, G4⟩
          · rw [hp]
            have hE0 := hE.a fA4
            refine zo_gr Q4.H.o Q4.H.r3 (by omega) (by omega) ?_
            refine zo_ob Q4.H.o (by omega) ?_
            refine zo_bn (b_numberBehindE (i := 5) Q4 hE0 (by decide)) ?_
            refine zo_si Q4.H.a2 (by omega) ?_
            have Q4x4 := Q4.upZ (FA.z2 (FA.up (A := m + 2) (i := 7) (v := 1)))
            have hE0x4 := EM.a hE0 (FA.up (A := m + 2) (i := 7) (v := 1))
            exact zo_rt ⟨0, _, rfl, Or.inl ⟨er, rfl, hE0x4⟩, FPZ.tr (F4) (FA.z2 FA.up)⟩
          · rw [hp]
            have d4 : D8 (zup μ4n (m + 2) 6 v4 (m + 2)) (zD0.wru (zup1 r3 3 v4)) := by
              rw [zup_fn]
              exact d4n.setRu (i := 3) (v := v4) (by decide)
            have g4 : GD S (zup μ4n (m + 2) 6 v4) m l t4 (zD0.wru (zup1 r3 3 v4)) := GD.mk ⟨Q4, G4.a fA4, d4⟩
            have c4 : ∀ j : Int, 0 ≤ j → j < 4 → zup1 r3 3 v4 j = zup1 z3.2 ((3 : Nat) : Int) v4 j := by
              intro j h1 h2
              by_cases ej : j = 3
              · rw [ej]
                exact zup1_at.trans zup1_at.symm
              · rw [zup1_b ej, zup1_b (show j ≠ ((3 : Nat) : Int) from ej)]
                exact c3 j h1 (by omega)
            obtain ⟨z4, hz4⟩ : ∃ z : zTk × (Int → Int), z = (t4, zup1 z3.2 ((3 : Nat) : Int) v4) := ⟨_, rfl⟩
            rw [← hz4]
            have j4 : TOk l z4.1 := by rw [hz4]; exact j4
            have g4 : GD S (zup μ4n (m + 2) 6 v4) m l z4.1 (zD0.wru (zup1 r3 3 v4)) := by rw [hz4]; exact g4
            have c4 : ∀ j : Int, 0 ≤ j → j < 4 → zup1 r3 3 v4 j = z4.2 j := by rw [hz4]; exact c4
            generalize zup1 r3 3 v4 = r4 at *
            show zo _ (fun r => ∃ v μ', r = (.inl v, (S, μ')) ∧ (QM S m l μ' (pBnd (pRul l 4 z4) fun z5 => pEnd l (zD0.wru z5.2) z5.1) ∧ FPZ m μ μ'))
            refine zo_gr g4.P.H.o g4.P.H.r3 (by omega) (by omega) ?_
            obtain ⟨v5, μ5n, e5, f5n, h5⟩ := b_numberBehind (i := 4) (f := z4.2) (by decide) g4.P j4 g4.G
            refine zo_ob P.H.o (by omega) ?_
            refine zo_bn e5 ?_
            have q5n := g4.P.up8 f5n
            have d5n : D8 (μ5n (m + 2)) (zD0.wru r4) := by rw [f5n.e _ (by omega)]; exact g4.D
            refine zo_si q5n.H.a2 (by omega) ?_
            have ez4 : ((z4.1, z4.2) : zTk × (Int → Int)) = z4 := rfl
            rw [ez4] at h5
            have fA5 : FA (m + 2) μ5n (zup μ5n (m + 2) 7 v5) := FA.up
            have F5 := FPZ.tr (FPZ.tr F4 f5n.z) fA5.z2
            have Q5 := q5n.upZ fA5.z2
            rcases h5 with ⟨er, hp, hE⟩ | ⟨t5, hp, j5, G5⟩
            · rw [hp]
              have hE0 := hE.a fA5
              exact zo_rt ⟨0, _, rfl, Or.inl ⟨er, rfl, hE0⟩, F5⟩
            · rw [hp]
              have d5 : D8 (zup μ5n (m + 2) 7 v5 (m + 2)) (zD0.wru (zup1 r4 4 v5)) := by
                rw [zup_fn]
                exact d5n.setRu (i := 4) (v := v5) (by decide)
              have g5 : GD S (zup μ5n (m + 2) 7 v5) m l t5 (zD0.wru (zup1 r4 4 v5)) := GD.mk ⟨Q5, G5.a fA5, d5⟩
              have c5 : ∀ j : Int, 0 ≤ j → j < 5 → zup1 r4 4 v5 j = zup1 z4.2 ((4 : Nat) : Int) v5 j := by
                intro j h1 h2
                by_cases ej : j = 4
                · rw [ej]
                  exact zup1_at.trans zup1_at.symm
                · rw [zup1_b ej, zup1_b (show j ≠ ((4 : Nat) : Int) from ej)]
                  exact c4 j h1 (by omega)
              obtain ⟨z5, hz5⟩ : ∃ z : zTk × (Int → Int), z = (t5, zup1 z4.2 ((4 : Nat) : Int) v5) := ⟨_, rfl⟩
              rw [← hz5]
              have j5 : TOk l z5.1 := by rw [hz5]; exact j5
              have g5 : GD S (zup μ5n (m + 2) 7 v5) m l z5.1 (zD0.wru (zup1 r4 4 v5)) := by rw [hz5]; exact g5
              have c5 : ∀ j : Int, 0 ≤ j → j < 5 → zup1 r4 4 v5 j = z5.2 j := by rw [hz5]; exact c5
              generalize zup1 r4 4 v5 = r5 at *
              show zo _ (fun r => ∃ v μ', r = (.inl v, (S, μ')) ∧ (QM S m l μ' (pEnd l (zD0.wru z5.2) z5.1) ∧ FPZ m μ μ'))
              have g6 : GD S (zup μ5n (m + 2) 7 v5) m l z5.1 (zD0.wru z5.2) := GD.mk ⟨g5.P, g5.G, g5.D.ruC c5⟩
              exact zo_rt ⟨0, _, rfl, Or.inr ⟨_, _, rfl, j5, g6⟩, F5⟩
end C82
