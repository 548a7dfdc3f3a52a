/-! C 81: the class reads a text -/
def znof : Bool → Int
  | true => 2
  | false => 4
theorem D7.nmS {S : zG} {μ : zM} {d : Int} {X : zD} (h : D7 S μ d X) : ∀ ag, NSh S (d + znof ag)
  | true => h.sh.ag
  | false => h.sh.wa
theorem D7.nmL {S : zG} {μ : zM} {d : Int} {X : zD} (h : D7 S μ d X) : ∀ ag, LNm μ (d + znof ag) (X.nms ag)
  | true => h.names
  | false => h.wnames
theorem WF.nm {B : Int} {X : zD} (W : WF B X) : ∀ ag, ∀ y, y ∈ X.nms ag → NOk y
  | true => W.an.2
  | false => W.wn.2
theorem D7.add {S : zG} {μ μ' : zM} {d : Int} {X : zD} {nm : List Int} : ∀ ag, D7 S μ d X → LNm μ' (d + znof ag) (X.nms ag ++ [nm]) → (∀ y, y ≠ d + znof ag → y ≠ d + znof ag + 1 → μ' y = μ y) → D7 S μ' d (X.ads nm ag)
  | true, h, hn, f => h.setAn hn (fun y h1 h2 => f y h1 (fun z => h2 (by rw [z]; show d + 2 + 1 = d + 3; omega)))
  | false, h, hn, f => h.setWn hn (fun y h1 h2 => f y h1 (fun z => h2 (by rw [z]; show d + 4 + 1 = d + 5; omega)))
def GC (S : zG) (μ : zM) (x : Int) (l : List Int) (t : zTk) (X : zD) : Prop := (PC S μ x l) ∧ (TC μ x t) ∧ (μ (x + 62) 6 = 0 ∧ μ (x + 62) 7 = -1) ∧ (D7 S μ (x + 37) X)
theorem GC.mk {S : zG} {μ : zM} {x : Int} {l : List Int} {t : zTk} {X : zD} (h : (PC S μ x l) ∧ (TC μ x t) ∧ (μ (x + 62) 6 = 0 ∧ μ (x + 62) 7 = -1) ∧ (D7 S μ (x + 37) X)) : GC S μ x l t X := h
theorem GC.P {S : zG} {μ : zM} {x : Int} {l : List Int} {t : zTk} {X : zD} (h : GC S μ x l t X) : PC S μ x l := h.1
theorem GC.T {S : zG} {μ : zM} {x : Int} {l : List Int} {t : zTk} {X : zD} (h : GC S μ x l t X) : TC μ x t := h.2.1
theorem GC.c {S : zG} {μ : zM} {x : Int} {l : List Int} {t : zTk} {X : zD} (h : GC S μ x l t X) : μ (x + 62) 6 = 0 ∧ μ (x + 62) 7 = -1 := h.2.2.1
theorem GC.D {S : zG} {μ : zM} {x : Int} {l : List Int} {t : zTk} {X : zD} (h : GC S μ x l t X) : D7 S μ (x + 37) X := h.2.2.2
def FPD (x : Int) (μ μ' : zM) : Prop := ∀ y, (y < x + 37 ∨ x + 63 ≤ y) → μ' y = μ y
def OC (S : zG) (x : Int) (l : List Int) (μ' : zM) (b : Int) : zPr → Prop
  | .inl e => b = 0 ∧ μ' (x + 62) 6 = e.1 ∧ μ' (x + 62) 7 = (e.2 : Int) ∧ ∃ X, D7 S μ' (x + 37) X
  | .inr z => b = 1 ∧ GC S μ' x l z.1 z.2
def RT (μ' : zM) (x : Int) (t : zTk) (b : Int) : zEr ⊕ Int → Prop
  | .inl e => b = 0 ∧ μ' (x + 62) 6 = e.1 ∧ μ' (x + 62) 7 = (e.2 : Int)
  | .inr i => b = 1 ∧ μ' (x + 62) 5 = i ∧ TC μ' x t ∧ μ' (x + 62) 6 = 0 ∧ μ' (x + 62) 7 = -1
section C81
variable {S S' : zG} {μ μ' μ1 μ2 : zM} {x B : Int} {l : List Int} {t t' : zTk} {X X' : zD} {Q : zR × zS → Prop}
theorem FPD.rf : FPD x μ μ := fun _ _ => rfl
theorem FPD.tr (h : FPD x μ μ1) (k : FPD x μ1 μ2) : FPD x μ μ2 := fun y h1 => (k y h1).trans (h y h1)
theorem FP4.D (h : FP4 x μ μ') : FPD x μ μ' := fun y hy => h y (by omega)
theorem FR.D (h : FR (x + 37) μ μ') : FPD x μ μ' := fun y hy => h y (by omega)
theorem FP4.d7 (f : FP4 x μ μ') (h : D7 S μ (x + 37) X) : D7 S μ' (x + 37) X := h.keep (fun y h1 h2 => f y (by omega))
theorem PC.upD (h : PC S μ x l) (f : FPD x μ μ') : PC S μ' x l := PC.mk ⟨h.x0, h.o, h.r0, h.r1, h.B, h.L.keep (by rw [f _ (by omega)]) (fun k => by rw [f _ (by omega)]), h.n⟩
theorem GC.desk (h : GC S μ x l t X) (f : FR (x + 37) μ μ') (hD : D7 S μ' (x + 37) X') : GC S μ' x l t X' := GC.mk ⟨h.P.upD f.D, ⟨by rw [f _ (by omega)]; exact h.T.1, by rw [f _ (by omega)]; exact h.T.2.1, by rw [f _ (by omega)]; exact h.T.2.2⟩, ⟨by rw [f _ (by omega)]; exact h.c.1, by rw [f _ (by omega)]; exact h.c.2⟩, hD⟩
theorem GC.rd {b : Int} (h : GC S μ x l t X) (f : FP4 x μ μ') (hr : RC μ' x b (.inr t')) : GC S μ' x l t' X := GC.mk ⟨h.P.up4 f, hr.2.1, hr.2.2, f.d7 h.D⟩
theorem GC.go (h : GC S μ x l t X) (ht : TOk l t) : ∃ μ', f_X4_next (x + 62) (S, μ) = some (.inl 0, (S, μ')) ∧ GC S μ' x l (ztk l t.2.2) X ∧ FP4 x μ μ' := by
  obtain ⟨μ1, e1, h1, f1⟩ := c_go h.P ht h.T h.c
  exact ⟨μ1, e1, h.rd f1.p h1, f1.p⟩
theorem GC.er (h : GC S μ x l t X) (c : Int) : ∃ μ', f_X4_fail (x + 62) c (S, μ) = some (.inl 0, (S, μ')) ∧ OC S x l μ' 0 (.inl (c, t.2.1)) ∧ FP4 x μ μ' := by
  obtain ⟨μ1, e1, h1, h2, f1⟩ := c_fail (c := c) h.P h.T
  exact ⟨μ1, e1, ⟨rfl, h1, h2, X, f1.d7 h.D⟩, f1⟩
theorem c_end (h : GC S μ x l t X) (ht : TOk l t) : zo (zob 4 (x + 62) (S, μ) (zbn (f_X4_readSemicolon (x + 62) (S, μ)) fun x7 τ8 => if x7 = 0 ∨ x7 = 1 then some (.inl x7, τ8) else none)) (fun r => ∃ b μ', r = (.inl b, (S, μ')) ∧ (OC S x l μ' b (pEnd l X t) ∧ FPD x μ μ')) := by
  obtain ⟨b, μ1, e1, h1, f1⟩ := c_readSemicolon h.P ht h.T h.c
  refine zo_ob h.P.o (by omega) ?_
  refine zo_bn e1 ?_
  unfold pEnd
  cases hp : pSemi l t with
  | inl e =>
    rw [hp] at h1
    refine zo_pos (Or.inl h1.1) ?_
    exact zo_rt ⟨b, μ1, rfl, ⟨h1.1, h1.2.1, h1.2.2, X, f1.d7 h.D⟩, f1.D⟩
  | inr t2 =>
    rw [hp] at h1
    refine zo_pos (Or.inr h1.1) ?_
    exact zo_rt ⟨b, μ1, rfl, ⟨h1.1, h.rd f1 h1⟩, f1.D⟩
theorem c_nmc (h : GC S μ x l t X) (ht : TOk l t) (hN : zisN l t) : f_X0_nameCode (x + 1) (t.2.1 : Int) (t.2.2 : Int) (S, μ) = some (.inl (zcode 32 (znm (zsg l t))), (S, μ)) := by
  have hz := isN_ok ht h.P.L.g hN
  have hn := h.P.n
  rw [c_nameCode h.P.B h.P.L (by omega) (by decide) ⟨ht.se, ht.el⟩]
  rw [if_pos (show zisn ((l.drop t.2.1).take (t.2.2 - t.2.1)) from hz)]
  rfl
theorem c_isNameOf (ag : Bool) (h : GC S μ x l t X) (ht : TOk l t) (W : WF B X) : ∃ b μ', f_X4_isNameOf (x + 62) (x + 37 + znof ag) (S, μ) = some (.inl b, (S, μ')) ∧ (RT μ' x t b (pTold l (X.nms ag) t) ∧ FP4 x μ μ') := by
  have P := h.P
  refine zo_xb ?_
  refine j_X4_isNameOf ?_
  refine zo_ob P.o (by omega) ?_
  refine zo_bn (c_isName P ht h.T) ?_
  refine zo_zb (fun z => ?_) (fun z => ?_)
  · have ep : pTold l (X.nms ag) t = .inl (1, t.2.1) := if_neg z
    obtain ⟨μ1, e1, h1, h2, f1⟩ := c_fail (c := 1) P h.T
    rw [ep]
    refine zo_ob P.o (by omega) ?_
    refine zo_bn e1 ?_
    refine zo_pos (Or.inl rfl) ?_
    exact zo_rt ⟨0, μ1, rfl, ⟨rfl, h1, h2⟩, f1⟩
  · have hok := zisn_ok (isN_ok ht P.L.g z)
    have hS := h.D.nmS ag
    refine zo_gr P.o P.r0 (by omega) (by omega) ?_
    refine zo_gf P.o h.T.2.1 (by omega) (by omega) ?_
    refine zo_gf P.o h.T.2.2 (by omega) (by omega) ?_
    refine zo_ob P.B.o (by omega) ?_
    refine zo_bn (c_nmc h ht z) ?_
    refine zo_ob hS.o (by omega) ?_
    refine zo_bn (c_nfind hS (h.D.nmL ag) (W.nm ag) hok) ?_
    refine zo_pf 5 P.o (by omega) (by omega) ?_
    have f5 : FP4 x μ (zup μ (x + 62) 5 (zni (znm (zsg l t)) (X.nms ag) 0)) := FP4.u
    have T5 : TC (zup μ (x + 62) 5 (zni (znm (zsg l t)) (X.nms ag) 0)) x t := ⟨by rw [zup_j (by decide)]; exact h.T.1, by rw [zup_j (by decide)]; exact h.T.2.1, by rw [zup_j (by decide)]; exact h.T.2.2⟩
    refine zo_gf P.o zup_at (by omega) (by omega) ?_
    by_cases y : zni (znm (zsg l t)) (X.nms ag) 0 = -1
    · have ep : pTold l (X.nms ag) t = .inl (3, t.2.1) := (if_pos z).trans (if_pos y)
      obtain ⟨μ1, e1, h1, h2, f1⟩ := c_fail (c := 3) (P.up4 f5) T5
      rw [ep]
      refine zo_pos y ?_
      refine zo_ob P.o (by omega) ?_
      refine zo_bn e1 ?_
      refine zo_pos rfl ?_
      exact zo_rt ⟨0, μ1, rfl, ⟨rfl, h1, h2⟩, FP4.tr f5 f1⟩
    · have ep : pTold l (X.nms ag) t = .inr (zni (znm (zsg l t)) (X.nms ag) 0) := (if_pos z).trans (if_neg y)
      rw [ep]
      refine zo_neg y ?_
      exact zo_rt ⟨1, _, rfl, ⟨rfl, zup_at, T5, by rw [zup_j (by decide)]; exact h.c.1, by rw [zup_j (by decide)]; exact h.c.2⟩, f5⟩
theorem c_readNewName (ag : Bool) (h : GC S μ x l t X) (ht : TOk l t) (W : WF B X) : ∃ b μ', f_X4_readNewName (x + 62) (x + 37 + znof ag) (S, μ) = some (.inl b, (S, μ')) ∧ (OC S x l μ' b (pNew l ag X t) ∧ FPD x μ μ') := by
  have P := h.P
  have hS := h.D.nmS ag
  have hL := h.D.nmL ag
  have hLn := hL.n
  have k1 := tk_ok (l := l) ht.el
  have k2 := tk_ok (l := l) k1.1.el
  refine zo_xb ?_
  refine j_X4_readNewName ?_
  refine zo_gf hS.o hL.c (by omega) (by omega) ?_
  by_cases h6 : (X.nms ag).length = 6
  · have ep : pNew l ag X t = .inl (4, t.2.1) := if_pos h6
    obtain ⟨μ1, e1, h1, f1⟩ := h.er 4
    rw [ep]
    refine zo_neg (by omega) ?_
    refine zo_ob P.o (by omega) ?_
    refine zo_bn e1 ?_
    refine zo_pos (Or.inl rfl) ?_
    exact zo_rt ⟨0, μ1, rfl, h1, f1.D⟩
  · obtain ⟨μ1, e1, g1, f1⟩ := h.go ht
    refine zo_pos (by omega) ?_
    refine zo_ob P.o (by omega) ?_
    refine zo_bn e1 ?_
    refine zo_ob P.o (by omega) ?_
    refine zo_bn (c_isName g1.P k1.1 g1.T) ?_
    refine zo_zb (fun z => ?_) (fun z => ?_)
    · have ep : pNew l ag X t = .inl (1, (ztk l t.2.2).2.1) := (if_neg h6).trans (if_neg z)
      obtain ⟨μ2, e2, h2, f2⟩ := g1.er 1
      rw [ep]
      refine zo_ob P.o (by omega) ?_
      refine zo_bn e2 ?_
      refine zo_pos (Or.inl rfl) ?_
      exact zo_rt ⟨0, μ2, rfl, h2, (FP4.tr f1 f2).D⟩
    · have hok := zisn_ok (isN_ok k1.1 P.L.g z)
      refine zo_gr P.o P.r0 (by omega) (by omega) ?_
      refine zo_gf P.o g1.T.2.1 (by omega) (by omega) ?_
      refine zo_gf P.o g1.T.2.2 (by omega) (by omega) ?_
      refine zo_ob P.B.o (by omega) ?_
      refine zo_bn (c_nmc g1 k1.1 z) ?_
      refine zo_ob hS.o (by omega) ?_
      refine zo_bn (c_nfind hS (g1.D.nmL ag) (W.nm ag) hok) ?_
      by_cases y : zni (znm (zsg l (ztk l t.2.2))) (X.nms ag) 0 = -1
      · have ep : pNew l ag X t = pEnd l (X.ads (znm (zsg l (ztk l t.2.2))) ag) (ztk l (ztk l t.2.2).2.2) := (if_neg h6).trans ((if_pos z).trans (if_pos y))
        obtain ⟨μ2, e2, h2, f2⟩ := c_nadd (nm := znm (zsg l (ztk l t.2.2))) hS (g1.D.nmL ag) (by omega)
        have ha : 2 ≤ znof ag ∧ znof ag ≤ 4 := by cases ag <;> decide
        have fR : FR (x + 37) μ1 μ2 := fun y hy => f2 y (by omega) (by omega)
        have g2 : GC S μ2 x l (ztk l t.2.2) (X.ads (znm (zsg l (ztk l t.2.2))) ag) := g1.desk fR (D7.add ag g1.D h2 f2)
        obtain ⟨μ3, e3, g3, f3⟩ := g2.go k1.1
        rw [ep]
        refine zo_pos y ?_
        refine zo_ob hS.o (by omega) ?_
        refine zo_bn e2 ?_
        refine zo_ob P.o (by omega) ?_
        refine zo_bn e3 ?_
        refine zo_mono (c_end g3 k2.1) ?_
        rintro r ⟨b, μ4, hr, h4, f4⟩
        exact ⟨b, μ4, hr, h4, FPD.tr (FPD.tr (FPD.tr f1.D fR.D) f3.D) f4⟩
      · have ep : pNew l ag X t = .inl (3, (ztk l t.2.2).2.1) := (if_neg h6).trans ((if_pos z).trans (if_neg y))
        obtain ⟨μ2, e2, h2, f2⟩ := g1.er 3
        rw [ep]
        refine zo_neg y ?_
        refine zo_ob P.o (by omega) ?_
        refine zo_bn e2 ?_
        refine zo_pos (Or.inl rfl) ?_
        exact zo_rt ⟨0, μ2, rfl, h2, (FP4.tr f1 f2).D⟩
theorem GC.told {i b : Int} (h : GC S μ x l t X) (f : FP4 x μ μ') (hr : RT μ' x t b (.inr i)) : GC S μ' x l t X ∧ μ' (x + 62) 5 = i := ⟨GC.mk ⟨h.P.up4 f, hr.2.2.1, hr.2.2.2, f.d7 h.D⟩, hr.2.1⟩
theorem c_lnk {i j v : Int} (h : GC S μ x l t X) (ht : TOk l t) (hi : 0 ≤ i ∧ i < 6) (hj : 0 ≤ j ∧ j < 6) : zo (f_X4_readLink_109 (x + 62) i j v (S, μ)) (fun r => ∃ b μ', r = (.inl b, (S, μ')) ∧ (OC S x l μ' b (pLnk l X i j v t) ∧ FPD x μ μ')) := by
  have P := h.P
  refine j_X4_readLink_109 ?_
  refine zo_gr P.o P.r1 (by omega) (by omega) ?_
  refine zo_ob h.D.sh.o (by omega) ?_
  obtain ⟨μ1, e1, h1, f1⟩ := d_putTrust h.D (i := i) (j := j) (v := v) hi hj
  refine zo_bn e1 ?_
  refine zo_gr P.o P.r1 (by omega) (by omega) ?_
  refine zo_ob h.D.sh.o (by omega) ?_
  obtain ⟨μ2, e2, h2, f2⟩ := d_putTrust h1 (i := j) (j := i) (v := v) hj hi
  refine zo_bn e2 ?_
  have fR := FR.tr f1 f2
  refine zo_mono (c_end (h.desk fR h2) ht) ?_
  rintro r ⟨b, μ3, hr, h3, f3⟩
  exact ⟨b, μ3, hr, h3, FPD.tr fR.D f3⟩
theorem c_readLink (h : GC S μ x l t X) (ht : TOk l t) (W : WF B X) : ∃ b μ', f_X4_readLink (x + 62) (S, μ) = some (.inl b, (S, μ')) ∧ (OC S x l μ' b (pLink l X t) ∧ FPD x μ μ') := by
  have P := h.P
  have W60 := W.al
  have k1 := tk_ok (l := l) ht.el
  have k2 := tk_ok (l := l) k1.1.el
  have k3 := tk_ok (l := l) k2.1.el
  have k4 := tk_ok (l := l) k3.1.el
  refine zo_xb ?_
  refine j_X4_readLink ?_
  obtain ⟨μ1, e1, g1, f1⟩ := h.go ht
  refine zo_ob P.o (by omega) ?_
  refine zo_bn e1 ?_
  refine zo_gr P.o P.r1 (by omega) (by omega) ?_
  refine zo_gr g1.D.sh.o g1.D.sh.r1 (by omega) (by omega) ?_
  obtain ⟨b2, μ2, e2, h2, f2⟩ := c_isNameOf true g1 k1.1 W
  refine zo_ob P.o (by omega) ?_
  refine zo_bn e2 ?_
  unfold pLink
  have en : X.nms true = X.an := rfl
  rw [en] at h2
  cases hp : pTold l X.an (ztk l t.2.2) with
  | inl e =>
    rw [hp] at h2
    refine zo_pos h2.1 ?_
    exact zo_rt ⟨0, μ2, rfl, ⟨rfl, h2.2.1, h2.2.2, X, f2.d7 g1.D⟩, (FP4.tr f1 f2).D⟩
  | inr i =>
    rw [hp] at h2
    have hi := (told_inv hp).2.2
    obtain ⟨g2, v2⟩ := g1.told f2 h2
    refine zo_neg (by rw [h2.1]; decide) ?_
    refine zo_gf P.o v2 (by omega) (by omega) ?_
    obtain ⟨μ3, e3, g3, f3⟩ := g2.go k1.1
    refine zo_ob P.o (by omega) ?_
    refine zo_bn e3 ?_
    refine zo_gr P.o P.r1 (by omega) (by omega) ?_
    refine zo_gr g3.D.sh.o g3.D.sh.r1 (by omega) (by omega) ?_
    obtain ⟨b4, μ4, e4, h4, f4⟩ := c_isNameOf true g3 k2.1 W
    refine zo_ob P.o (by omega) ?_
    refine zo_bn e4 ?_
    rw [en] at h4
    show zo _ (fun r => ∃ b μ', r = (.inl b, (S, μ')) ∧ (OC S x l μ' b (pBnd (pTold l X.an (ztk l (ztk l t.2.2).2.2)) fun j => if j = i ∨ ¬ X.T i j = -1 then .inl (3, (ztk l (ztk l t.2.2).2.2).2.1) else pLnT l X i j (ztk l (ztk l (ztk l t.2.2).2.2).2.2)) ∧ FPD x μ μ'))
    have F4 := FPD.tr (FP4.tr (FP4.tr f1 f2) f3).D f4.D
    cases hp2 : pTold l X.an (ztk l (ztk l t.2.2).2.2) with
    | inl e =>
      rw [hp2] at h4
      refine zo_pos h4.1 ?_
      exact zo_rt ⟨0, μ4, rfl, ⟨rfl, h4.2.1, h4.2.2, X, f4.d7 g3.D⟩, F4⟩
    | inr j =>
      rw [hp2] at h4
      have hj := (told_inv hp2).2.2
      obtain ⟨g4, v4⟩ := g3.told f4 h4
      refine zo_neg (by rw [h4.1]; decide) ?_
      refine zo_gf P.o v4 (by omega) (by omega) ?_
      show zo _ (fun r => ∃ b μ', r = (.inl b, (S, μ')) ∧ (OC S x l μ' b (if j = i ∨ ¬ X.T i j = -1 then .inl (3, (ztk l (ztk l t.2.2).2.2).2.1) else pLnT l X i j (ztk l (ztk l (ztk l t.2.2).2.2).2.2)) ∧ FPD x μ μ'))
      have bad : (j = i ∨ ¬ X.T i j = -1) → zo (f_X4_readLink_67 (x + 62) (S, μ4)) (fun r => ∃ b μ', r = (.inl b, (S, μ')) ∧ (OC S x l μ' b (if j = i ∨ ¬ X.T i j = -1 then .inl (3, (ztk l (ztk l t.2.2).2.2).2.1) else pLnT l X i j (ztk l (ztk l (ztk l t.2.2).2.2).2.2)) ∧ FPD x μ μ')) := by
        intro z
        have ep : (if j = i ∨ ¬ X.T i j = -1 then (.inl (3, (ztk l (ztk l t.2.2).2.2).2.1) : zPr) else pLnT l X i j (ztk l (ztk l (ztk l t.2.2).2.2).2.2)) = .inl (3, (ztk l (ztk l t.2.2).2.2).2.1) := if_pos z
        rw [ep]
        obtain ⟨μ5, e5, h5, f5⟩ := g4.er 3
        refine j_X4_readLink_67 ?_
        refine zo_ob P.o (by omega) ?_
        refine zo_bn e5 ?_
        refine zo_pos (Or.inl rfl) ?_
        exact zo_rt ⟨0, μ5, rfl, h5, FPD.tr F4 f5.D⟩
      refine zo_ite (fun z => bad (Or.inl z)) (fun z => ?_)
      refine zo_gr P.o P.r1 (by omega) (by omega) ?_
      refine zo_ob g4.D.sh.o (by omega) ?_
      refine zo_bn (d_isLinked g4.D (by omega) (by omega)) ?_
      refine zo_zb (fun y => ?_) (fun y => bad (Or.inr y))
      have ep : (if j = i ∨ ¬ X.T i j = -1 then (.inl (3, (ztk l (ztk l t.2.2).2.2).2.1) : zPr) else pLnT l X i j (ztk l (ztk l (ztk l t.2.2).2.2).2.2)) = pLnT l X i j (ztk l (ztk l (ztk l t.2.2).2.2).2.2) := if_neg (fun u => u.elim z y)
      rw [ep]
      obtain ⟨μ5, e5, g5, f5⟩ := g4.go k2.1
      have F5 := FPD.tr F4 f5.D
      refine zo_ob P.o (by omega) ?_
      refine zo_bn e5 ?_
      refine zo_ob P.o (by omega) ?_
      refine zo_bn (c_isWord (i := 9) g5.P k3.1 g5.T (by decide)) ?_
      refine zo_zb (fun u => ?_) (fun u => ?_)
      · have eq : pLnT l X i j (ztk l (ztk l (ztk l t.2.2).2.2).2.2) = pLnk l X i j 5 (ztk l (ztk l (ztk l t.2.2).2.2).2.2) := if_neg u
        rw [eq]
        refine zo_mono (c_lnk (v := 5) g5 k3.1 (by omega) (by omega)) ?_
        rintro r ⟨b, μ6, hr, h6, f6⟩
        exact ⟨b, μ6, hr, h6, FPD.tr F5 f6⟩
      · have eq : pLnT l X i j (ztk l (ztk l (ztk l t.2.2).2.2).2.2) = pBnd (pNum l 0 10 (ztk l (ztk l (ztk l (ztk l t.2.2).2.2).2.2).2.2)) fun t5 => pLnk l X i j (znv (zsg l (ztk l (ztk l (ztk l (ztk l t.2.2).2.2).2.2).2.2))) t5 := if_pos u
        rw [eq]
        obtain ⟨μ6, e6, g6, f6⟩ := g5.go k3.1
        refine zo_ob P.o (by omega) ?_
        refine zo_bn e6 ?_
        obtain ⟨b7, μ7, e7, h7, f7, v7⟩ := c_readNumber (lo := 0) (hi := 10) g6.P k4.1 g6.T g6.c (by decide) (by decide)
        have F7 := FPD.tr (FPD.tr F5 f6.D) f7.D
        refine zo_ob P.o (by omega) ?_
        refine zo_bn e7 ?_
        cases hp3 : pNum l 0 10 (ztk l (ztk l (ztk l (ztk l t.2.2).2.2).2.2).2.2) with
        | inl e =>
          rw [hp3] at h7
          refine zo_pos h7.1 ?_
          exact zo_rt ⟨0, μ7, rfl, ⟨rfl, h7.2.1, h7.2.2, X, f7.d7 g6.D⟩, F7⟩
        | inr t5 =>
          rw [hp3] at h7
          have i5 := num_inv k4.1 hp3
          refine zo_neg (by rw [h7.1]; decide) ?_
          refine zo_gf P.o (v7 h7.1).1 (by omega) (by omega) ?_
          refine zo_mono (c_lnk (v := znv (zsg l (ztk l (ztk l (ztk l (ztk l t.2.2).2.2).2.2).2.2))) (g6.rd f7 h7) i5.2.1 (by omega) (by omega)) ?_
          rintro r ⟨b, μ8, hr, h8, f8⟩
          exact ⟨b, μ8, hr, h8, FPD.tr F7 f8⟩
theorem c_readProbe (h : GC S μ x l t X) (ht : TOk l t) (W : WF B X) : ∃ b μ', f_X4_readProbe (x + 62) (S, μ) = some (.inl b, (S, μ')) ∧ (OC S x l μ' b (pProbe l X t) ∧ FPD x μ μ') := by
  have P := h.P
  have k1 := tk_ok (l := l) ht.el
  have k2 := tk_ok (l := l) k1.1.el
  have k3 := tk_ok (l := l) k2.1.el
  refine zo_xb ?_
  refine j_X4_readProbe ?_
  obtain ⟨μ1, e1, g1, f1⟩ := h.go ht
  refine zo_ob P.o (by omega) ?_
  refine zo_bn e1 ?_
  refine zo_gr P.o P.r1 (by omega) (by omega) ?_
  refine zo_gr g1.D.sh.o g1.D.sh.r1 (by omega) (by omega) ?_
  obtain ⟨b2, μ2, e2, h2, f2⟩ := c_isNameOf true g1 k1.1 W
  refine zo_ob P.o (by omega) ?_
  refine zo_bn e2 ?_
  unfold pProbe
  have en : X.nms true = X.an := rfl
  have ew : X.nms false = X.wn := rfl
  rw [en] at h2
  cases hp : pTold l X.an (ztk l t.2.2) with
  | inl e =>
    rw [hp] at h2
    refine zo_pos h2.1 ?_
    exact zo_rt ⟨0, μ2, rfl, ⟨rfl, h2.2.1, h2.2.2, X, f2.d7 g1.D⟩, (FP4.tr f1 f2).D⟩
  | inr i =>
    rw [hp] at h2
    have hi := (told_inv hp).2.2
    obtain ⟨g2, v2⟩ := g1.told f2 h2
    refine zo_neg (by rw [h2.1]; decide) ?_
    refine zo_gf P.o v2 (by omega) (by omega) ?_
    obtain ⟨μ3, e3, g3, f3⟩ := g2.go k1.1
    refine zo_ob P.o (by omega) ?_
    refine zo_bn e3 ?_
    refine zo_gr P.o P.r1 (by omega) (by omega) ?_
    refine zo_gr g3.D.sh.o g3.D.sh.r2 (by omega) (by omega) ?_
    obtain ⟨b4, μ4, e4, h4, f4⟩ := c_isNameOf false g3 k2.1 W
    refine zo_ob P.o (by omega) ?_
    refine zo_bn e4 ?_
    rw [ew] at h4
    show zo _ (fun r => ∃ b μ', r = (.inl b, (S, μ')) ∧ (OC S x l μ' b (pBnd (pTold l X.wn (ztk l (ztk l t.2.2).2.2)) fun w => pPrN l X i w (ztk l (ztk l (ztk l t.2.2).2.2).2.2)) ∧ FPD x μ μ'))
    have F4 := FPD.tr (FP4.tr (FP4.tr f1 f2) f3).D f4.D
    cases hp2 : pTold l X.wn (ztk l (ztk l t.2.2).2.2) with
    | inl e =>
      rw [hp2] at h4
      refine zo_pos h4.1 ?_
      exact zo_rt ⟨0, μ4, rfl, ⟨rfl, h4.2.1, h4.2.2, X, f4.d7 g3.D⟩, F4⟩
    | inr w =>
      rw [hp2] at h4
      have hw := (told_inv hp2).2.2
      obtain ⟨g4, v4⟩ := g3.told f4 h4
      refine zo_neg (by rw [h4.1]; decide) ?_
      refine zo_gf P.o v4 (by omega) (by omega) ?_
      obtain ⟨μ5, e5, g5, f5⟩ := g4.go k2.1
      refine zo_ob P.o (by omega) ?_
      refine zo_bn e5 ?_
      have F5 := FPD.tr F4 f5.D
      show zo _ (fun r => ∃ b μ', r = (.inl b, (S, μ')) ∧ (OC S x l μ' b (pPrN l X i w (ztk l (ztk l (ztk l t.2.2).2.2).2.2)) ∧ FPD x μ μ'))
      generalize ztk l (ztk l (ztk l t.2.2).2.2).2.2 = t3 at *
      unfold pPrN
      obtain ⟨b6, μ6, e6, h6, f6, v6⟩ := c_readNumber (lo := 0) (hi := 999) g5.P k3.1 g5.T g5.c (by decide) (by decide)
      have F6 := FPD.tr F5 f6.D
      refine zo_ob P.o (by omega) ?_
      refine zo_bn e6 ?_
      cases hp3 : pNum l 0 999 t3 with
      | inl e =>
        rw [hp3] at h6
        refine zo_pos h6.1 ?_
        exact zo_rt ⟨0, μ6, rfl, ⟨rfl, h6.2.1, h6.2.2, X, f6.d7 g5.D⟩, F6⟩
      | inr t4 =>
        rw [hp3] at h6
        have i4 := num_inv k3.1 hp3
        have g6 := g5.rd f6 h6
        refine zo_neg (by rw [h6.1]; decide) ?_
        refine zo_gf P.o (v6 h6.1).1 (by omega) (by omega) ?_
        obtain ⟨b7, μ7, e7, h7, f7, v7⟩ := c_readNumber (lo := znv (zsg l t3)) (hi := 999) g6.P i4.2.1 g6.T g6.c i4.1.1 (by decide)
        have F7 := FPD.tr F6 f7.D
        refine zo_ob P.o (by omega) ?_
        refine zo_bn e7 ?_
        show zo _ (fun r => ∃ b μ', r = (.inl b, (S, μ')) ∧ (OC S x l μ' b (pBnd (pNum l (znv (zsg l t3)) 999 t4) fun t5 => pEnd l (X.prb i w (znv (zsg l t3)) (znv (zsg l t4))).1 t5) ∧ FPD x μ μ'))
        cases hp4 : pNum l (znv (zsg l t3)) 999 t4 with
        | inl e =>
          rw [hp4] at h7
          refine zo_pos h7.1 ?_
          exact zo_rt ⟨0, μ7, rfl, ⟨rfl, h7.2.1, h7.2.2, X, f7.d7 g6.D⟩, F7⟩
        | inr t5 =>
          rw [hp4] at h7
          have i5 := num_inv i4.2.1 hp4
          have g7 := g6.rd f7 h7
          refine zo_neg (by rw [h7.1]; decide) ?_
          refine zo_gr P.o P.r1 (by omega) (by omega) ?_
          refine zo_gf P.o (v7 h7.1).1 (by omega) (by omega) ?_
          obtain ⟨μ8, e8, h8, f8⟩ := d_makeProbe g7.D W (a := i) (w9 := w) (lo := znv (zsg l t3)) (hi := znv (zsg l t4)) ⟨hi.1, hi.2⟩ ⟨hw.1, hw.2⟩ ⟨i4.1.1, i5.1.1, i5.1.2⟩
          refine zo_ob g7.D.sh.o (by omega) ?_
          refine zo_bn e8 ?_
          refine zo_mono (c_end (g7.desk f8 h8) i5.2.1) ?_
          rintro r ⟨b, μ9, hr, h9, f9⟩
          exact ⟨b, μ9, hr, h9, FPD.tr (FPD.tr F7 f8.D) f9⟩
theorem c_readRule {i : Nat} {f : Int → Int} (hi : i < 5) (h : GC S μ x l t (zD0.wru f)) (ht : TOk l t) : ∃ b μ', f_X4_readRule (x + 62) ((i + 1 : Nat) : Int) (i : Int) (S, μ) = some (.inl b, (S, μ')) ∧ (OC S x l μ' b (pBnd (pRul l i (t, f)) fun z => .inr (z.1, zD0.wru z.2)) ∧ FPD x μ μ') := by
  have P := h.P
  have hz : 0 ≤ zsv 0 (i : Int) ∧ zsv 1 (i : Int) ≤ 999 := by
    have hc : i = 0 ∨ i = 1 ∨ i = 2 ∨ i = 3 ∨ i = 4 := by omega
    rcases hc with z | z | z | z | z <;> subst z <;> decide
  refine zo_xb ?_
  refine j_X4_readRule ?_
  refine zo_neg (by omega) ?_
  refine zo_pos (by omega) ?_
  obtain ⟨b1, μ1, e1, h1, f1⟩ := c_readWord (i := i + 1) P ht h.T h.c (by omega)
  refine zo_ob P.o (by omega) ?_
  refine zo_bn e1 ?_
  unfold pRul
  cases hp : pWord l (i + 1) t with
  | inl e =>
    rw [hp] at h1
    refine zo_pos h1.1 ?_
    exact zo_rt ⟨0, μ1, rfl, ⟨rfl, h1.2.1, h1.2.2, _, f1.d7 h.D⟩, f1.D⟩
  | inr t1 =>
    rw [hp] at h1
    have i1 := word_inv ht hp
    have g1 := h.rd f1 h1
    refine zo_neg (by rw [h1.1]; decide) ?_
    refine zo_sa (by omega) ?_
    refine zo_sa (by omega) ?_
    obtain ⟨b2, μ2, e2, h2, f2, v2⟩ := c_readNumber (lo := zsv 0 (i : Int)) (hi := zsv 1 (i : Int)) g1.P i1.2.1 g1.T g1.c hz.1 hz.2
    refine zo_ob P.o (by omega) ?_
    refine zo_bn e2 ?_
    show zo _ (fun r => ∃ b μ', r = (.inl b, (S, μ')) ∧ (OC S x l μ' b (pBnd (pBnd (pNum l (zsv 0 (i : Int)) (zsv 1 (i : Int)) t1) fun t2 => .inr (t2, zup1 f (i : Int) (znv (zsg l t1)))) fun z => .inr (z.1, zD0.wru z.2)) ∧ FPD x μ μ'))
    cases hp2 : pNum l (zsv 0 (i : Int)) (zsv 1 (i : Int)) t1 with
    | inl e =>
      rw [hp2] at h2
      refine zo_pos h2.1 ?_
      exact zo_rt ⟨0, μ2, rfl, ⟨rfl, h2.2.1, h2.2.2, _, f2.d7 g1.D⟩, (FP4.tr f1 f2).D⟩
    | inr t2 =>
      rw [hp2] at h2
      have g2 := g1.rd f2 h2
      refine zo_neg (by rw [h2.1]; decide) ?_
      refine zo_gr P.o P.r1 (by omega) (by omega) ?_
      refine zo_gf P.o (v2 h2.1).1 (by omega) (by omega) ?_
      obtain ⟨μ3, e3, h3, f3⟩ := d_putRule g2.D (i := (i : Int)) (v := znv (zsg l t1)) (by omega)
      refine zo_ob g2.D.sh.o (by omega) ?_
      refine zo_bn e3 ?_
      exact zo_rt ⟨1, μ3, rfl, ⟨rfl, g2.desk f3 h3⟩, FPD.tr (FP4.tr f1 f2).D f3.D⟩
set_option maxHeartbeats 1000000 in
theorem c_readRules (h : GC S μ x l t zD0) (ht : TOk l t) (hB : (0 : Int) ≤ B ∧ B ≤ 1000000) : ∃ b μ', f_X4_readRules (x + 62) (S, μ) = some (.inl b, (S, μ')) ∧ (OC S x l μ' b (pRules l t) ∧ FPD x μ μ') := by
  have P := h.P
  refine zo_xb ?_
  refine j_X4_readRules ?_
  obtain ⟨b0, μ0, e0, h0, f0⟩ := c_readWord (i := 0) P ht h.T h.c (by decide)
  refine zo_ob P.o (by omega) ?_
  refine zo_bn e0 ?_
  unfold pRules
  cases hp : pWord l 0 t with
  | inl e =>
    rw [hp] at h0
    refine zo_pos h0.1 ?_
    exact zo_rt ⟨0, μ0, rfl, ⟨rfl, h0.2.1, h0.2.2, _, f0.d7 h.D⟩, f0.D⟩
  | inr t0 =>
    rw [hp] at h0
    have j0 := (word_inv ht hp).2.1
    have w0 : WF B (zD0.wru zD0.ru) := wf0 hB.1 hB.2
    have g0 : GC S μ0 x l t0 (zD0.wru zD0.ru) := h.rd f0 h0
    have F0 : FPD x μ μ0 := f0.D
    refine zo_neg (by rw [h0.1]; decide) ?_
    obtain ⟨z0, hz0⟩ : ∃ z : zTk × (Int → Int), z = (t0, zD0.ru) := ⟨_, rfl⟩
    show zo _ (fun r => ∃ b μ', r = (.inl b, (S, μ')) ∧ (OC S x l μ' b (pBnd (pRul l 0 (t0, zD0.ru)) fun z1 => pBnd (pRul l 1 z1) fun z2 => pBnd (pRul l 2 z2) fun z3 => pBnd (pRul l 3 z3) fun z4 => pBnd (pRul l 4 z4) fun z5 => pEnd l (zD0.wru z5.2) z5.1) ∧ FPD x μ μ'))
    rw [← hz0]
    have j0 : TOk l z0.1 := by rw [hz0]; exact j0
    have w0 : WF B (zD0.wru z0.2) := by rw [hz0]; exact w0
    have g0 : GC S μ0 x l z0.1 (zD0.wru z0.2) := by rw [hz0]; exact g0
    clear hz0
    obtain ⟨b1, μ1, e1, h1, f1⟩ := c_readRule (i := 0) (by decide) g0 j0
    refine zo_ob P.o (by omega) ?_
    refine zo_bn e1 ?_
    have F1 := FPD.tr F0 f1
    have ez0 : ((z0.1, z0.2) : zTk × (Int → Int)) = z0 := rfl
    rw [ez0] at h1
    cases hp1 : pRul l 0 z0 with
    | inl e =>
      rw [hp1] at h1
      refine zo_pos h1.1 ?_
      exact zo_rt ⟨0, μ1, rfl, ⟨rfl, h1.2.1, h1.2.2.1, h1.2.2.2⟩, F1⟩
    | inr z1 =>
      rw [hp1] at h1
      obtain ⟨j1, w1⟩ := rul_inv (B := B) (by decide) j0 w0 hp1
      have g1 : GC S μ1 x l z1.1 (zD0.wru z1.2) := h1.2
      refine zo_neg (by rw [h1.1]; decide) ?_
      show zo _ (fun r => ∃ b μ', r = (.inl b, (S, μ')) ∧ (OC S x l μ' b (pBnd (pRul l 1 z1) fun z2 => pBnd (pRul l 2 z2) fun z3 => pBnd (pRul l 3 z3) fun z4 => pBnd (pRul l 4 z4) fun z5 => pEnd l (zD0.wru z5.2) z5.1) ∧ FPD x μ μ'))
      obtain ⟨b2, μ2, e2, h2, f2⟩ := c_readRule (i := 1) (by decide) g1 j1
      refine zo_ob P.o (by omega) ?_
      refine zo_bn e2 ?_
      have F2 := FPD.tr F1 f2
      have ez1 : ((z1.1, z1.2) : zTk × (Int → Int)) = z1 := rfl
      rw [ez1] at h2
      cases hp2 : pRul l 1 z1 with
      | inl e =>
        rw [hp2] at h2
        refine zo_pos h2.1 ?_
        exact zo_rt ⟨0, μ2, rfl, ⟨rfl, h2.2.1, h2.2.2.1, h2.2.2.2⟩, F2⟩
      | inr z2 =>
        rw [hp2] at h2
        obtain ⟨j2, w2⟩ := rul_inv (B := B) (by decide) j1 w1 hp2
        have g2 : GC S μ2 x l z2.1 (zD0.wru z2.2) := h2.2
        refine zo_neg (by rw [h2.1]; decide) ?_
        show zo _ (fun r => ∃ b μ', r = (.inl b, (S, μ')) ∧ (OC S x l μ' b (pBnd (pRul l 2 z2) fun z3 => pBnd (pRul l 3 z3) fun z4 => pBnd (pRul l 4 z4) fun z5 => pEnd l (zD0.wru z5.2) z5.1) ∧ FPD x μ μ'))
        obtain ⟨b3, μ3, e3, h3, f3⟩ := c_readRule (i := 2) (by decide) g2 j2
        refine zo_ob P.o (by omega) ?_
        refine zo_bn e3 ?_
        have F3 := FPD.tr F2 f3
        have ez2 : ((z2.1, z2.2) : zTk × (Int → Int)) = z2 := rfl
        rw [ez2] at h3
        cases hp3 : pRul l 2 z2 with
        | inl e =>
          rw [hp3] at h3
          refine zo_pos h3.1 ?_
          exact zo_rt ⟨0, μ3, rfl, ⟨rfl, h3.2.1, h3.2.2.1, h3.2.2.2⟩, F3⟩
        | inr z3 =>
          rw [hp3] at h3
          obtain ⟨j3, w3⟩ := rul_inv (B := B) (by decide) j2 w2 hp3
          have g3 : GC S μ3 x l z3.1 (zD0.wru z3.2) := h3.2
          refine zo_neg (by rw [h3.1]; decide) ?_
          show zo _ (fun r => ∃ b μ', r = (.inl b, (S, μ')) ∧ (OC S x l μ' b (pBnd (pRul l 3 z3) fun z4 => pBnd (pRul l 4 z4) fun z5 => pEnd l (zD0.wru z5.2) z5.1) ∧ FPD x μ μ'))
          obtain ⟨b4, μ4, e4, h4, f4⟩ := c_readRule (i := 3) (by decide) g3 j3
          refine zo_ob P.o (by omega) ?_
          refine zo_bn e4 ?_
          have F4 := FPD.tr F3 f4
          have ez3 : ((z3.1, z3.2) : zTk × (Int → Int)) = z3 := rfl
          rw [ez3] at h4
          cases hp4 : pRul l 3 z3 with
          | inl e =>
            rw [hp4] at h4
            refine zo_pos h4.1 ?_
            exact zo_rt ⟨0, μ4, rfl, ⟨rfl, h4.2.1, h4.2.2.1, h4.2.2.2⟩, F4⟩
          | inr z4 =>
            rw [hp4] at h4
            obtain ⟨j4, w4⟩ := rul_inv (B := B) (by decide) j3 w3 hp4
            have g4 : GC S μ4 x l z4.1 (zD0.wru z4.2) := h4.2
            refine zo_neg (by rw [h4.1]; decide) ?_
            show zo _ (fun r => ∃ b μ', r = (.inl b, (S, μ')) ∧ (OC S x l μ' b (pBnd (pRul l 4 z4) fun z5 => pEnd l (zD0.wru z5.2) z5.1) ∧ FPD x μ μ'))
            obtain ⟨b5, μ5, e5, h5, f5⟩ := c_readRule (i := 4) (by decide) g4 j4
            refine zo_ob P.o (by omega) ?_
            refine zo_bn e5 ?_
            have F5 := FPD.tr F4 f5
            have ez4 : ((z4.1, z4.2) : zTk × (Int → Int)) = z4 := rfl
            rw [ez4] at h5
            cases hp5 : pRul l 4 z4 with
            | inl e =>
              rw [hp5] at h5
              refine zo_pos h5.1 ?_
              exact zo_rt ⟨0, μ5, rfl, ⟨rfl, h5.2.1, h5.2.2.1, h5.2.2.2⟩, F5⟩
            | inr z5 =>
              rw [hp5] at h5
              obtain ⟨j5, w5⟩ := rul_inv (B := B) (by decide) j4 w4 hp5
              have g5 : GC S μ5 x l z5.1 (zD0.wru z5.2) := h5.2
              refine zo_neg (by rw [h5.1]; decide) ?_
              show zo _ (fun r => ∃ b μ', r = (.inl b, (S, μ')) ∧ (OC S x l μ' b (pEnd l (zD0.wru z5.2) z5.1) ∧ FPD x μ μ'))
              obtain ⟨b6, μ6, e6, h6, f6⟩ := c_readSemicolon g5.P j5 g5.T g5.c
              refine zo_ob P.o (by omega) ?_
              refine zo_bn e6 ?_
              unfold pEnd
              cases hp6 : pSemi l z5.1 with
              | inl e =>
                rw [hp6] at h6
                refine zo_pos h6.1 ?_
                exact zo_rt ⟨0, μ6, rfl, ⟨rfl, h6.2.1, h6.2.2, _, f6.d7 g5.D⟩, FPD.tr F5 f6.D⟩
              | inr t6 =>
                rw [hp6] at h6
                refine zo_neg (by rw [h6.1]; decide) ?_
                exact zo_rt ⟨1, μ6, rfl, ⟨rfl, g5.rd f6 h6⟩, FPD.tr F5 f6.D⟩
theorem c_parse (P : PC S μ x l) (hd : DSh S (x + 37)) (he : μ (x + 45) 1 = 0) (hB : (0 : Int) ≤ B ∧ B ≤ 1000000) : ∃ b μ', f_X4_parse (x + 62) (S, μ) = some (.inl b, (S, μ')) ∧ (OC S x l μ' b (pParse l) ∧ FPD x μ μ') := by
  have hx := P.x0
  have hn := P.n
  have k0 := tk_ok (l := l) (Nat.zero_le l.length)
  refine zo_xb ?_
  refine j_X4_parse ?_
  refine zo_pf 4 P.o (by omega) (by omega) ?_
  refine zo_pf 6 P.o (by omega) (by omega) ?_
  refine zo_pf 7 P.o (by omega) (by omega) ?_
  have f0 : FP4 x μ (zup (zup (zup μ (x + 62) 4 0) (x + 62) 6 0) (x + 62) 7 (-1)) := FP4.tr (FP4.tr FP4.u FP4.u) FP4.u
  have s4 : (zup (zup (zup μ (x + 62) 4 0) (x + 62) 6 0) (x + 62) 7 (-1)) (x + 62) 4 = ((0 : Nat) : Int) := by rw [zup_j (by decide), zup_j (by decide)]; exact zup_at
  have s6 : (zup (zup (zup μ (x + 62) 4 0) (x + 62) 6 0) (x + 62) 7 (-1)) (x + 62) 6 = 0 := by rw [zup_j (by decide)]; exact zup_at
  have s7 : (zup (zup (zup μ (x + 62) 4 0) (x + 62) 6 0) (x + 62) 7 (-1)) (x + 62) 7 = -1 := zup_at
  generalize zup (zup (zup μ (x + 62) 4 0) (x + 62) 6 0) (x + 62) 7 (-1) = μ0 at *
  refine zo_gr P.o P.r1 (by omega) (by omega) ?_
  obtain ⟨μ1, e1, h1, f1⟩ := d_reset (μ := μ0) hd (by omega) (by rw [f0 _ (by omega), show x + 37 + 8 = x + 45 by omega]; exact he)
  refine zo_ob hd.o (by omega) ?_
  refine zo_bn e1 ?_
  have P1 : PC S μ1 x l := (P.up4 f0).upD f1.D
  obtain ⟨μ2, e2, h2, f2⟩ := c_nextTok P1 (Nat.zero_le _) (show μ1 (x + 62) 4 = ((0 : Nat) : Int) by rw [f1 _ (by omega)]; exact s4)
  refine zo_ob P.o (by omega) ?_
  refine zo_bn e2 ?_
  have g2 : GC S μ2 x l (ztk l 0) zD0 := GC.mk ⟨P1.up f2, h2, ⟨by rw [f2.f _ (by decide) (by decide) (by decide), f1 _ (by omega)]; exact s6, by rw [f2.f _ (by decide) (by decide) (by decide), f1 _ (by omega)]; exact s7⟩, f2.p.d7 h1⟩
  have F2 : FPD x μ μ2 := FPD.tr (FPD.tr f0.D f1.D) f2.p.D
  obtain ⟨b3, μ3, e3, h3, f3⟩ := c_readRules g2 k0.1 hB
  have F3 := FPD.tr F2 f3
  refine zo_ob P.o (by omega) ?_
  refine zo_bn e3 ?_
  -- the loop: good, with a token, or ended
  have loop : ∀ (V : zPr) (b i0 : Int) (μ4 : zM), FPD x μ μ4 → i0 = 0 → (OC S x l μ4 b V ∧ (∀ t X, V = .inr (t, X) → True)) → (∀ e, V = .inl e → pParse l = .inl e) → (∀ z, V = .inr z → TOk l z.1 ∧ WF B z.2 ∧ pLoop l 601 z.2 z.1 = pParse l) → zo (f_X4_parse_33 zFU (x + 62) b i0 (S, μ4)) (fun r => ∃ b μ', r = (.inl b, (S, μ')) ∧ (OC S x l μ' b (pParse l) ∧ FPD x μ μ')) := by
    intro V b i0 μ4 F4 hi0 hO hE hG
    subst hi0
    refine zo_l3 (F := fun f (i : Nat) (b : Int) (μ5 : zM) => f_X4_parse_33 f (x + 62) b (i : Int) (S, μ5)) (fun i b μ5 => FPD x μ μ5 ∧ i ≤ 600 ∧ ((∃ e, pParse l = .inl e ∧ OC S x l μ5 b (.inl e)) ∨ (∃ t X g, OC S x l μ5 b (.inr (t, X)) ∧ TOk l t ∧ WF B X ∧ pLoop l g X t = pParse l ∧ l.length - t.2.1 ≤ g ∧ (i ≤ t.2.1)))) (fun i _ _ => 600 - i) ?_ zFU 0 b μ4 ⟨F4, by omega, ?_⟩ (by show 600 - 0 < 1000000; decide)
    · rintro f i b5 μ5 ⟨F5, hi, hor⟩ ih
      refine j_X4_parse_33 ?_
      rcases hor with ⟨e, hp, hO⟩ | ⟨t, X, g, hO, ht, W, hp, hg, hit⟩
      · have hb := hO.1
        have out : zo (if b5 = 0 ∨ b5 = 1 then some (.inl b5, (S, μ5)) else none : zFn) (fun r => ∃ b μ', r = (.inl b, (S, μ')) ∧ (OC S x l μ' b (pParse l) ∧ FPD x μ μ')) := by
          refine zo_pos (Or.inl hb) ?_
          exact zo_rt ⟨b5, μ5, rfl, by rw [hp]; exact hO, F5⟩
        refine zo_ite (fun _ => ?_) (fun _ => out)
        exact zo_pos hb out
      · have hb := hO.1
        have G := hO.2
        dsimp only at G
        have out : t.1 = 0 → zo (if b5 = 0 ∨ b5 = 1 then some (.inl b5, (S, μ5)) else none : zFn) (fun r => ∃ b μ', r = (.inl b, (S, μ')) ∧ (OC S x l μ' b (pParse l) ∧ FPD x μ μ')) := by
          intro z0
          have hv : pLoop l g X t = .inr (t, X) := by
            cases g with
            | zero => rfl
            | succ g => exact if_pos z0
          refine zo_pos (Or.inr hb) ?_
          exact zo_rt ⟨b5, μ5, rfl, by rw [← hp, hv]; exact hO, F5⟩
        refine zo_ite (fun hlt => ?_) (fun hge => out (ht.k0.mpr (by omega)))
        refine zo_neg (by rw [hb]; decide) ?_
        refine zo_gf P.o G.T.1 (by omega) (by omega) ?_
        refine zo_ite (fun z0 => out z0) (fun z0 => ?_)
        have hst : ¬ l.length ≤ t.2.1 := fun z => z0 (ht.k0.mpr z)
        have hkp := ht.kp z0
        obtain ⟨g2, rfl⟩ : ∃ g2, g = g2 + 1 := ⟨g - 1, by omega⟩
        have hpl : pBnd (pStat l X t) (fun z => pLoop l g2 z.2 z.1) = pParse l := by
          rw [← hp]
          exact (if_neg z0).symm
        have step : ∀ (b6 : Int) (μ6 : zM), OC S x l μ6 b6 (pStat l X t) → FPD x μ5 μ6 → zo (f_X4_parse_139 (f_X4_parse_33 f) (x + 62) b6 (i : Int) (S, μ6)) (fun r => ∃ b μ', r = (.inl b, (S, μ')) ∧ (OC S x l μ' b (pParse l) ∧ FPD x μ μ')) := by
          intro b6 μ6 hO6 f6
          refine j_X4_parse_139 ?_
          rw [w32_s (k := i) (by omega)]
          cases hs : pStat l X t with
          | inl e =>
            rw [hs] at hO6 hpl
            exact ih (i + 1) b6 μ6 ⟨FPD.tr F5 f6, by omega, Or.inl ⟨e, hpl.symm, hO6⟩⟩ (by omega)
          | inr z =>
            rw [hs] at hO6 hpl
            obtain ⟨W', ht', hle⟩ := stat_inv P.L.g ht W (show pStat l X t = .inr (z.1, z.2) from hs)
            exact ih (i + 1) b6 μ6 ⟨FPD.tr F5 f6, by omega, Or.inr ⟨z.1, z.2, g2, hO6, ht', W', hpl, by omega, by omega⟩⟩ (by omega)
        refine zo_ob P.o (by omega) ?_
        refine zo_bn (c_isWord (i := 6) G.P ht G.T (by decide)) ?_
        refine zo_zb (fun n6 => ?_) (fun y6 => ?_)
        · refine zo_ob P.o (by omega) ?_
          refine zo_bn (c_isWord (i := 7) G.P ht G.T (by decide)) ?_
          refine zo_zb (fun n7 => ?_) (fun y7 => ?_)
          · refine zo_ob P.o (by omega) ?_
            refine zo_bn (c_isWord (i := 8) G.P ht G.T (by decide)) ?_
            refine zo_zb (fun n8 => ?_) (fun y8 => ?_)
            · refine zo_ob P.o (by omega) ?_
              refine zo_bn (c_isWord (i := 10) G.P ht G.T (by decide)) ?_
              refine zo_zb (fun nA => ?_) (fun yA => ?_)
              · have es : pStat l X t = .inl (1, t.2.1) := (if_neg n6).trans ((if_neg n7).trans ((if_neg n8).trans (if_neg nA)))
                obtain ⟨μ6, e6, h6, f6⟩ := G.er 1
                refine zo_ob P.o (by omega) ?_
                refine zo_bn e6 ?_
                exact step 0 μ6 (by rw [es]; exact h6) f6.D
              · have es : pStat l X t = pProbe l X t := (if_neg n6).trans ((if_neg n7).trans ((if_neg n8).trans (if_pos yA)))
                obtain ⟨b6, μ6, e6, h6, f6⟩ := c_readProbe G ht W
                refine zo_ob P.o (by omega) ?_
                refine zo_bn e6 ?_
                exact step b6 μ6 (by rw [es]; exact h6) f6
            · have es : pStat l X t = pLink l X t := (if_neg n6).trans ((if_neg n7).trans (if_pos y8))
              obtain ⟨b6, μ6, e6, h6, f6⟩ := c_readLink G ht W
              refine zo_ob P.o (by omega) ?_
              refine zo_bn e6 ?_
              exact step b6 μ6 (by rw [es]; exact h6) f6
          · have es : pStat l X t = pNew l false X t := (if_neg n6).trans (if_pos y7)
            obtain ⟨b6, μ6, e6, h6, f6⟩ := c_readNewName false G ht W
            refine zo_gr P.o P.r1 (by omega) (by omega) ?_
            refine zo_gr G.D.sh.o G.D.sh.r2 (by omega) (by omega) ?_
            refine zo_ob P.o (by omega) ?_
            refine zo_bn e6 ?_
            exact step b6 μ6 (by rw [es]; exact h6) f6
        · have es : pStat l X t = pNew l true X t := if_pos y6
          obtain ⟨b6, μ6, e6, h6, f6⟩ := c_readNewName true G ht W
          refine zo_gr P.o P.r1 (by omega) (by omega) ?_
          refine zo_gr G.D.sh.o G.D.sh.r1 (by omega) (by omega) ?_
          refine zo_ob P.o (by omega) ?_
          refine zo_bn e6 ?_
          exact step b6 μ6 (by rw [es]; exact h6) f6
    · cases V with
      | inl e => exact Or.inl ⟨e, hE e rfl, hO.1⟩
      | inr z =>
        obtain ⟨h5, h6, h7⟩ := hG z rfl
        exact Or.inr ⟨z.1, z.2, 601, hO.1, h5, h6, h7, by omega, by omega⟩
  refine loop (pRules l (ztk l 0)) b3 0 μ3 F3 rfl ⟨h3, fun _ _ _ => True.intro⟩ ?_ ?_
  · intro e hr
    unfold pParse
    rw [hr]
    rfl
  · intro z hr
    obtain ⟨h5, h6⟩ := rules_inv hB.1 hB.2 k0.1 (show pRules l (ztk l 0) = .inr (z.1, z.2) from hr)
    refine ⟨h6, h5, ?_⟩
    unfold pParse
    rw [hr]
    rfl
end C81
