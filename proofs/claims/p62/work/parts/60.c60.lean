/-! C 60: the two worlds -/
abbrev zKs : Type := Nat → Option zD
def W7 (S : zG) (μ : zM) (x : Int) (M : zD) (L : List zD) (K : zKs) (inp out : List Int) (c p : Int) : Prop := (CB S x) ∧ (D7 S μ (x + 12) M) ∧ (DSh S (x + 37)) ∧ (μ (x + 45) 1 = 0) ∧ (∃ r, HR7 S μ x (x + 66) r L K) ∧ (BSh S (x + 1) 600) ∧ (LBy μ inp (x + 1) 1 (x + 2)) ∧ (BSh S (x + 3) 1224) ∧ (LBy μ out (x + 3) 1 (x + 4)) ∧ (S.1 (x + 62) = some (0, 4)) ∧ (S.2.1 (x + 62) 0 = x + 1) ∧ (S.2.1 (x + 62) 1 = x + 37) ∧ (μ (x + 62) 6 = c) ∧ (μ (x + 62) 7 = p) ∧ (inp.length ≤ 600) ∧ (out.length ≤ 1224 ∧ ∀ y, y ∈ out → 0 ≤ y)
theorem W7.mk {S : zG} {μ : zM} {x : Int} {M : zD} {L : List zD} {K : zKs} {inp out : List Int} {c p : Int} (h : (CB S x) ∧ (D7 S μ (x + 12) M) ∧ (DSh S (x + 37)) ∧ (μ (x + 45) 1 = 0) ∧ (∃ r, HR7 S μ x (x + 66) r L K) ∧ (BSh S (x + 1) 600) ∧ (LBy μ inp (x + 1) 1 (x + 2)) ∧ (BSh S (x + 3) 1224) ∧ (LBy μ out (x + 3) 1 (x + 4)) ∧ (S.1 (x + 62) = some (0, 4)) ∧ (S.2.1 (x + 62) 0 = x + 1) ∧ (S.2.1 (x + 62) 1 = x + 37) ∧ (μ (x + 62) 6 = c) ∧ (μ (x + 62) 7 = p) ∧ (inp.length ≤ 600) ∧ (out.length ≤ 1224 ∧ ∀ y, y ∈ out → 0 ≤ y)) : W7 S μ x M L K inp out c p := h
theorem W7.C {S : zG} {μ : zM} {x : Int} {M : zD} {L : List zD} {K : zKs} {inp out : List Int} {c p : Int} (h : W7 S μ x M L K inp out c p) : CB S x := h.1
theorem W7.D {S : zG} {μ : zM} {x : Int} {M : zD} {L : List zD} {K : zKs} {inp out : List Int} {c p : Int} (h : W7 S μ x M L K inp out c p) : D7 S μ (x + 12) M := h.2.1
theorem W7.ts {S : zG} {μ : zM} {x : Int} {M : zD} {L : List zD} {K : zKs} {inp out : List Int} {c p : Int} (h : W7 S μ x M L K inp out c p) : DSh S (x + 37) := h.2.2.1
theorem W7.te {S : zG} {μ : zM} {x : Int} {M : zD} {L : List zD} {K : zKs} {inp out : List Int} {c p : Int} (h : W7 S μ x M L K inp out c p) : μ (x + 45) 1 = 0 := h.2.2.2.1
theorem W7.H {S : zG} {μ : zM} {x : Int} {M : zD} {L : List zD} {K : zKs} {inp out : List Int} {c p : Int} (h : W7 S μ x M L K inp out c p) : ∃ r, HR7 S μ x (x + 66) r L K := h.2.2.2.2.1
theorem W7.bi {S : zG} {μ : zM} {x : Int} {M : zD} {L : List zD} {K : zKs} {inp out : List Int} {c p : Int} (h : W7 S μ x M L K inp out c p) : BSh S (x + 1) 600 := h.2.2.2.2.2.1
theorem W7.li {S : zG} {μ : zM} {x : Int} {M : zD} {L : List zD} {K : zKs} {inp out : List Int} {c p : Int} (h : W7 S μ x M L K inp out c p) : LBy μ inp (x + 1) 1 (x + 2) := h.2.2.2.2.2.2.1
theorem W7.bo {S : zG} {μ : zM} {x : Int} {M : zD} {L : List zD} {K : zKs} {inp out : List Int} {c p : Int} (h : W7 S μ x M L K inp out c p) : BSh S (x + 3) 1224 := h.2.2.2.2.2.2.2.1
theorem W7.lo {S : zG} {μ : zM} {x : Int} {M : zD} {L : List zD} {K : zKs} {inp out : List Int} {c p : Int} (h : W7 S μ x M L K inp out c p) : LBy μ out (x + 3) 1 (x + 4) := h.2.2.2.2.2.2.2.2.1
theorem W7.po {S : zG} {μ : zM} {x : Int} {M : zD} {L : List zD} {K : zKs} {inp out : List Int} {c p : Int} (h : W7 S μ x M L K inp out c p) : S.1 (x + 62) = some (0, 4) := h.2.2.2.2.2.2.2.2.2.1
theorem W7.p0 {S : zG} {μ : zM} {x : Int} {M : zD} {L : List zD} {K : zKs} {inp out : List Int} {c p : Int} (h : W7 S μ x M L K inp out c p) : S.2.1 (x + 62) 0 = x + 1 := h.2.2.2.2.2.2.2.2.2.2.1
theorem W7.p1 {S : zG} {μ : zM} {x : Int} {M : zD} {L : List zD} {K : zKs} {inp out : List Int} {c p : Int} (h : W7 S μ x M L K inp out c p) : S.2.1 (x + 62) 1 = x + 37 := h.2.2.2.2.2.2.2.2.2.2.2.1
theorem W7.pc {S : zG} {μ : zM} {x : Int} {M : zD} {L : List zD} {K : zKs} {inp out : List Int} {c p : Int} (h : W7 S μ x M L K inp out c p) : μ (x + 62) 6 = c := h.2.2.2.2.2.2.2.2.2.2.2.2.1
theorem W7.pp {S : zG} {μ : zM} {x : Int} {M : zD} {L : List zD} {K : zKs} {inp out : List Int} {c p : Int} (h : W7 S μ x M L K inp out c p) : μ (x + 62) 7 = p := h.2.2.2.2.2.2.2.2.2.2.2.2.2.1
theorem W7.il {S : zG} {μ : zM} {x : Int} {M : zD} {L : List zD} {K : zKs} {inp out : List Int} {c p : Int} (h : W7 S μ x M L K inp out c p) : inp.length ≤ 600 := h.2.2.2.2.2.2.2.2.2.2.2.2.2.2.1
theorem W7.ol {S : zG} {μ : zM} {x : Int} {M : zD} {L : List zD} {K : zKs} {inp out : List Int} {c p : Int} (h : W7 S μ x M L K inp out c p) : out.length ≤ 1224 ∧ ∀ y, y ∈ out → 0 ≤ y := h.2.2.2.2.2.2.2.2.2.2.2.2.2.2.2
def WB (B : Int) (M : zD) (L : List zD) (K : zKs) : Prop := (WF B M) ∧ (∀ X, X ∈ L → WF B X) ∧ (∀ (i : Nat) (X : zD), i < 2 → K i = some X → WF B X)
theorem WB.mk {B : Int} {M : zD} {L : List zD} {K : zKs} (h : (WF B M) ∧ (∀ X, X ∈ L → WF B X) ∧ (∀ (i : Nat) (X : zD), i < 2 → K i = some X → WF B X)) : WB B M L K := h
theorem WB.M {B : Int} {M : zD} {L : List zD} {K : zKs} (h : WB B M L K) : WF B M := h.1
theorem WB.L {B : Int} {M : zD} {L : List zD} {K : zKs} (h : WB B M L K) : ∀ X, X ∈ L → WF B X := h.2.1
theorem WB.K {B : Int} {M : zD} {L : List zD} {K : zKs} (h : WB B M L K) : ∀ (i : Nat) (X : zD), i < 2 → K i = some X → WF B X := h.2.2
def zGn (S : zG) (n : Int) : zG := (S.1, S.2.1, n)
def FX (x : Int) (S S' : zG) (μ μ' : zM) : Prop := (∀ y, x + 66 ≤ y → y < x + 66 → S'.1 y = S.1 y) ∧ (∀ y j, x + 66 ≤ y → y < x + 66 → S'.2.1 y j = S.2.1 y j) ∧ (∀ y, x + 66 ≤ y → y < x + 66 → μ' y = μ y) ∧ (S.2.2 ≤ S'.2.2)
theorem FX.mk {x : Int} {S S' : zG} {μ μ' : zM} (h : (∀ y, x + 66 ≤ y → y < x + 66 → S'.1 y = S.1 y) ∧ (∀ y j, x + 66 ≤ y → y < x + 66 → S'.2.1 y j = S.2.1 y j) ∧ (∀ y, x + 66 ≤ y → y < x + 66 → μ' y = μ y) ∧ (S.2.2 ≤ S'.2.2)) : FX x S S' μ μ' := h
theorem FX.sh {x : Int} {S S' : zG} {μ μ' : zM} (h : FX x S S' μ μ') : ∀ y, x + 66 ≤ y → y < x + 66 → S'.1 y = S.1 y := h.1
theorem FX.rf {x : Int} {S S' : zG} {μ μ' : zM} (h : FX x S S' μ μ') : ∀ y j, x + 66 ≤ y → y < x + 66 → S'.2.1 y j = S.2.1 y j := h.2.1
theorem FX.m {x : Int} {S S' : zG} {μ μ' : zM} (h : FX x S S' μ μ') : ∀ y, x + 66 ≤ y → y < x + 66 → μ' y = μ y := h.2.2.1
theorem FX.nx {x : Int} {S S' : zG} {μ μ' : zM} (h : FX x S S' μ μ') : S.2.2 ≤ S'.2.2 := h.2.2.2
def FM (m : Int) (μ μ' : zM) : Prop := (∀ y, y ≠ m → y ≠ m + 3 → y ≠ m + 4 → y ≠ m + 5 → y ≠ m + 7 → μ' y = μ y) ∧ (∀ k, k = 4 ∨ k = 11 ∨ k = 17 ∨ k = 18 ∨ k = 25 ∨ k = 27 → μ' m k = μ m k)
theorem FM.mk {m : Int} {μ μ' : zM} (h : (∀ y, y ≠ m → y ≠ m + 3 → y ≠ m + 4 → y ≠ m + 5 → y ≠ m + 7 → μ' y = μ y) ∧ (∀ k, k = 4 ∨ k = 11 ∨ k = 17 ∨ k = 18 ∨ k = 25 ∨ k = 27 → μ' m k = μ m k)) : FM m μ μ' := h
theorem FM.x {m : Int} {μ μ' : zM} (h : FM m μ μ') : ∀ y, y ≠ m → y ≠ m + 3 → y ≠ m + 4 → y ≠ m + 5 → y ≠ m + 7 → μ' y = μ y := h.1
theorem FM.f {m : Int} {μ μ' : zM} (h : FM m μ μ') : ∀ k, k = 4 ∨ k = 11 ∨ k = 17 ∨ k = 18 ∨ k = 25 ∨ k = 27 → μ' m k = μ m k := h.2
section C60
variable {S S' : zG} {μ μ' μ1 : zM} {x m B B' : Int} {M M' : zD} {L L' : List zD} {K K' : zKs} {inp out inp' out' : List Int} {c p : Int}
theorem LBy.keep {l : List Int} {a i b : Int} (h : LBy μ l a i b) (h1 : μ' a i = μ a i) (h2 : ∀ k, μ' b k = μ b k) : LBy μ' l a i b := LBy.mk ⟨h1.trans h.n, fun k y hk => (h2 _).trans (h.v k y hk), h.g⟩
theorem W7.keep (h : W7 S μ x M L K inp out c p) (hm : ∀ y, (y < x + 66 ∧ ¬ (x + 5 ≤ y ∧ y < x + 12)) ∨ x + 66 ≤ y → μ' y = μ y) : W7 S μ' x M L K inp out c p := by
  obtain ⟨r, hr⟩ := h.H
  have hx := h.C.x0
  exact W7.mk ⟨h.C, h.D.keep (fun y h1 h2 => hm y (by omega)), h.ts, by rw [hm _ (by omega)]; exact h.te, ⟨r, hr.keep (fun y hy => hm y (by omega))⟩, h.bi, h.li.keep (by rw [hm _ (by omega)]) (fun k => by rw [hm _ (by omega)]), h.bo, h.lo.keep (by rw [hm _ (by omega)]) (fun k => by rw [hm _ (by omega)]), h.po, h.p0, h.p1, by rw [hm _ (by omega)]; exact h.pc, by rw [hm _ (by omega)]; exact h.pp, h.il, h.ol⟩
theorem CB.nx (h : CB S x) (n : Int) : CB (zGn S n) x := CB.mk ⟨h.x0, h.o, h.r0, h.r1, h.r2, h.r3, h.r4, h.r5, h.r6, h.r7, h.V⟩
theorem DSh.nx {d : Int} (h : DSh S d) (n : Int) : DSh (zGn S n) d := h.keep (fun _ _ _ => rfl) (fun _ _ _ _ => rfl)
theorem D7.nx {d : Int} (h : D7 S μ d M) (n : Int) : D7 (zGn S n) μ d M := h.shape (h.sh.nx n)
theorem HR7.nx {r : Nat → Int} {Z : Int} (h : HR7 S μ x Z r L K) {n : Int} (hn : S.2.2 ≤ n) : HR7 (zGn S n) μ x Z r L K := by
  have hP := h.P
  refine HR7.mk ⟨Pool.mk ⟨⟨hP.nz.1, Int.le_trans hP.nz.2 hn⟩, ?_, hP.dj⟩, h.xz, h.o, h.a, h.s, h.s2, h.r6, h.r2, h.n, h.c, fun i X hi => ⟨(h.L i X hi).1, (h.L i X hi).2.nx n⟩, h.K0, fun i X hi hk => ⟨(h.K1 i X hi hk).1, (h.K1 i X hi hk).2.nx n⟩⟩
  intro i hi
  rcases hP.ok i hi with h1 | ⟨h1, h2, h3, h4⟩
  · exact Or.inl h1
  · exact Or.inr ⟨h1, Int.le_trans h2 hn, h3.nx n, h4⟩
theorem W7.nx (h : W7 S μ x M L K inp out c p) {n : Int} (hn : S.2.2 ≤ n) : W7 (zGn S n) μ x M L K inp out c p := by
  obtain ⟨r, hr⟩ := h.H
  exact W7.mk ⟨h.C.nx n, h.D.nx n, h.ts.nx n, h.te, ⟨r, hr.nx hn⟩, h.bi, h.li, h.bo, h.lo, h.po, h.p0, h.p1, h.pc, h.pp, h.il, h.ol⟩
theorem FH.fx (h : FH x (x + 66) S S' μ μ') : FX x S S' μ μ' := FX.mk ⟨fun y _ h2 => h.sh y h2, fun y j h1 h2 => h.rf y j h2 (by omega) (by omega), fun y h1 h2 => h.m y h2 (by omega), h.nx⟩
theorem WB.same (h : WB B M L K) (hB : B ≤ B') (hB' : B' ≤ 1000000) : WB B' M L K := by
  have up : ∀ X, WF B X → WF B' X := fun X hX => WF.mk ⟨hB', ⟨hX.tm.1, Int.le_trans hX.tm.2 hB⟩, hX.al, hX.wl, hX.r0, hX.r1, hX.r2, hX.r3, hX.r4, hX.Tr, hX.Ti, hX.Ts, hX.Ta, hX.li, hX.lz, hX.nd, hX.qu, hX.ql, hX.an, hX.wn, hX.ai⟩
  exact WB.mk ⟨up M h.M, fun X hX => up X (h.L X hX), fun i X hi hk => up X (h.K i X hi hk)⟩
theorem FM.rf : FM m μ μ := FM.mk ⟨fun _ _ _ _ _ _ => rfl, fun _ _ => rfl⟩
theorem FM.tr (h : FM m μ μ1) (k : FM m μ1 μ') : FM m μ μ' := FM.mk ⟨fun y h1 h2 h3 h4 h5 => (k.x y h1 h2 h3 h4 h5).trans (h.x y h1 h2 h3 h4 h5), fun i hi => (k.f i hi).trans (h.f i hi)⟩
end C60
