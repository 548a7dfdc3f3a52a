/-! C 60: the two worlds -/
abbrev zKs : Type := Nat → Option zD
def W7 (S : zG) (μ : zM) (x : Int) (M : zD) (L : List zD) (K : zKs) (inp out : List Int) (c p : Int) : Prop := (CB S x) ∧ (D7 S μ (x + 12) M) ∧ (DSh S (x + 37)) ∧ (μ (x + 45) 1 = 0) ∧ (∃ r, HR7 S μ x (x + 80) r L K) ∧ (BSh S (x + 1) 600) ∧ (LBy μ inp (x + 1) 1 (x + 2)) ∧ (BSh S (x + 3) 1224) ∧ (LBy μ out (x + 3) 1 (x + 4)) ∧ (S.1 (x + 62) = some (0, 4)) ∧ (S.2.1 (x + 62) 0 = x + 1) ∧ (S.2.1 (x + 62) 1 = x + 37) ∧ (μ (x + 62) 6 = c) ∧ (μ (x + 62) 7 = p) ∧ (inp.length ≤ 600) ∧ (out.length ≤ 1224 ∧ ∀ y, y ∈ out → 0 ≤ y)
theorem W7.mk {S : zG} {μ : zM} {x : Int} {M : zD} {L : List zD} {K : zKs} {inp out : List Int} {c p : Int} (h : (CB S x) ∧ (D7 S μ (x + 12) M) ∧ (DSh S (x + 37)) ∧ (μ (x + 45) 1 = 0) ∧ (∃ r, HR7 S μ x (x + 80) r L K) ∧ (BSh S (x + 1) 600) ∧ (LBy μ inp (x + 1) 1 (x + 2)) ∧ (BSh S (x + 3) 1224) ∧ (LBy μ out (x + 3) 1 (x + 4)) ∧ (S.1 (x + 62) = some (0, 4)) ∧ (S.2.1 (x + 62) 0 = x + 1) ∧ (S.2.1 (x + 62) 1 = x + 37) ∧ (μ (x + 62) 6 = c) ∧ (μ (x + 62) 7 = p) ∧ (inp.length ≤ 600) ∧ (out.length ≤ 1224 ∧ ∀ y, y ∈ out → 0 ≤ y)) : W7 S μ x M L K inp out c p := h
theorem W7.C {S : zG} {μ : zM} {x : Int} {M : zD} {L : List zD} {K : zKs} {inp out : List Int} {c p : Int} (h : W7 S μ x M L K inp out c p) : CB S x := h.1
theorem W7.D {S : zG} {μ : zM} {x : Int} {M : zD} {L : List zD} {K : zKs} {inp out : List Int} {c p : Int} (h : W7 S μ x M L K inp out c p) : D7 S μ (x + 12) M := h.2.1
theorem W7.ts {S : zG} {μ : zM} {x : Int} {M : zD} {L : List zD} {K : zKs} {inp out : List Int} {c p : Int} (h : W7 S μ x M L K inp out c p) : DSh S (x + 37) := h.2.2.1
theorem W7.te {S : zG} {μ : zM} {x : Int} {M : zD} {L : List zD} {K : zKs} {inp out : List Int} {c p : Int} (h : W7 S μ x M L K inp out c p) : μ (x + 45) 1 = 0 := h.2.2.2.1
theorem W7.H {S : zG} {μ : zM} {x : Int} {M : zD} {L : List zD} {K : zKs} {inp out : List Int} {c p : Int} (h : W7 S μ x M L K inp out c p) : ∃ r, HR7 S μ x (x + 80) r L K := h.2.2.2.2.1
theorem W7.bi {S : zG} {μ : zM} {x : Int} {M : zD} {L : List zD} {K : zKs} {inp out : List Int} {c p : Int} (h : W7 S μ x M L K inp out c p) : BSh S (x + 1) 600 := h.2.2.2.2.2.1
theorem W7.li {S : zG} {μ : zM} {x : Int} {M : zD} {L : List zD} {K : zKs} {inp out : List Int} {c p : Int} (h : W7 S μ x M L K inp out c p) : LBy μ inp (x + 1) 1 (x + 2) := h.2.2.2.2.2.2.1
theorem W7.bo {S : zG} {μ : zM} {x : Int} {M : zD} {L : List zD} {K : zKs} {inp out : List Int} {c p : Int} (h : W7 S μ x M L K inp out c p) : BSh S (x + 3) 1224 := h.2.2.2.2.2.2.2.1
theorem W7.lo {S : zG} {μ : zM} {x : Int} {M : zD} {L : List zD} {K : zKs} {inp out : List Int} {c p : Int} (h : W7 S μ x M L K inp out c p) : LBy μ out (x + 3) 1 (x + 4) := h.2.2.2.2.2.2.2.2.1
theorem W7.po {S : zG} {μ : zM} {x : Int} {M : zD} {L : List zD} {K : zKs} {inp out : List Int} {c p : Int} (h : W7 S μ x M L K inp out c p) : S.1 (x + 62) = some (0, 4) := h.2.2.2.2.2.2.2.2.2.1
theorem W7.p0 {S : zG} {μ : zM} {x : Int} {M : zD} {L : List zD} {K : zKs} {inp out : List Int} {c p : Int} (h : W7 S μ x M L K inp out c p) : S.2.1 (x + 62) 0 = x + 1 := h.2.2.2.2.2.2.2.2.2.2.1
theorem W7.p1 {S : zG} {μ : zM} {x : Int} {M : zD} {L : List zD} {K : zKs} {inp out : List Int} {c p : Int} (h : W7 S μ x M L K inp out c p) : S.2.1 (x + 62) 1 = x + 37 := h.2.2.2.2.2.2.2.2.2.2.2.1
theorem W7.pc {S : zG} {μ : zM} {x : Int} {M : zD} {L : List zD} {K : zKs} {inp out : List Int} {c p : Int} (h : W7 S μ x M L K inp out c p) : μ (x + 62) 6 = c := h.2.2.2.2.2.2.2.2.2.2.2.2.1
theorem W7.pp {S : zG} {μ : zM} {x : Int} {M : zD} {L : List zD} {K : zKs} {inp out : List Int} {c p : Int} (h : W7 S μ x M L K inp out c p) : μ (x + 62) 7 = p := h.2.2.2.2.2.2.2.2.2.2.2.2.2.1
theorem W7.il {S : zG} {μ : zM} {x : Int} {M : zD} {L : List zD} {K : zKs} {inp out : List Int} {c p : Int} (h : W7 S μ x M L K inp out c p) : inp.length ≤ 600 := h.2.2.2.2.2.2.2.2.2.2.2.2.2.2.1
theorem W7.ol {S : zG} {μ : zM} {x : Int} {M : zD} {L : List zD} {K : zKs} {inp out : List Int} {c p : Int} (h : W7 S μ x M L K inp out c p) : out.length ≤ 1224 ∧ ∀ y, y ∈ out → 0 ≤ y := h.2.2.2.2.2.2.2.2.2.2.2.2.2.2.2
def W8 (S : zG) (μ : zM) (m : Int) (M : zD) (L : List zD) (K : zKs) (inp out : List Int) (c p : Int) : Prop := (MSh S m (m + 1)) ∧ (D8 (μ (m + 1)) M) ∧ (HRel μ m L) ∧ (∀ i : Nat, i < 2 → K i = none → μ (m + 9) (i : Int) = 0) ∧ (∀ (i : Nat) (X : zD), i < 2 → K i = some X → μ (m + 9) (i : Int) = 1 ∧ D8 (fun j => μ (m + 8) (2405 * (i : Int) + j)) X) ∧ (LBy μ inp m 11 (m + 6)) ∧ (LBy μ out m 27 (m + 11)) ∧ (μ m 4 = -1) ∧ (μ m 17 = c) ∧ (μ m 18 = p)
theorem W8.mk {S : zG} {μ : zM} {m : Int} {M : zD} {L : List zD} {K : zKs} {inp out : List Int} {c p : Int} (h : (MSh S m (m + 1)) ∧ (D8 (μ (m + 1)) M) ∧ (HRel μ m L) ∧ (∀ i : Nat, i < 2 → K i = none → μ (m + 9) (i : Int) = 0) ∧ (∀ (i : Nat) (X : zD), i < 2 → K i = some X → μ (m + 9) (i : Int) = 1 ∧ D8 (fun j => μ (m + 8) (2405 * (i : Int) + j)) X) ∧ (LBy μ inp m 11 (m + 6)) ∧ (LBy μ out m 27 (m + 11)) ∧ (μ m 4 = -1) ∧ (μ m 17 = c) ∧ (μ m 18 = p)) : W8 S μ m M L K inp out c p := h
theorem W8.H {S : zG} {μ : zM} {m : Int} {M : zD} {L : List zD} {K : zKs} {inp out : List Int} {c p : Int} (h : W8 S μ m M L K inp out c p) : MSh S m (m + 1) := h.1
theorem W8.D {S : zG} {μ : zM} {m : Int} {M : zD} {L : List zD} {K : zKs} {inp out : List Int} {c p : Int} (h : W8 S μ m M L K inp out c p) : D8 (μ (m + 1)) M := h.2.1
theorem W8.R {S : zG} {μ : zM} {m : Int} {M : zD} {L : List zD} {K : zKs} {inp out : List Int} {c p : Int} (h : W8 S μ m M L K inp out c p) : HRel μ m L := h.2.2.1
theorem W8.K0 {S : zG} {μ : zM} {m : Int} {M : zD} {L : List zD} {K : zKs} {inp out : List Int} {c p : Int} (h : W8 S μ m M L K inp out c p) : ∀ i : Nat, i < 2 → K i = none → μ (m + 9) (i : Int) = 0 := h.2.2.2.1
theorem W8.K1 {S : zG} {μ : zM} {m : Int} {M : zD} {L : List zD} {K : zKs} {inp out : List Int} {c p : Int} (h : W8 S μ m M L K inp out c p) : ∀ (i : Nat) (X : zD), i < 2 → K i = some X → μ (m + 9) (i : Int) = 1 ∧ D8 (fun j => μ (m + 8) (2405 * (i : Int) + j)) X := h.2.2.2.2.1
theorem W8.li {S : zG} {μ : zM} {m : Int} {M : zD} {L : List zD} {K : zKs} {inp out : List Int} {c p : Int} (h : W8 S μ m M L K inp out c p) : LBy μ inp m 11 (m + 6) := h.2.2.2.2.2.1
theorem W8.lo {S : zG} {μ : zM} {m : Int} {M : zD} {L : List zD} {K : zKs} {inp out : List Int} {c p : Int} (h : W8 S μ m M L K inp out c p) : LBy μ out m 27 (m + 11) := h.2.2.2.2.2.2.1
theorem W8.w {S : zG} {μ : zM} {m : Int} {M : zD} {L : List zD} {K : zKs} {inp out : List Int} {c p : Int} (h : W8 S μ m M L K inp out c p) : μ m 4 = -1 := h.2.2.2.2.2.2.2.1
theorem W8.ec {S : zG} {μ : zM} {m : Int} {M : zD} {L : List zD} {K : zKs} {inp out : List Int} {c p : Int} (h : W8 S μ m M L K inp out c p) : μ m 17 = c := h.2.2.2.2.2.2.2.2.1
theorem W8.ep {S : zG} {μ : zM} {m : Int} {M : zD} {L : List zD} {K : zKs} {inp out : List Int} {c p : Int} (h : W8 S μ m M L K inp out c p) : μ m 18 = p := h.2.2.2.2.2.2.2.2.2
def WB (B : Int) (M : zD) (L : List zD) (K : zKs) : Prop := (WF B M) ∧ (∀ X, X ∈ L → WF B X) ∧ (∀ (i : Nat) (X : zD), i < 2 → K i = some X → WF B X)
theorem WB.mk {B : Int} {M : zD} {L : List zD} {K : zKs} (h : (WF B M) ∧ (∀ X, X ∈ L → WF B X) ∧ (∀ (i : Nat) (X : zD), i < 2 → K i = some X → WF B X)) : WB B M L K := h
theorem WB.M {B : Int} {M : zD} {L : List zD} {K : zKs} (h : WB B M L K) : WF B M := h.1
theorem WB.L {B : Int} {M : zD} {L : List zD} {K : zKs} (h : WB B M L K) : ∀ X, X ∈ L → WF B X := h.2.1
theorem WB.K {B : Int} {M : zD} {L : List zD} {K : zKs} (h : WB B M L K) : ∀ (i : Nat) (X : zD), i < 2 → K i = some X → WF B X := h.2.2
def WO (S : zG) (x : Int) : Prop := (0 ≤ x) ∧ (x + 80 ≤ S.2.2) ∧ (S.1 (x + 78) = some (4, 1)) ∧ (S.1 (x + 79) = some (5, 1))
theorem WO.mk {S : zG} {x : Int} (h : (0 ≤ x) ∧ (x + 80 ≤ S.2.2) ∧ (S.1 (x + 78) = some (4, 1)) ∧ (S.1 (x + 79) = some (5, 1))) : WO S x := h
theorem WO.x0 {S : zG} {x : Int} (h : WO S x) : 0 ≤ x := h.1
theorem WO.nx {S : zG} {x : Int} (h : WO S x) : x + 80 ≤ S.2.2 := h.2.1
theorem WO.o {S : zG} {x : Int} (h : WO S x) : S.1 (x + 78) = some (4, 1) := h.2.2.1
theorem WO.d {S : zG} {x : Int} (h : WO S x) : S.1 (x + 79) = some (5, 1) := h.2.2.2
def Wd (B : Int) (x : Int) (S : zG) (μ : zM) (M : zD) (L : List zD) (K : zKs) (inp out : List Int) (c p : Int) : Prop := (W7 S μ x M L K inp out c p) ∧ (W8 S μ (x + 66) M L K inp out c p) ∧ (WB B M L K) ∧ (WO S x)
theorem Wd.mk {B : Int} {x : Int} {S : zG} {μ : zM} {M : zD} {L : List zD} {K : zKs} {inp out : List Int} {c p : Int} (h : (W7 S μ x M L K inp out c p) ∧ (W8 S μ (x + 66) M L K inp out c p) ∧ (WB B M L K) ∧ (WO S x)) : Wd B x S μ M L K inp out c p := h
theorem Wd.a {B : Int} {x : Int} {S : zG} {μ : zM} {M : zD} {L : List zD} {K : zKs} {inp out : List Int} {c p : Int} (h : Wd B x S μ M L K inp out c p) : W7 S μ x M L K inp out c p := h.1
theorem Wd.b {B : Int} {x : Int} {S : zG} {μ : zM} {M : zD} {L : List zD} {K : zKs} {inp out : List Int} {c p : Int} (h : Wd B x S μ M L K inp out c p) : W8 S μ (x + 66) M L K inp out c p := h.2.1
theorem Wd.w {B : Int} {x : Int} {S : zG} {μ : zM} {M : zD} {L : List zD} {K : zKs} {inp out : List Int} {c p : Int} (h : Wd B x S μ M L K inp out c p) : WB B M L K := h.2.2.1
theorem Wd.o {B : Int} {x : Int} {S : zG} {μ : zM} {M : zD} {L : List zD} {K : zKs} {inp out : List Int} {c p : Int} (h : Wd B x S μ M L K inp out c p) : WO S x := h.2.2.2
/-- only the heap's end moves -/
def zGn (S : zG) (n : Int) : zG := (S.1, S.2.1, n)
/-- between class and model nothing is shared -/
def FX (x : Int) (S S' : zG) (μ μ' : zM) : Prop := (∀ y, x + 66 ≤ y → y < x + 80 → S'.1 y = S.1 y) ∧ (∀ y j, x + 66 ≤ y → y < x + 80 → S'.2.1 y j = S.2.1 y j) ∧ (∀ y, x + 66 ≤ y → y < x + 80 → μ' y = μ y) ∧ (S.2.2 ≤ S'.2.2)
theorem FX.mk {x : Int} {S S' : zG} {μ μ' : zM} (h : (∀ y, x + 66 ≤ y → y < x + 80 → S'.1 y = S.1 y) ∧ (∀ y j, x + 66 ≤ y → y < x + 80 → S'.2.1 y j = S.2.1 y j) ∧ (∀ y, x + 66 ≤ y → y < x + 80 → μ' y = μ y) ∧ (S.2.2 ≤ S'.2.2)) : FX x S S' μ μ' := h
theorem FX.sh {x : Int} {S S' : zG} {μ μ' : zM} (h : FX x S S' μ μ') : ∀ y, x + 66 ≤ y → y < x + 80 → S'.1 y = S.1 y := h.1
theorem FX.rf {x : Int} {S S' : zG} {μ μ' : zM} (h : FX x S S' μ μ') : ∀ y j, x + 66 ≤ y → y < x + 80 → S'.2.1 y j = S.2.1 y j := h.2.1
theorem FX.m {x : Int} {S S' : zG} {μ μ' : zM} (h : FX x S S' μ μ') : ∀ y, x + 66 ≤ y → y < x + 80 → μ' y = μ y := h.2.2.1
theorem FX.nx {x : Int} {S S' : zG} {μ μ' : zM} (h : FX x S S' μ μ') : S.2.2 ≤ S'.2.2 := h.2.2.2
/-- what a refusal or a question writes in the model -/
def FM (m : Int) (μ μ' : zM) : Prop := (∀ y, y ≠ m → y ≠ m + 3 → y ≠ m + 4 → y ≠ m + 5 → y ≠ m + 7 → μ' y = μ y) ∧ (∀ k, k = 4 ∨ k = 11 ∨ k = 17 ∨ k = 18 ∨ k = 25 ∨ k = 27 → μ' m k = μ m k)
theorem FM.mk {m : Int} {μ μ' : zM} (h : (∀ y, y ≠ m → y ≠ m + 3 → y ≠ m + 4 → y ≠ m + 5 → y ≠ m + 7 → μ' y = μ y) ∧ (∀ k, k = 4 ∨ k = 11 ∨ k = 17 ∨ k = 18 ∨ k = 25 ∨ k = 27 → μ' m k = μ m k)) : FM m μ μ' := h
theorem FM.x {m : Int} {μ μ' : zM} (h : FM m μ μ') : ∀ y, y ≠ m → y ≠ m + 3 → y ≠ m + 4 → y ≠ m + 5 → y ≠ m + 7 → μ' y = μ y := h.1
theorem FM.f {m : Int} {μ μ' : zM} (h : FM m μ μ') : ∀ k, k = 4 ∨ k = 11 ∨ k = 17 ∨ k = 18 ∨ k = 25 ∨ k = 27 → μ' m k = μ m k := h.2
section C60
variable {S S' : zG} {μ μ' μ1 : zM} {x m B B' : Int} {M M' : zD} {L L' : List zD} {K K' : zKs} {inp out inp' out' : List Int} {c p : Int}
theorem LBy.keep {l : List Int} {a i b : Int} (h : LBy μ l a i b) (h1 : μ' a i = μ a i) (h2 : ∀ k, μ' b k = μ b k) : LBy μ' l a i b := LBy.mk ⟨h1.trans h.n, fun k y hk => (h2 _).trans (h.v k y hk), h.g⟩
/-- the class's world: the memory beyond changes -/
theorem W7.keep (h : W7 S μ x M L K inp out c p) (hm : ∀ y, (y < x + 66 ∧ ¬ (x + 5 ≤ y ∧ y < x + 12)) ∨ x + 80 ≤ y → μ' y = μ y) : W7 S μ' x M L K inp out c p := by
  obtain ⟨r, hr⟩ := h.H
  have hx := h.C.x0
  exact W7.mk ⟨h.C, h.D.keep (fun y h1 h2 => hm y (by omega)), h.ts, by rw [hm _ (by omega)]; exact h.te, ⟨r, hr.keep (fun y hy => hm y (by omega))⟩, h.bi, h.li.keep (by rw [hm _ (by omega)]) (fun k => by rw [hm _ (by omega)]), h.bo, h.lo.keep (by rw [hm _ (by omega)]) (fun k => by rw [hm _ (by omega)]), h.po, h.p0, h.p1, by rw [hm _ (by omega)]; exact h.pc, by rw [hm _ (by omega)]; exact h.pp, h.il, h.ol⟩
theorem CB.nx (h : CB S x) (n : Int) : CB (zGn S n) x := CB.mk ⟨h.x0, h.o, h.r0, h.r1, h.r2, h.r3, h.r4, h.r5, h.r6, h.r7, h.V⟩
theorem DSh.nx {d : Int} (h : DSh S d) (n : Int) : DSh (zGn S n) d := h.keep (fun _ _ _ => rfl) (fun _ _ _ _ => rfl)
theorem D7.nx {d : Int} (h : D7 S μ d M) (n : Int) : D7 (zGn S n) μ d M := h.shape (h.sh.nx n)
theorem HR7.nx {r : Nat → Int} {Z : Int} (h : HR7 S μ x Z r L K) {n : Int} (hn : S.2.2 ≤ n) : HR7 (zGn S n) μ x Z r L K := by
  have hP := h.P
  refine HR7.mk ⟨Pool.mk ⟨⟨hP.nz.1, Int.le_trans hP.nz.2 hn⟩, ?_, hP.dj⟩, h.xz, h.o, h.a, h.s, h.s2, h.r6, h.r2, h.n, h.c, fun i X hi => ⟨(h.L i X hi).1, (h.L i X hi).2.nx n⟩, h.K0, fun i X hi hk => ⟨(h.K1 i X hi hk).1, (h.K1 i X hi hk).2.nx n⟩⟩
  intro i hi
  rcases hP.ok i hi with h1 | ⟨h1, h2, h3, h4⟩
  · exact Or.inl h1
  · exact Or.inr ⟨h1, Int.le_trans h2 hn, h3.nx n, h4⟩
theorem W7.nx (h : W7 S μ x M L K inp out c p) {n : Int} (hn : S.2.2 ≤ n) : W7 (zGn S n) μ x M L K inp out c p := by
  obtain ⟨r, hr⟩ := h.H
  exact W7.mk ⟨h.C.nx n, h.D.nx n, h.ts.nx n, h.te, ⟨r, hr.nx hn⟩, h.bi, h.li, h.bo, h.lo, h.po, h.p0, h.p1, h.pc, h.pp, h.il, h.ol⟩
theorem MSh.keep {A : Int} (h : MSh S m A) (hs : ∀ y, m ≤ y → y < m + 12 → S'.1 y = S.1 y) (hr : ∀ j, S'.2.1 m j = S.2.1 m j) : MSh S' m A :=
  MSh.mk ⟨(hs _ (by omega) (by omega)).trans h.o, h.m0, (hr _).trans h.r1, (hr _).trans h.r2, (hr _).trans h.r3, (hr _).trans h.r7, (hr _).trans h.r8, (hr _).trans h.r9, (hr _).trans h.r10, (hr _).trans h.r21, (hr _).trans h.r22, (hr _).trans h.r23, (hr _).trans h.r24, (hr _).trans h.r26, h.A0, (hs _ (by omega) (by omega)).trans h.a1, (hs _ (by omega) (by omega)).trans h.a2, (hs _ (by omega) (by omega)).trans h.a3, (hs _ (by omega) (by omega)).trans h.a4, (hs _ (by omega) (by omega)).trans h.a5, (hs _ (by omega) (by omega)).trans h.a6, (hs _ (by omega) (by omega)).trans h.a7, (hs _ (by omega) (by omega)).trans h.a8, (hs _ (by omega) (by omega)).trans h.a9, (hs _ (by omega) (by omega)).trans h.a10, (hs _ (by omega) (by omega)).trans h.a11⟩
/-- the model's world: what no question looks at changes, and the class's -/
theorem W8.keep (h : W8 S μ m M L K inp out c p) (hs : ∀ y, m ≤ y → y < m + 12 → S'.1 y = S.1 y) (hr : ∀ j, S'.2.1 m j = S.2.1 m j) (hm : ∀ y, m < y → y < m + 12 → y ≠ m + 3 → y ≠ m + 4 → y ≠ m + 5 → y ≠ m + 7 → μ' y = μ y) (hf : ∀ k, k = 4 ∨ k = 11 ∨ k = 17 ∨ k = 18 ∨ k = 25 ∨ k = 27 → μ' m k = μ m k) : W8 S' μ' m M L K inp out c p := by
  refine W8.mk ⟨h.H.keep hs hr, by rw [hm _ (by omega) (by omega) (by omega) (by omega) (by omega) (by omega)]; exact h.D, HRel.mk ⟨h.R.n, by rw [hf _ (by omega)]; exact h.R.c, fun i X hi => ?_⟩, ?_, ?_, h.li.keep (hf _ (by omega)) (fun k => by rw [hm _ (by omega) (by omega) (by omega) (by omega) (by omega) (by omega)]), h.lo.keep (hf _ (by omega)) (fun k => by rw [hm _ (by omega) (by omega) (by omega) (by omega) (by omega) (by omega)]), by rw [hf _ (by omega)]; exact h.w, by rw [hf _ (by omega)]; exact h.ec, by rw [hf _ (by omega)]; exact h.ep⟩
  · rw [hm _ (by omega) (by omega) (by omega) (by omega) (by omega) (by omega)]
    exact h.R.v i X hi
  · intro i hi hk
    rw [hm _ (by omega) (by omega) (by omega) (by omega) (by omega) (by omega)]
    exact h.K0 i hi hk
  · intro i X hi hk
    rw [hm _ (by omega) (by omega) (by omega) (by omega) (by omega) (by omega), hm _ (by omega) (by omega) (by omega) (by omega) (by omega) (by omega)]
    exact h.K1 i X hi hk
theorem FX.mem (h : ∀ y, x + 66 ≤ y → y < x + 80 → μ' y = μ y) : FX x S S μ μ' := FX.mk ⟨fun _ _ _ => rfl, fun _ _ _ _ => rfl, h, Int.le_refl _⟩
theorem FX.rf0 : FX x S S μ μ := FX.mem (fun _ _ _ => rfl)
theorem FH.fx (h : FH x (x + 80) S S' μ μ') : FX x S S' μ μ' := FX.mk ⟨fun y _ h2 => h.sh y h2, fun y j h1 h2 => h.rf y j h2 (by omega) (by omega), fun y h1 h2 => h.m y h2 (by omega), h.nx⟩
theorem WO.keep (h : WO S x) (f : FX x S S' μ μ') : WO S' x := WO.mk ⟨h.x0, Int.le_trans h.nx f.nx, (f.sh _ (by omega) (by omega)).trans h.o, (f.sh _ (by omega) (by omega)).trans h.d⟩
/-- an operation: both answer alike, both worlds go on alike -/
def zOp (x : Int) (P : zG → zM → Prop) (f7 f8 : zS → zFn) (tb : List (Nat × Int)) (S : zG) (μ : zM) : Prop :=
  (∃ v S1 μ1, f7 (S, μ) = some (.inl v, (S1, μ1)) ∧ zI v ∧ ∀ u, ∃ μ3, f8 (S1, zup μ1 (x + 78) 0 u) = some (.inl v, (S1, μ3)) ∧ S1.1 (x + 66) = some (0, 8) ∧ S1.1 (x + 78) = some (4, 1) ∧ μ3 (x + 66) 0 = 0 ∧ μ3 (x + 78) 0 = u ∧ P S1 μ3) ∨
  (∃ e k, f7 (S, μ) = some (.inr e, (S, μ)) ∧ (e, k) ∈ tb ∧ ¬ k = 0 ∧ ∀ n, S.2.2 ≤ n → ∃ b μ3, f8 (zGn S n, μ) = some (.inl b, (zGn S n, μ3)) ∧ S.1 (x + 66) = some (0, 8) ∧ μ3 (x + 66) 0 = k ∧ P (zGn S n) μ3)
theorem op_val {f7 f8 : zS → zFn} {tb : List (Nat × Int)} {v : Int} {P : zG → zM → Prop} (h : Wd B x S μ M L K inp out c p) {S1 : zG} {c' p' : Int} (e : f7 (S, μ) = some (.inl v, (S1, μ1))) (hv : zI v) (a : W7 S1 μ1 x M' L' K' inp' out' c' p') (fx : FX x S S1 μ μ1) (w : WB B' M' L' K')
    (g : ∀ μ2, W8 S1 μ2 (x + 66) M L K inp out c p → ∃ μ3, f8 (S1, μ2) = some (.inl v, (S1, μ3)) ∧ W8 S1 μ3 (x + 66) M' L' K' inp' out' c' p' ∧ μ3 (x + 66) 0 = 0 ∧ ∀ y, y < x + 66 ∨ x + 78 ≤ y → μ3 y = μ2 y)
    (hP : ∀ μ3, Wd B' x S1 μ3 M' L' K' inp' out' c' p' → P S1 μ3) : zOp x P f7 f8 tb S μ := by
  have hx := h.o.x0
  refine Or.inl ⟨v, S1, μ1, e, hv, fun u => ?_⟩
  have h8 : W8 S1 (zup μ1 (x + 78) 0 u) (x + 66) M L K inp out c p := h.b.keep (fun y h1 h2 => fx.sh y h1 (by omega)) (fun j => fx.rf _ j (by omega) (by omega)) (fun y h1 h2 _ _ _ _ => by rw [zup_c (by omega), fx.m y (by omega) (by omega)]) (fun k _ => by rw [zup_b (by omega), fx.m _ (by omega) (by omega)])
  obtain ⟨μ3, e3, g3, t3, f3⟩ := g _ h8
  have ho := h.o.keep fx
  refine ⟨μ3, e3, h8.H.o, ho.o, t3, by rw [f3 _ (by omega)]; exact zup_at, hP μ3 (Wd.mk ⟨?_, g3, w, ho⟩)⟩
  exact a.keep (fun y hy => by rw [f3 y (by omega), zup_c (by omega)])
theorem op_thr {f7 f8 : zS → zFn} {tb : List (Nat × Int)} {e : Nat} {k : Int} {P : zG → zM → Prop} (h : Wd B x S μ M L K inp out c p) (h7 : f7 (S, μ) = some (.inr e, (S, μ))) (ht : (e, k) ∈ tb) (hk : ¬ k = 0) (hB : WB B' M L K)
    (g : ∀ (S1 : zG), W8 S1 μ (x + 66) M L K inp out c p → ∃ b μ3, f8 (S1, μ) = some (.inl b, (S1, μ3)) ∧ W8 S1 μ3 (x + 66) M L K inp out c p ∧ μ3 (x + 66) 0 = k ∧ ∀ y, y < x + 66 ∨ x + 78 ≤ y → μ3 y = μ y)
    (hP : ∀ S1 μ3, Wd B' x S1 μ3 M L K inp out c p → P S1 μ3) : zOp x P f7 f8 tb S μ := by
  refine Or.inr ⟨e, k, h7, ht, hk, fun n hn => ?_⟩
  have h8 : W8 (zGn S n) μ (x + 66) M L K inp out c p := h.b.keep (fun _ _ _ => rfl) (fun _ => rfl) (fun _ _ _ _ _ _ _ => rfl) (fun _ _ => rfl)
  obtain ⟨b, μ3, e3, g3, t3, f3⟩ := g _ h8
  refine ⟨b, μ3, e3, h.b.H.o, t3, hP _ _ (Wd.mk ⟨?_, g3, hB, WO.mk ⟨h.o.x0, Int.le_trans h.o.nx hn, h.o.o, h.o.d⟩⟩)⟩
  exact (h.a.nx hn).keep (fun y hy => f3 y (by omega))
theorem WB.same (h : WB B M L K) (hB : B ≤ B') (hB' : B' ≤ 1000000) : WB B' M L K := by
  have up : ∀ X, WF B X → WF B' X := fun X hX => WF.mk ⟨hB', ⟨hX.tm.1, Int.le_trans hX.tm.2 hB⟩, hX.al, hX.wl, hX.r0, hX.r1, hX.r2, hX.r3, hX.r4, hX.Tr, hX.Ti, hX.Ts, hX.Ta, hX.li, hX.lz, hX.nd, hX.qu, hX.ql, hX.an, hX.wn, hX.ai⟩
  exact WB.mk ⟨up M h.M, fun X hX => up X (h.L X hX), fun i X hi hk => up X (h.K i X hi hk)⟩
theorem FM.w8 (f : FM m μ μ') (h : W8 S μ m M L K inp out c p) : W8 S μ' m M L K inp out c p := h.keep (fun _ _ _ => rfl) (fun _ => rfl) (fun y h1 h2 h3 h4 h5 h6 => f.x y (by omega) h3 h4 h5 h6) f.f
theorem FM.rf : FM m μ μ := FM.mk ⟨fun _ _ _ _ _ _ => rfl, fun _ _ => rfl⟩
theorem FM.tr (h : FM m μ μ1) (k : FM m μ1 μ') : FM m μ μ' := FM.mk ⟨fun y h1 h2 h3 h4 h5 => (k.x y h1 h2 h3 h4 h5).trans (h.x y h1 h2 h3 h4 h5), fun i hi => (k.f i hi).trans (h.f i hi)⟩
theorem FM.u0 {v : Int} : FM m μ (zup μ m 0 v) := FM.mk ⟨fun y h1 _ _ _ _ => zup_c h1, fun k hk => zup_j (by omega)⟩
theorem FN.fm (h : FN m μ μ') : FM m μ μ' := FM.mk ⟨fun y h1 h2 h3 _ _ => h.x y h1 h2 h3, fun k hk => h.f k (by omega) (by omega)⟩
theorem FM.far (f : FM m μ μ') : ∀ y, y < m ∨ m + 12 ≤ y → μ' y = μ y := fun y hy => f.x y (by omega) (by omega) (by omega) (by omega) (by omega)
theorem b_passes3 {A t1 t2 t3 : Int} (H : MSh S m A) : ∃ v, f_X8_passes3 m t1 t2 t3 (S, μ) = some (.inl (zbl (¬ t1 = 0 ∧ ¬ t2 = 0 ∧ ¬ t3 = 0)), (S, zup μ m 0 v)) ∧ v = if t1 = 0 then 1 else if t2 = 0 then 2 else if t3 = 0 then 3 else 0 := by
  have go : ∀ v : Int, f_X8_passes3_26 m m v (S, μ) = some (.inl (zbl (v = 0)), (S, zup μ m 0 v)) := by
    intro v
    apply zo_un
    refine j_X8_passes3_26 ?_
    refine zo_pf 0 H.o (by omega) (by omega) ?_
    refine zo_gf H.o (v := v) (j := 0) zup_at (by omega) (by omega) ?_
    refine zo_ite (fun e => zo_rt (by rw [zbl_p e])) (fun e => zo_rt (by rw [zbl_n e]))
  refine ⟨_, ?_, rfl⟩
  apply zo_un
  refine j_X8_passes3 ?_
  by_cases h1 : t1 = 0
  · refine zo_pos h1 (zo_eq (go 1) ?_)
    rw [if_pos h1, zbl_n (show ¬ (1 : Int) = 0 by decide), zbl_n (fun z => z.1 h1)]
  · refine zo_neg h1 ?_
    rw [if_neg h1]
    by_cases h2 : t2 = 0
    · refine zo_pos h2 (zo_eq (go 2) ?_)
      rw [if_pos h2, zbl_n (show ¬ (2 : Int) = 0 by decide), zbl_n (fun z => z.2.1 h2)]
    · refine zo_neg h2 ?_
      rw [if_neg h2]
      by_cases h3 : t3 = 0
      · refine zo_pos h3 (zo_eq (go 3) ?_)
        rw [if_pos h3, zbl_n (show ¬ (3 : Int) = 0 by decide), zbl_n (fun z => z.2.2 h3)]
      · refine zo_neg h3 (zo_eq (go 0) ?_)
        rw [if_neg h3, zbl_p (show (0 : Int) = 0 from rfl), zbl_p ⟨h1, h2, h3⟩]
theorem b_passes2 {A t1 t2 : Int} (H : MSh S m A) : f_X8_passes2 m t1 t2 (S, μ) = some (.inl (zbl (¬ t1 = 0 ∧ ¬ t2 = 0)), (S, zup μ m 0 (if t1 = 0 then 1 else if t2 = 0 then 2 else 0))) := by
  obtain ⟨v, e, hv⟩ := b_passes3 (μ := μ) (t1 := t1) (t2 := t2) (t3 := 1) H
  rw [if_neg (show ¬ (1 : Int) = 0 by decide)] at hv
  rw [zbl_i (show (¬ t1 = 0 ∧ ¬ t2 = 0 ∧ ¬ (1 : Int) = 0) ↔ (¬ t1 = 0 ∧ ¬ t2 = 0) from ⟨fun z => ⟨z.1, z.2.1⟩, fun z => ⟨z.1, z.2, by decide⟩⟩)] at e
  rw [← hv]
  apply zo_un
  refine j_X8_passes2 ?_
  refine zo_ob H.o (by omega) ?_
  refine zo_bn e ?_
  exact zo_pos (zbl_01 _) (zo_rt rfl)
theorem b_passes {A t1 : Int} (H : MSh S m A) : f_X8_passes m t1 (S, μ) = some (.inl (zbl (¬ t1 = 0)), (S, zup μ m 0 (if t1 = 0 then 1 else 0))) := by
  obtain ⟨v, e, hv⟩ := b_passes3 (μ := μ) (t1 := t1) (t2 := 1) (t3 := 1) H
  rw [if_neg (show ¬ (1 : Int) = 0 by decide), if_neg (show ¬ (1 : Int) = 0 by decide)] at hv
  rw [zbl_i (show (¬ t1 = 0 ∧ ¬ (1 : Int) = 0 ∧ ¬ (1 : Int) = 0) ↔ (¬ t1 = 0) from ⟨fun z => z.1, fun z => ⟨z, by decide, by decide⟩⟩)] at e
  rw [← hv]
  apply zo_un
  refine j_X8_passes ?_
  refine zo_ob H.o (by omega) ?_
  refine zo_bn e ?_
  exact zo_pos (zbl_01 _) (zo_rt rfl)
end C60
