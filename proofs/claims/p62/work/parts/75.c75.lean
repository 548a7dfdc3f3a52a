/-! C 75: writing beliefs and reports -/
def OB (μ : zM) (b i a : Int) (l : List Int) (n : Nat) : Prop := (LBy μ l b i a) ∧ (l.length ≤ n) ∧ (∀ y, y ∈ l → 0 ≤ y)
theorem OB.mk {μ : zM} {b i a : Int} {l : List Int} {n : Nat} (h : (LBy μ l b i a) ∧ (l.length ≤ n) ∧ (∀ y, y ∈ l → 0 ≤ y)) : OB μ b i a l n := h
theorem OB.L {μ : zM} {b i a : Int} {l : List Int} {n : Nat} (h : OB μ b i a l n) : LBy μ l b i a := h.1
theorem OB.n {μ : zM} {b i a : Int} {l : List Int} {n : Nat} (h : OB μ b i a l n) : l.length ≤ n := h.2.1
theorem OB.g {μ : zM} {b i a : Int} {l : List Int} {n : Nat} (h : OB μ b i a l n) : ∀ y, y ∈ l → 0 ≤ y := h.2.2
def FQ (x : Int) (μ μ' : zM) : Prop := ∀ y, (y < x + 3 ∨ x + 12 ≤ y) → μ' y = μ y
def FZ (m : Int) (μ μ' : zM) : Prop := (∀ y, y ≠ m → y ≠ m + 3 → y ≠ m + 4 → y ≠ m + 11 → μ' y = μ y) ∧ (∀ k, k ≠ 0 → k ≠ 5 → k ≠ 6 → k ≠ 27 → μ' m k = μ m k)
theorem FZ.mk {m : Int} {μ μ' : zM} (h : (∀ y, y ≠ m → y ≠ m + 3 → y ≠ m + 4 → y ≠ m + 11 → μ' y = μ y) ∧ (∀ k, k ≠ 0 → k ≠ 5 → k ≠ 6 → k ≠ 27 → μ' m k = μ m k)) : FZ m μ μ' := h
theorem FZ.x {m : Int} {μ μ' : zM} (h : FZ m μ μ') : ∀ y, y ≠ m → y ≠ m + 3 → y ≠ m + 4 → y ≠ m + 11 → μ' y = μ y := h.1
theorem FZ.f {m : Int} {μ μ' : zM} (h : FZ m μ μ') : ∀ k, k ≠ 0 → k ≠ 5 → k ≠ 6 → k ≠ 27 → μ' m k = μ m k := h.2
theorem get_ex {α : Type} {l : List α} {k : Nat} (h : k < l.length) : ∃ y, l[k]? = some y ∧ y ∈ l := ⟨l[k], List.getElem?_eq_getElem h, List.getElem_mem h⟩
section C75
variable {S S' : zG} {μ μ' μ1 μ2 : zM} {x m d B A a b : Int} {n : Nat} {M M' : zD} {L : List zD} {K : zKs} {l inp out out' : List Int} {c p : Int} {P : zG → zM → Prop} {Q : zR × zS → Prop}
theorem FQ.rf : FQ x μ μ := fun _ _ => rfl
theorem FQ.tr (h : FQ x μ μ1) (k : FQ x μ1 μ2) : FQ x μ μ2 := fun y hy => (k y hy).trans (h y hy)
theorem FZ.rf : FZ m μ μ := FZ.mk ⟨fun _ _ _ _ _ => rfl, fun _ _ _ _ _ => rfl⟩
theorem FZ.tr (h : FZ m μ μ1) (k : FZ m μ1 μ2) : FZ m μ μ2 := FZ.mk ⟨fun y h1 h2 h3 h4 => (k.x y h1 h2 h3 h4).trans (h.x y h1 h2 h3 h4), fun i h1 h2 h3 h4 => (k.f i h1 h2 h3 h4).trans (h.f i h1 h2 h3 h4)⟩
theorem OB.v (h : OB μ (x + 3) 1 (x + 3 + 1) l n) (f : FV (x + 5) μ μ') : OB μ' (x + 3) 1 (x + 3 + 1) l n := OB.mk ⟨h.L.keep (by rw [f _ (by omega)]) (fun k => by rw [f _ (by omega)]), h.n, h.g⟩
theorem OB.w (h : OB μ m 27 (m + 11) l n) (f : FN m μ μ') : OB μ' m 27 (m + 11) l n := OB.mk ⟨h.L.keep (f.f _ (by decide) (by decide)) (fun k => by rw [f.x _ (by omega) (by omega) (by omega)]), h.n, h.g⟩
theorem OB.up {k : Nat} (h : OB μ b x a l n) (hk : n ≤ k) : OB μ b x a l k := OB.mk ⟨h.L, Nat.le_trans h.n hk, h.g⟩
end C75
