/-! C 55: the model: time, copies -/
section C55
variable {S : zG} {μ μ' : zM} {m A B : Int} {M X : zD} {Q : zR × zS → Prop}
def zpush (L : List zD) (M : zD) : List zD := (if L.length = 6 then L.tail else L) ++ [M]
def FP (m : Int) (μ μ' : zM) : Prop := (∀ y, y ≠ m → y ≠ m + 10 → μ' y = μ y) ∧ (∀ k, k ≠ 25 → μ' m k = μ m k)
theorem FP.mk {m : Int} {μ μ' : zM} (h : (∀ y, y ≠ m → y ≠ m + 10 → μ' y = μ y) ∧ (∀ k, k ≠ 25 → μ' m k = μ m k)) : FP m μ μ' := h
theorem FP.x {m : Int} {μ μ' : zM} (h : FP m μ μ') : ∀ y, y ≠ m → y ≠ m + 10 → μ' y = μ y := h.1
theorem FP.f {m : Int} {μ μ' : zM} (h : FP m μ μ') : ∀ k, k ≠ 25 → μ' m k = μ m k := h.2
theorem FP.rf {m : Int} {μ : zM} : FP m μ μ := FP.mk ⟨fun _ _ _ => rfl, fun _ _ => rfl⟩
theorem FP.tr {m : Int} {μ μ1 μ2 : zM} (h : FP m μ μ1) (k : FP m μ1 μ2) : FP m μ μ2 := FP.mk ⟨fun y h1 h2 => (k.x y h1 h2).trans (h.x y h1 h2), fun i h1 => (k.f i h1).trans (h.f i h1)⟩
end C55
