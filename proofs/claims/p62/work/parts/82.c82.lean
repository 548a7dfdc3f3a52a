/-! C 82: the model reads a text -/
def FPZ (m : Int) (μ μ' : zM) : Prop := (∀ y, y ≠ m → y ≠ m + 2 → μ' y = μ y) ∧ (∀ k, k ≤ 12 ∨ 19 ≤ k → μ' m k = μ m k)
theorem FPZ.mk {m : Int} {μ μ' : zM} (h : (∀ y, y ≠ m → y ≠ m + 2 → μ' y = μ y) ∧ (∀ k, k ≤ 12 ∨ 19 ≤ k → μ' m k = μ m k)) : FPZ m μ μ' := h
theorem FPZ.e {m : Int} {μ μ' : zM} (h : FPZ m μ μ') : ∀ y, y ≠ m → y ≠ m + 2 → μ' y = μ y := h.1
theorem FPZ.f {m : Int} {μ μ' : zM} (h : FPZ m μ μ') : ∀ k, k ≤ 12 ∨ 19 ≤ k → μ' m k = μ m k := h.2
section C82
variable {S S' : zG} {μ μ' μ1 μ2 : zM} {m B : Int} {l : List Int} {t t' : zTk} {X X' : zD} {e : zEr} {Q : zR × zS → Prop}
theorem FPZ.rf : FPZ m μ μ := FPZ.mk ⟨fun _ _ _ => rfl, fun _ _ => rfl⟩
theorem FPZ.tr (h : FPZ m μ μ1) (k : FPZ m μ1 μ2) : FPZ m μ μ2 := FPZ.mk ⟨fun y h1 h2 => (k.e y h1 h2).trans (h.e y h1 h2), fun i h1 => (k.f i h1).trans (h.f i h1)⟩
theorem GM.a (h : GM μ m l t) (f : FA (m + 2) μ μ') : GM μ' m l t := by
  have e : μ' m = μ m := f m (by omega)
  unfold GM at *
  rw [e]
  exact ⟨TM.mk ⟨by rw [e]; exact h.1.k, by rw [e]; exact h.1.s, by rw [e]; exact h.1.n, fun z => by rw [e]; exact h.1.v2 z, fun z y hy => by rw [e]; exact h.1.v3 z y hy⟩, h.2⟩
theorem EM.a (h : EM μ m e) (f : FA (m + 2) μ μ') : EM μ' m e := by
  unfold EM at *
  rw [f m (by omega)]
  exact h
end C82
