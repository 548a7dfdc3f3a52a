/-! C 74: writing numbers and names -/
def FO (m : Int) (μ μ' : zM) : Prop := (∀ y, y ≠ m → y ≠ m + 11 → μ' y = μ y) ∧ (∀ k, k ≠ 27 → μ' m k = μ m k)
theorem FO.mk {m : Int} {μ μ' : zM} (h : (∀ y, y ≠ m → y ≠ m + 11 → μ' y = μ y) ∧ (∀ k, k ≠ 27 → μ' m k = μ m k)) : FO m μ μ' := h
theorem FO.x {m : Int} {μ μ' : zM} (h : FO m μ μ') : ∀ y, y ≠ m → y ≠ m + 11 → μ' y = μ y := h.1
theorem FO.f {m : Int} {μ μ' : zM} (h : FO m μ μ') : ∀ k, k ≠ 27 → μ' m k = μ m k := h.2
section C74
variable {S S' : zG} {μ μ' μ1 μ2 : zM} {x m d B A b n : Int} {M M' : zD} {L : List zD} {K : zKs} {l inp out : List Int} {c p : Int} {P : zG → zM → Prop} {Q : zR × zS → Prop}
theorem FO.rf : FO m μ μ := FO.mk ⟨fun _ _ _ => rfl, fun _ _ => rfl⟩
theorem FO.tr (h : FO m μ μ1) (k : FO m μ1 μ2) : FO m μ μ2 := FO.mk ⟨fun y h1 h2 => (k.x y h1 h2).trans (h.x y h1 h2), fun i h1 => (k.f i h1).trans (h.f i h1)⟩
theorem FB.rf : FB b μ μ := fun _ _ _ => rfl
end C74
