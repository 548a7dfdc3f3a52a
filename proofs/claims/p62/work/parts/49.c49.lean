/-! C 49: the model: a report comes, a probe, messages -/
section C49
variable {S : zG} {μ μ' : zM} {m A B : Int} {M : zD} {Q : zR × zS → Prop} {g g' : zAr}
theorem LR8.snoc {i : Int} {l : List zP} {p : zP} (h : LR8 g i l) (hc : g' (87 + 253 * i) = (l.length : Int) + 1) (hv : ∀ c : Nat, c < 7 → g' (88 + 253 * i + 7 * (l.length : Int) + (c : Int)) = p c) (hf : ∀ j, 88 + 253 * i ≤ j → j < 88 + 253 * i + 7 * (l.length : Int) → g' j = g j) : LR8 g' i (l ++ [p]) := by
  refine ⟨by rw [hc, List.length_append]; rfl, ?_⟩
  intro k q hk c hc7
  rcases snoc_get hk with ⟨h1, h2⟩ | ⟨h1, h2⟩
  · rw [hf _ (by omega) (by omega)]
    exact h.2 k q h2 c hc7
  · rw [h1, h2]
    exact hv c hc7
theorem QR8.snoc {l : List zP} {p : zP} (h : QR8 g l) (hc : g' 8 = (l.length : Int) + 1) (hv : ∀ c : Nat, c < 8 → g' (1605 + 8 * (l.length : Int) + (c : Int)) = p c) (hf : ∀ j, 1605 ≤ j → j < 1605 + 8 * (l.length : Int) → g' j = g j) : QR8 g' (l ++ [p]) := by
  refine ⟨by rw [hc, List.length_append]; rfl, ?_⟩
  intro k q hk c hc7
  rcases snoc_get hk with ⟨h1, h2⟩ | ⟨h1, h2⟩
  · rw [hf _ (by omega) (by omega)]
    exact h.2 k q h2 c hc7
  · rw [h1, h2]
    exact hv c hc7
end C49
