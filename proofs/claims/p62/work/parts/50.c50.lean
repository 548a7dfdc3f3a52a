/-! C 50: the model: spreading, delivering, time -/
section C50
variable {S : zG} {μ μ' : zM} {m A B : Int} {M X : zD} {Q : zR × zS → Prop} {g g' : zAr}
theorem QR8.tail {p : zP} {l : List zP} (h : QR8 g (p :: l)) (hc : g' 8 = (l.length : Int)) (hv : ∀ j, 1605 ≤ j → j < 1605 + 8 * (l.length : Int) → g' j = g (j + 8)) : QR8 g' l := by
  refine ⟨hc, ?_⟩
  intro k q hk c hc8
  have hl := (List.getElem?_eq_some_iff.mp hk).1
  have := h.2 (k + 1) q hk c hc8
  rw [hv _ (by omega) (by omega), ← this]
  congr 1
  omega
end C50
