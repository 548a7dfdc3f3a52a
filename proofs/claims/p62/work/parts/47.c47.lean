/-! C 47: the model's desk -/
abbrev zAr : Type := Int → Int
def LR8 (g : zAr) (i : Int) (l : List zP) : Prop := g (87 + 253 * i) = (l.length : Int) ∧ ∀ (k : Nat) (p : zP), l[k]? = some p → ∀ c : Nat, c < 7 → g (88 + 253 * i + 7 * (k : Int) + (c : Int)) = p c
def QR8 (g : zAr) (l : List zP) : Prop := g 8 = (l.length : Int) ∧ ∀ (k : Nat) (p : zP), l[k]? = some p → ∀ c : Nat, c < 8 → g (1605 + 8 * (k : Int) + (c : Int)) = p c
def FA (A : Int) (μ μ' : zM) : Prop := ∀ x, x ≠ A → μ' x = μ x
theorem FA.rf {A : Int} {μ : zM} : FA A μ μ := fun _ _ => rfl
theorem FA.tr {A : Int} {μ μ1 μ2 : zM} (h : FA A μ μ1) (k : FA A μ1 μ2) : FA A μ μ2 := fun x hx => (k x hx).trans (h x hx)
theorem FA.up {A i v : Int} {μ : zM} : FA A μ (zup μ A i v) := fun x hx => zup_c hx
theorem LR8.frame {g g' : zAr} {i : Int} {l : List zP} (h : LR8 g i l) (hl : l.length ≤ 36) (hf : ∀ j, 87 + 253 * i ≤ j → j < 340 + 253 * i → g' j = g j) : LR8 g' i l := by
  refine ⟨by rw [hf _ (by omega) (by omega)]; exact h.1, ?_⟩
  intro k p hk c hc
  have := (List.getElem?_eq_some_iff.mp hk).1
  rw [hf _ (by omega) (by omega)]
  exact h.2 k p hk c hc
theorem QR8.frame {g g' : zAr} {l : List zP} (h : QR8 g l) (hl : l.length ≤ 100) (h8 : g' 8 = g 8) (hf : ∀ j, 1605 ≤ j → j < 2405 → g' j = g j) : QR8 g' l := by
  refine ⟨by rw [h8]; exact h.1, ?_⟩
  intro k p hk c hc
  have := (List.getElem?_eq_some_iff.mp hk).1
  rw [hf _ (by omega) (by omega)]
  exact h.2 k p hk c hc
section C47
variable {S : zG} {μ μ' : zM} {m A : Int} {M : zD} {Q : zR × zS → Prop} {g g' : zAr}
end C47
