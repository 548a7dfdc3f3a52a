/-! C 52: the model: beliefs -/
def BRel (M : zD) (a w x : Int) (μ : zM) (m : Int) (s : zBs) : Prop := (∀ (k : Nat) (p : zP), (M.li a)[k]? = some p → (p 3 = w ∧ ¬ p 1 = x) → μ (m + 3) (k : Int) = (if s.1 (p 0) = 3 then 0 else s.1 (p 0))) ∧ (∀ (k : Nat) (p : zP), (M.li a)[k]? = some p → (p 3 = w ∧ ¬ p 1 = x) → μ (m + 4) (k : Int) = zbl (¬ s.1 (p 0) = 3)) ∧ (∀ (k : Nat) (p : zP), (M.li a)[k]? = some p → ¬ (p 3 = w ∧ ¬ p 1 = x) → μ (m + 3) (k : Int) = -1) ∧ (∀ (k : Nat) (p : zP), (M.li a)[k]? = some p → ¬ (p 3 = w ∧ ¬ p 1 = x) → μ (m + 4) (k : Int) = 1) ∧ (μ m 5 = s.2.1) ∧ (μ m 6 = s.2.2)
theorem BRel.mk {M : zD} {a w x : Int} {μ : zM} {m : Int} {s : zBs} (h : (∀ (k : Nat) (p : zP), (M.li a)[k]? = some p → (p 3 = w ∧ ¬ p 1 = x) → μ (m + 3) (k : Int) = (if s.1 (p 0) = 3 then 0 else s.1 (p 0))) ∧ (∀ (k : Nat) (p : zP), (M.li a)[k]? = some p → (p 3 = w ∧ ¬ p 1 = x) → μ (m + 4) (k : Int) = zbl (¬ s.1 (p 0) = 3)) ∧ (∀ (k : Nat) (p : zP), (M.li a)[k]? = some p → ¬ (p 3 = w ∧ ¬ p 1 = x) → μ (m + 3) (k : Int) = -1) ∧ (∀ (k : Nat) (p : zP), (M.li a)[k]? = some p → ¬ (p 3 = w ∧ ¬ p 1 = x) → μ (m + 4) (k : Int) = 1) ∧ (μ m 5 = s.2.1) ∧ (μ m 6 = s.2.2)) : BRel M a w x μ m s := h
theorem BRel.s2 {M : zD} {a w x : Int} {μ : zM} {m : Int} {s : zBs} (h : BRel M a w x μ m s) : ∀ (k : Nat) (p : zP), (M.li a)[k]? = some p → ¬ (p 3 = w ∧ ¬ p 1 = x) → μ (m + 3) (k : Int) = -1 := h.2.2.1
theorem BRel.lo {M : zD} {a w x : Int} {μ : zM} {m : Int} {s : zBs} (h : BRel M a w x μ m s) : μ m 5 = s.2.1 := h.2.2.2.2.1
theorem BRel.hi {M : zD} {a w x : Int} {μ : zM} {m : Int} {s : zBs} (h : BRel M a w x μ m s) : μ m 6 = s.2.2 := h.2.2.2.2.2
def FN (m : Int) (μ μ' : zM) : Prop := (∀ y, y ≠ m → y ≠ m + 3 → y ≠ m + 4 → μ' y = μ y) ∧ (∀ k, k ≠ 5 → k ≠ 6 → μ' m k = μ m k)
theorem FN.mk {m : Int} {μ μ' : zM} (h : (∀ y, y ≠ m → y ≠ m + 3 → y ≠ m + 4 → μ' y = μ y) ∧ (∀ k, k ≠ 5 → k ≠ 6 → μ' m k = μ m k)) : FN m μ μ' := h
theorem FN.x {m : Int} {μ μ' : zM} (h : FN m μ μ') : ∀ y, y ≠ m → y ≠ m + 3 → y ≠ m + 4 → μ' y = μ y := h.1
theorem FN.f {m : Int} {μ μ' : zM} (h : FN m μ μ') : ∀ k, k ≠ 5 → k ≠ 6 → μ' m k = μ m k := h.2
theorem FN.rf {m : Int} {μ : zM} : FN m μ μ := FN.mk ⟨fun _ _ _ _ => rfl, fun _ _ _ => rfl⟩
theorem FN.tr {m : Int} {μ μ1 μ2 : zM} (h : FN m μ μ1) (k : FN m μ1 μ2) : FN m μ μ2 := FN.mk ⟨fun y h1 h2 h3 => (k.x y h1 h2 h3).trans (h.x y h1 h2 h3), fun i h1 h2 => (k.f i h1 h2).trans (h.f i h1 h2)⟩
theorem znx_c (R : zP → Int) (st : Int → Int) (e : Nat × zP) (r : zEn) (b : Option zP) : znx R st (e :: r) b = if st (e.2 0) = 3 ∧ (∀ q, b = some q → R e.2 < R q) then znx R st r (some e.2) else znx R st r b := rfl
theorem znx_mem {R : zP → Int} {st : Int → Int} : ∀ (X : zEn) (b : Option zP) (p : zP), znx R st X b = some p → (∃ r, (r, p) ∈ X ∧ st (p 0) = 3) ∨ b = some p := by
  intro X
  induction X with
  | nil => intro b p h; exact Or.inr h
  | cons e s ih =>
    intro b p h
    rw [znx_c] at h
    split at h
    · rename_i hc
      rcases ih _ _ h with ⟨r, h1, h2⟩ | h1
      · exact Or.inl ⟨r, List.mem_cons_of_mem _ h1, h2⟩
      · have e1 : e.2 = p := Option.some.inj h1
        refine Or.inl ⟨e.1, ?_, by rw [← e1]; exact hc.1⟩
        rw [← e1]
        exact List.mem_cons_self ..
    · rcases ih _ _ h with ⟨r, h1, h2⟩ | h1
      · exact Or.inl ⟨r, List.mem_cons_of_mem _ h1, h2⟩
      · exact Or.inr h1
section C52
variable {S : zG} {μ μ' : zM} {m A B a w x : Int} {M X : zD} {Q : zR × zS → Prop} {s : zBs}
end C52
