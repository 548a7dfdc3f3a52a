/-! C 57: the class's world, its history -/
theorem RSh.keep {S S' : zG} {a n : Int} (h : RSh S a n) (h0 : S'.1 a = S.1 a) (h1 : S'.1 (a + 1) = S.1 (a + 1)) (h2 : S'.2.1 a 0 = S.2.1 a 0) : RSh S' a n := RSh.mk ⟨h0.trans h.o, h2.trans h.r, h1.trans h.c⟩
theorem NSh.keep {S S' : zG} {a : Int} (h : NSh S a) (h0 : S'.1 a = S.1 a) (h1 : S'.1 (a + 1) = S.1 (a + 1)) (h2 : S'.2.1 a 0 = S.2.1 a 0) : NSh S' a := NSh.mk ⟨h0.trans h.o, h2.trans h.r, h1.trans h.c⟩
theorem DSh.keep {S S' : zG} {d : Int} (h : DSh S d) (hs : ∀ y, d ≤ y → y < d + 25 → S'.1 y = S.1 y) (hr : ∀ y j, d ≤ y → y < d + 25 → S'.2.1 y j = S.2.1 y j) : DSh S' d :=
  DSh.mk ⟨(hs _ (by omega) (by omega)).trans h.o, (hr _ _ (by omega) (by omega)).trans h.r0, (hr _ _ (by omega) (by omega)).trans h.r1, (hr _ _ (by omega) (by omega)).trans h.r2, (hr _ _ (by omega) (by omega)).trans h.r3, (hr _ _ (by omega) (by omega)).trans h.r4, (hr _ _ (by omega) (by omega)).trans h.r5, (hr _ _ (by omega) (by omega)).trans h.r6, (hr _ _ (by omega) (by omega)).trans h.r7, (hs _ (by omega) (by omega)).trans h.ru, h.ag.keep (hs _ (by omega) (by omega)) (hs _ (by omega) (by omega)) (hr _ _ (by omega) (by omega)), h.wa.keep (hs _ (by omega) (by omega)) (hs _ (by omega) (by omega)) (hr _ _ (by omega) (by omega)), (hs _ (by omega) (by omega)).trans h.tr, (hs _ (by omega) (by omega)).trans h.li, fun i h1 h2 => (hr _ _ (by omega) (by omega)).trans (h.lr i h1 h2), h.em.keep (hs _ (by omega) (by omega)) (hs _ (by omega) (by omega)) (hr _ _ (by omega) (by omega)), h.qu.keep (hs _ (by omega) (by omega)) (hs _ (by omega) (by omega)) (hr _ _ (by omega) (by omega)), (hs _ (by omega) (by omega)).trans h.ac, fun i h1 h2 => (h.ls i h1 h2).keep (hs _ (by omega) (by omega)) (hs _ (by omega) (by omega)) (hr _ _ (by omega) (by omega))⟩
theorem D7.shape {S S' : zG} {μ : zM} {d : Int} {M : zD} (h : D7 S μ d M) (D : DSh S' d) : D7 S' μ d M := D7.mk ⟨D, h.d0, h.al, h.wl, h.ll, h.ql, h.ru, h.an0, h.an, h.wn0, h.wn, h.T, h.em, h.li, h.qu, h.ac, h.tm⟩
theorem D7.keep2 {S S' : zG} {μ μ' : zM} {d : Int} {M : zD} (h : D7 S μ d M) (hs : ∀ y, d ≤ y → y < d + 25 → S'.1 y = S.1 y) (hr : ∀ y j, d ≤ y → y < d + 25 → S'.2.1 y j = S.2.1 y j) (hf : ∀ y, d ≤ y → y < d + 25 → μ' y = μ y) : D7 S' μ' d M := (h.keep hf).shape (h.sh.keep hs hr)
def Pool (S : zG) (μ : zM) (Z : Int) (r : Nat → Int) : Prop := (0 ≤ Z ∧ Z ≤ S.2.2) ∧ (∀ i, i < 8 → r i = -1 ∨ (Z ≤ r i ∧ r i + 25 ≤ S.2.2 ∧ DSh S (r i) ∧ μ (r i + 8) 1 = 0)) ∧ (∀ i j, i < 8 → j < 8 → i ≠ j → r i = -1 ∨ r j = -1 ∨ r i + 25 ≤ r j ∨ r j + 25 ≤ r i)
theorem Pool.mk {S : zG} {μ : zM} {Z : Int} {r : Nat → Int} (h : (0 ≤ Z ∧ Z ≤ S.2.2) ∧ (∀ i, i < 8 → r i = -1 ∨ (Z ≤ r i ∧ r i + 25 ≤ S.2.2 ∧ DSh S (r i) ∧ μ (r i + 8) 1 = 0)) ∧ (∀ i j, i < 8 → j < 8 → i ≠ j → r i = -1 ∨ r j = -1 ∨ r i + 25 ≤ r j ∨ r j + 25 ≤ r i)) : Pool S μ Z r := h
theorem Pool.nz {S : zG} {μ : zM} {Z : Int} {r : Nat → Int} (h : Pool S μ Z r) : 0 ≤ Z ∧ Z ≤ S.2.2 := h.1
theorem Pool.ok {S : zG} {μ : zM} {Z : Int} {r : Nat → Int} (h : Pool S μ Z r) : ∀ i, i < 8 → r i = -1 ∨ (Z ≤ r i ∧ r i + 25 ≤ S.2.2 ∧ DSh S (r i) ∧ μ (r i + 8) 1 = 0) := h.2.1
theorem Pool.dj {S : zG} {μ : zM} {Z : Int} {r : Nat → Int} (h : Pool S μ Z r) : ∀ i j, i < 8 → j < 8 → i ≠ j → r i = -1 ∨ r j = -1 ∨ r i + 25 ≤ r j ∨ r j + 25 ≤ r i := h.2.2
def HR7 (S : zG) (μ : zM) (x Z : Int) (r : Nat → Int) (L : List zD) (K : Nat → Option zD) : Prop := (Pool S μ Z r) ∧ (0 ≤ x ∧ x + 66 ≤ Z) ∧ (S.1 (x + 63) = some (0, 2)) ∧ (S.2.1 (x + 63) 0 = x + 64) ∧ (S.1 (x + 64) = some (7, 6)) ∧ (S.1 (x + 65) = some (7, 2)) ∧ (∀ i : Nat, i < 6 → S.2.1 (x + 64) (i : Int) = r i) ∧ (∀ i : Nat, i < 2 → S.2.1 (x + 65) (i : Int) = r (6 + i)) ∧ (L.length ≤ 6) ∧ (μ (x + 63) 1 = (L.length : Int)) ∧ (∀ (i : Nat) (X : zD), L[i]? = some X → ¬ r i = -1 ∧ D7 S μ (r i) X) ∧ (∀ i : Nat, i < 2 → K i = none → r (6 + i) = -1) ∧ (∀ (i : Nat) (X : zD), i < 2 → K i = some X → ¬ r (6 + i) = -1 ∧ D7 S μ (r (6 + i)) X)
theorem HR7.mk {S : zG} {μ : zM} {x Z : Int} {r : Nat → Int} {L : List zD} {K : Nat → Option zD} (h : (Pool S μ Z r) ∧ (0 ≤ x ∧ x + 66 ≤ Z) ∧ (S.1 (x + 63) = some (0, 2)) ∧ (S.2.1 (x + 63) 0 = x + 64) ∧ (S.1 (x + 64) = some (7, 6)) ∧ (S.1 (x + 65) = some (7, 2)) ∧ (∀ i : Nat, i < 6 → S.2.1 (x + 64) (i : Int) = r i) ∧ (∀ i : Nat, i < 2 → S.2.1 (x + 65) (i : Int) = r (6 + i)) ∧ (L.length ≤ 6) ∧ (μ (x + 63) 1 = (L.length : Int)) ∧ (∀ (i : Nat) (X : zD), L[i]? = some X → ¬ r i = -1 ∧ D7 S μ (r i) X) ∧ (∀ i : Nat, i < 2 → K i = none → r (6 + i) = -1) ∧ (∀ (i : Nat) (X : zD), i < 2 → K i = some X → ¬ r (6 + i) = -1 ∧ D7 S μ (r (6 + i)) X)) : HR7 S μ x Z r L K := h
theorem HR7.P {S : zG} {μ : zM} {x Z : Int} {r : Nat → Int} {L : List zD} {K : Nat → Option zD} (h : HR7 S μ x Z r L K) : Pool S μ Z r := h.1
theorem HR7.xz {S : zG} {μ : zM} {x Z : Int} {r : Nat → Int} {L : List zD} {K : Nat → Option zD} (h : HR7 S μ x Z r L K) : 0 ≤ x ∧ x + 66 ≤ Z := h.2.1
theorem HR7.o {S : zG} {μ : zM} {x Z : Int} {r : Nat → Int} {L : List zD} {K : Nat → Option zD} (h : HR7 S μ x Z r L K) : S.1 (x + 63) = some (0, 2) := h.2.2.1
theorem HR7.a {S : zG} {μ : zM} {x Z : Int} {r : Nat → Int} {L : List zD} {K : Nat → Option zD} (h : HR7 S μ x Z r L K) : S.2.1 (x + 63) 0 = x + 64 := h.2.2.2.1
theorem HR7.s {S : zG} {μ : zM} {x Z : Int} {r : Nat → Int} {L : List zD} {K : Nat → Option zD} (h : HR7 S μ x Z r L K) : S.1 (x + 64) = some (7, 6) := h.2.2.2.2.1
theorem HR7.s2 {S : zG} {μ : zM} {x Z : Int} {r : Nat → Int} {L : List zD} {K : Nat → Option zD} (h : HR7 S μ x Z r L K) : S.1 (x + 65) = some (7, 2) := h.2.2.2.2.2.1
theorem HR7.r6 {S : zG} {μ : zM} {x Z : Int} {r : Nat → Int} {L : List zD} {K : Nat → Option zD} (h : HR7 S μ x Z r L K) : ∀ i : Nat, i < 6 → S.2.1 (x + 64) (i : Int) = r i := h.2.2.2.2.2.2.1
theorem HR7.r2 {S : zG} {μ : zM} {x Z : Int} {r : Nat → Int} {L : List zD} {K : Nat → Option zD} (h : HR7 S μ x Z r L K) : ∀ i : Nat, i < 2 → S.2.1 (x + 65) (i : Int) = r (6 + i) := h.2.2.2.2.2.2.2.1
theorem HR7.n {S : zG} {μ : zM} {x Z : Int} {r : Nat → Int} {L : List zD} {K : Nat → Option zD} (h : HR7 S μ x Z r L K) : L.length ≤ 6 := h.2.2.2.2.2.2.2.2.1
theorem HR7.c {S : zG} {μ : zM} {x Z : Int} {r : Nat → Int} {L : List zD} {K : Nat → Option zD} (h : HR7 S μ x Z r L K) : μ (x + 63) 1 = (L.length : Int) := h.2.2.2.2.2.2.2.2.2.1
theorem HR7.L {S : zG} {μ : zM} {x Z : Int} {r : Nat → Int} {L : List zD} {K : Nat → Option zD} (h : HR7 S μ x Z r L K) : ∀ (i : Nat) (X : zD), L[i]? = some X → ¬ r i = -1 ∧ D7 S μ (r i) X := h.2.2.2.2.2.2.2.2.2.2.1
theorem HR7.K0 {S : zG} {μ : zM} {x Z : Int} {r : Nat → Int} {L : List zD} {K : Nat → Option zD} (h : HR7 S μ x Z r L K) : ∀ i : Nat, i < 2 → K i = none → r (6 + i) = -1 := h.2.2.2.2.2.2.2.2.2.2.2.1
theorem HR7.K1 {S : zG} {μ : zM} {x Z : Int} {r : Nat → Int} {L : List zD} {K : Nat → Option zD} (h : HR7 S μ x Z r L K) : ∀ (i : Nat) (X : zD), i < 2 → K i = some X → ¬ r (6 + i) = -1 ∧ D7 S μ (r (6 + i)) X := h.2.2.2.2.2.2.2.2.2.2.2.2
def FH (x Z : Int) (S S' : zG) (μ μ' : zM) : Prop := (∀ y, y < Z → S'.1 y = S.1 y) ∧ (∀ y j, y < Z → y ≠ x + 64 → y ≠ x + 65 → S'.2.1 y j = S.2.1 y j) ∧ (∀ y, y < Z → y ≠ x + 63 → μ' y = μ y) ∧ (S.2.2 ≤ S'.2.2)
theorem FH.mk {x Z : Int} {S S' : zG} {μ μ' : zM} (h : (∀ y, y < Z → S'.1 y = S.1 y) ∧ (∀ y j, y < Z → y ≠ x + 64 → y ≠ x + 65 → S'.2.1 y j = S.2.1 y j) ∧ (∀ y, y < Z → y ≠ x + 63 → μ' y = μ y) ∧ (S.2.2 ≤ S'.2.2)) : FH x Z S S' μ μ' := h
theorem FH.sh {x Z : Int} {S S' : zG} {μ μ' : zM} (h : FH x Z S S' μ μ') : ∀ y, y < Z → S'.1 y = S.1 y := h.1
theorem FH.rf {x Z : Int} {S S' : zG} {μ μ' : zM} (h : FH x Z S S' μ μ') : ∀ y j, y < Z → y ≠ x + 64 → y ≠ x + 65 → S'.2.1 y j = S.2.1 y j := h.2.1
theorem FH.m {x Z : Int} {S S' : zG} {μ μ' : zM} (h : FH x Z S S' μ μ') : ∀ y, y < Z → y ≠ x + 63 → μ' y = μ y := h.2.2.1
theorem FH.nx {x Z : Int} {S S' : zG} {μ μ' : zM} (h : FH x Z S S' μ μ') : S.2.2 ≤ S'.2.2 := h.2.2.2
section C57
variable {S S' : zG} {μ μ' : zM} {x Z : Int} {r : Nat → Int} {L : List zD} {K : Nat → Option zD} {M : zD} {Q : zR × zS → Prop}
theorem HR7.keep (h : HR7 S μ x Z r L K) (hm : ∀ y, y = x + 63 ∨ Z ≤ y → μ' y = μ y) : HR7 S μ' x Z r L K := by
  have hP := h.P
  have pool : ∀ i X, i < 8 → ¬ r i = -1 → D7 S μ (r i) X → D7 S μ' (r i) X := by
    intro i X hi hn hd
    rcases hP.ok i hi with h1 | h1
    · exact absurd h1 hn
    · exact hd.keep (fun y h2 h3 => hm y (Or.inr (by omega)))
  refine HR7.mk ⟨Pool.mk ⟨hP.nz, ?_, hP.dj⟩, h.xz, h.o, h.a, h.s, h.s2, h.r6, h.r2, h.n, ?_, ?_, h.K0, ?_⟩
  · intro i hi
    rcases hP.ok i hi with h1 | ⟨h1, h2, h3, h4⟩
    · exact Or.inl h1
    · exact Or.inr ⟨h1, h2, h3, by rw [hm _ (Or.inr (by omega))]; exact h4⟩
  · rw [hm _ (Or.inl rfl)]
    exact h.c
  · intro i X hi
    have hil := (List.getElem?_eq_some_iff.mp hi).1
    have hn := h.n
    obtain ⟨h1, h2⟩ := h.L i X hi
    exact ⟨h1, pool i X (by omega) h1 h2⟩
  · intro i X hi hk
    obtain ⟨h1, h2⟩ := h.K1 i X hi hk
    exact ⟨h1, pool (6 + i) X (by omega) h1 h2⟩
theorem HR7.put (h : HR7 S μ x Z r L K) {k : Nat} (hk : k < 8) (hn : ¬ r k = -1) (hf : FR (r k) μ μ') (hem : μ' (r k + 8) 1 = 0) {L' : List zD} {K' : Nat → Option zD} (hL : ∀ i X, L'[i]? = some X → (i ≠ k ∧ L[i]? = some X) ∨ (i = k ∧ D7 S μ' (r k) X)) (hl : L'.length = L.length) (hK0 : ∀ i : Nat, i < 2 → K' i = none → r (6 + i) = -1) (hK : ∀ i X, i < 2 → K' i = some X → (6 + i ≠ k ∧ K i = some X) ∨ (6 + i = k ∧ D7 S μ' (r k) X)) : HR7 S μ' x Z r L' K' := by
  have hP := h.P
  have hxz := h.xz
  have hok : Z ≤ r k := by
    rcases hP.ok k hk with h1 | h1
    · exact absurd h1 hn
    · exact h1.1
  have pool : ∀ i X, i < 8 → i ≠ k → ¬ r i = -1 → D7 S μ (r i) X → D7 S μ' (r i) X := by
    intro i X hi hik hn2 hd
    rcases hP.dj i k hi hk hik with h1 | h1 | h1 | h1
    · exact absurd h1 hn2
    · exact absurd h1 hn
    · exact hd.keep (fun y h2 h3 => hf y (by omega))
    · exact hd.keep (fun y h2 h3 => hf y (by omega))
  refine HR7.mk ⟨Pool.mk ⟨hP.nz, ?_, hP.dj⟩, h.xz, h.o, h.a, h.s, h.s2, h.r6, h.r2, by rw [hl]; exact h.n, ?_, ?_, hK0, ?_⟩
  · intro i hi
    rcases hP.ok i hi with h1 | ⟨h1, h2, h3, h4⟩
    · exact Or.inl h1
    · refine Or.inr ⟨h1, h2, h3, ?_⟩
      by_cases e : i = k
      · rw [e]; exact hem
      · rcases hP.dj i k hi hk e with h5 | h5 | h5 | h5
        · omega
        · exact absurd h5 hn
        · rw [hf _ (by omega)]; exact h4
        · rw [hf _ (by omega)]; exact h4
  · rw [hf _ (by omega), hl]
    exact h.c
  · intro i X hi
    have hil := (List.getElem?_eq_some_iff.mp hi).1
    have hn2 := h.n
    rcases hL i X hi with ⟨h1, h2⟩ | ⟨h1, h2⟩
    · obtain ⟨h3, h4⟩ := h.L i X h2
      exact ⟨h3, pool i X (by omega) h1 h3 h4⟩
    · subst h1
      exact ⟨hn, h2⟩
  · intro i X hi hk2
    rcases hK i X hi hk2 with ⟨h1, h2⟩ | ⟨h1, h2⟩
    · obtain ⟨h3, h4⟩ := h.K1 i X hi h2
      exact ⟨h3, pool (6 + i) X (by omega) h1 h3 h4⟩
    · rw [h1]
      exact ⟨hn, h2⟩
theorem HR7.cnt (h : HR7 S μ x Z r L K) {L' : List zD} (hl : L'.length ≤ 6) (hL : ∀ i X, L'[i]? = some X → ¬ r i = -1 ∧ D7 S μ (r i) X) : HR7 S (zup μ (x + 63) 1 (L'.length : Int)) x Z r L' K := by
  have hP := h.P
  have hxz := h.xz
  have keep : ∀ i X, i < 8 → ¬ r i = -1 → D7 S μ (r i) X → D7 S (zup μ (x + 63) 1 (L'.length : Int)) (r i) X := by
    intro i X hi hn hd
    rcases hP.ok i hi with h1 | h1
    · exact absurd h1 hn
    · exact hd.keep (fun y h2 h3 => zup_c (by omega))
  refine HR7.mk ⟨Pool.mk ⟨hP.nz, ?_, hP.dj⟩, h.xz, h.o, h.a, h.s, h.s2, h.r6, h.r2, hl, zup_at, ?_, h.K0, ?_⟩
  · intro i hi
    rcases hP.ok i hi with h1 | ⟨h1, h2, h3, h4⟩
    · exact Or.inl h1
    · exact Or.inr ⟨h1, h2, h3, by rw [zup_b (by omega)]; exact h4⟩
  · intro i X hi
    have hil := (List.getElem?_eq_some_iff.mp hi).1
    obtain ⟨h1, h2⟩ := hL i X hi
    exact ⟨h1, keep i X (by omega) h1 h2⟩
  · intro i X hi hk
    obtain ⟨h1, h2⟩ := h.K1 i X hi hk
    exact ⟨h1, keep (6 + i) X (by omega) h1 h2⟩
theorem HR7.new {σ' : zS} (h : HR7 S μ x Z r L K) {k : Nat} (hk : k < 8) (hn : r k = -1) {σ1 σ2 : zS} (h1 : MkN S.2.2 (S.2.2 + 1) (S, μ) (0, 1) σ1) (hd : D7 σ2.1 σ2.2 S.2.2 zD0) (hnx : σ2.1.2.2 = S.2.2 + 25) (hb : BL S.2.2 σ1 σ2)
    (h3 : PrR (if k < 6 then x + 64 else x + 65) (if k < 6 then (k : Int) else (k : Int) - 6) S.2.2 σ2 σ') (hK : k < 6 ∨ ∃ i, i < 2 ∧ k = 6 + i) : HR7 σ'.1 σ'.2 x Z (fun i => if i = k then S.2.2 else r i) L (fun i => if 6 + i = k then some zD0 else K i) ∧ FH x Z S σ'.1 μ σ'.2 ∧ σ'.1.2.2 = S.2.2 + 25 := by
  have hP := h.P
  have hxz := h.xz
  have hnz := hP.nz
  have hadr : (if k < 6 then x + 64 else x + 65) < S.2.2 := by split <;> omega
  have esh : ∀ y, y < S.2.2 → σ'.1.1 y = S.1 y := fun y hy => by rw [h3.sh, hb.sh y hy, h1.sh y (by omega)]
  have em : ∀ y j, y < S.2.2 → σ'.2 y j = μ y j := fun y j hy => by rw [h3.m, hb.m y j hy, h1.m y j (by omega)]
  have erf : ∀ y j, y < S.2.2 → y ≠ (if k < 6 then x + 64 else x + 65) → σ'.1.2.1 y j = S.2.1 y j := fun y j hy hne => by rw [h3.rf y j hne, hb.rf y j hy, h1.rf y j (by omega)]
  have hnew : D7 σ'.1 σ'.2 S.2.2 zD0 := hd.keep2 (fun y h2 h4 => congrFun h3.sh y) (fun y j h2 h4 => h3.rf y j (by omega)) (fun y h2 h4 => by rw [h3.m])
  have old : ∀ i X, i < 8 → ¬ r i = -1 → D7 S μ (r i) X → D7 σ'.1 σ'.2 (r i) X := by
    intro i X hi hn2 hd2
    rcases hP.ok i hi with h5 | h5
    · exact absurd h5 hn2
    · exact hd2.keep2 (fun y h2 h4 => esh y (by omega)) (fun y j h2 h4 => erf y j (by omega) (by split <;> omega)) (fun y h2 h4 => funext fun j => em y j (by omega))
  have hnx' : σ'.1.2.2 = S.2.2 + 25 := by rw [h3.nx, hnx]
  have hne6 : ∀ i : Nat, i < 6 → 6 + (k - 6) = k → ¬ i = k := fun i h2 h4 => by omega
  refine ⟨HR7.mk ⟨Pool.mk ⟨by rw [hnx']; omega, ?_, ?_⟩, hxz, ?_, ?_, ?_, ?_, ?_, ?_, h.n, ?_, ?_, ?_, ?_⟩, FH.mk ⟨fun y hy => esh y (by omega), fun y j hy h4 h5 => erf y j (by omega) (by split <;> omega), fun y hy _ => funext fun j => em y j (by omega), by rw [hnx']; omega⟩, hnx'⟩
  · intro i hi
    by_cases e : i = k
    · rw [if_pos e]
      exact Or.inr ⟨hnz.2, by rw [hnx']; omega, hnew.sh, hnew.em⟩
    · rw [if_neg e]
      rcases hP.ok i hi with h5 | ⟨h5, h6, h7, h8⟩
      · exact Or.inl h5
      · refine Or.inr ⟨h5, by rw [hnx']; omega, h7.keep (fun y h2 h4 => esh y (by omega)) (fun y j h2 h4 => erf y j (by omega) (by split <;> omega)), ?_⟩
        rw [em _ _ (by omega)]
        exact h8
  · intro i j hi hj hij
    by_cases e : i = k
    · rw [if_pos e, if_neg (by omega)]
      rcases hP.ok j hj with h5 | h5
      · exact Or.inr (Or.inl h5)
      · exact Or.inr (Or.inr (Or.inr h5.2.1))
    · rw [if_neg e]
      by_cases f : j = k
      · rw [if_pos f]
        rcases hP.ok i hi with h5 | h5
        · exact Or.inl h5
        · exact Or.inr (Or.inr (Or.inl h5.2.1))
      · rw [if_neg f]
        exact hP.dj i j hi hj hij
  · rw [esh _ (by omega)]; exact h.o
  · rw [erf _ _ (by omega) (by split <;> omega)]; exact h.a
  · rw [esh _ (by omega)]; exact h.s
  · rw [esh _ (by omega)]; exact h.s2
  · intro i hi
    by_cases e : k < 6
    · have a1 := h3.at0
      have a2 := h3.rj
      rw [if_pos e, if_pos e] at a1
      rw [if_pos e, if_pos e] at a2
      by_cases f : i = k
      · rw [if_pos f, f]; exact a1
      · rw [if_neg f, a2 _ (by omega), hb.rf _ _ (by omega), h1.rf _ _ (by omega)]
        exact h.r6 i hi
    · rw [if_neg (by omega), erf _ _ (by omega) (by rw [if_neg e]; omega)]
      exact h.r6 i hi
  · intro i hi
    by_cases e : k < 6
    · rw [if_neg (by omega), erf _ _ (by omega) (by rw [if_pos e]; omega)]
      exact h.r2 i hi
    · have a1 := h3.at0
      have a2 := h3.rj
      rw [if_neg e, if_neg e] at a1
      rw [if_neg e, if_neg e] at a2
      by_cases f : 6 + i = k
      · rw [if_pos f, show (i : Int) = (k : Int) - 6 by omega]; exact a1
      · rw [if_neg f, a2 _ (by omega), hb.rf _ _ (by omega), h1.rf _ _ (by omega)]
        exact h.r2 i hi
  · rw [em _ _ (by omega)]; exact h.c
  · intro i X hi
    have hil := (List.getElem?_eq_some_iff.mp hi).1
    have hn6 := h.n
    obtain ⟨h5, h6⟩ := h.L i X hi
    rw [if_neg (fun z => h5 (by rw [z]; exact hn))]
    exact ⟨h5, old i X (by omega) h5 h6⟩
  · intro i hi hk2
    by_cases e : 6 + i = k
    · rw [if_pos e] at hk2
      cases hk2
    · rw [if_neg e] at hk2 ⊢
      exact h.K0 i hi hk2
  · intro i X hi hk2
    by_cases e : 6 + i = k
    · rw [if_pos e] at hk2 ⊢
      have e2 : zD0 = X := Option.some.inj hk2
      rw [← e2]
      exact ⟨by omega, hnew⟩
    · rw [if_neg e] at hk2 ⊢
      obtain ⟨h5, h6⟩ := h.K1 i X hi hk2
      exact ⟨h5, old (6 + i) X (by omega) h5 h6⟩
end C57
