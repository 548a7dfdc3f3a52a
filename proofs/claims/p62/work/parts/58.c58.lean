/-! C 58: pushing, popping -/
theorem zpush6 {L : List zD} {M : zD} (h : L.length = 6) : zpush L M = L.tail ++ [M] := by unfold zpush; rw [if_pos h]
theorem zpushn {L : List zD} {M : zD} (h : ¬ L.length = 6) : zpush L M = L ++ [M] := by unfold zpush; rw [if_neg h]
def zrot (r : Nat → Int) : Nat → Int := fun i => if i < 5 then r (i + 1) else if i = 5 then r 0 else r i
theorem FH.tr {x Z : Int} {S S1 S2 : zG} {μ μ1 μ2 : zM} (h : FH x Z S S1 μ μ1) (k : FH x Z S1 S2 μ1 μ2) : FH x Z S S2 μ μ2 :=
  FH.mk ⟨fun y hy => (k.sh y hy).trans (h.sh y hy), fun y j hy h1 h2 => (k.rf y j hy h1 h2).trans (h.rf y j hy h1 h2), fun y hy h1 => (k.m y hy h1).trans (h.m y hy h1), Int.le_trans h.nx k.nx⟩
theorem FH.mem {x Z : Int} {S : zG} {μ μ' : zM} (h : ∀ y, y < Z → y ≠ x + 63 → μ' y = μ y) : FH x Z S S μ μ' := FH.mk ⟨fun _ _ => rfl, fun _ _ _ _ _ => rfl, h, Int.le_refl _⟩
section C58
variable {S S' : zG} {μ μ' : zM} {x Z : Int} {r : Nat → Int} {L : List zD} {K : Nat → Option zD} {M : zD} {Q : zR × zS → Prop}
theorem HR7.rot (h : HR7 S μ x Z r L K) (h6 : L.length = 6) (hrf : ∀ i : Nat, i < 6 → S'.2.1 (x + 64) (i : Int) = zrot r i) (hsh : S'.1 = S.1) (hnx : S'.2.2 = S.2.2) (hro : ∀ y j, y ≠ x + 64 → S'.2.1 y j = S.2.1 y j) : HR7 S' (zup μ (x + 63) 1 5) x Z (zrot r) L.tail K := by
  have hP := h.P
  have hxz := h.xz
  have hrr : ∀ i, i < 8 → ∃ j, j < 8 ∧ zrot r i = r j ∧ (i < 5 → j = i + 1) ∧ (i = 5 → j = 0) ∧ (5 < i → j = i) := by
    intro i hi
    unfold zrot
    by_cases e : i < 5
    · rw [if_pos e]; exact ⟨i + 1, by omega, rfl, fun _ => rfl, fun z => by omega, fun z => by omega⟩
    · rw [if_neg e]
      by_cases f : i = 5
      · rw [if_pos f]; exact ⟨0, by omega, rfl, fun z => by omega, fun _ => rfl, fun z => by omega⟩
      · rw [if_neg f]; exact ⟨i, hi, rfl, fun z => by omega, fun z => by omega, fun _ => rfl⟩
  have keep : ∀ j X, j < 8 → ¬ r j = -1 → D7 S μ (r j) X → D7 S' (zup μ (x + 63) 1 5) (r j) X := by
    intro j X hj hn hd
    rcases hP.ok j hj with h5 | h5
    · exact absurd h5 hn
    · exact hd.keep2 (fun y _ _ => by rw [hsh]) (fun y i h2 h4 => hro y i (by omega)) (fun y h2 h4 => zup_c (by omega))
  refine HR7.mk ⟨Pool.mk ⟨by rw [hnx]; exact hP.nz, ?_, ?_⟩, hxz, by rw [hsh]; exact h.o, by rw [hro _ _ (by omega)]; exact h.a, by rw [hsh]; exact h.s, by rw [hsh]; exact h.s2, hrf, ?_, by rw [List.length_tail]; omega, by rw [zup_at, List.length_tail, h6]; rfl, ?_, ?_, ?_⟩
  · intro i hi
    obtain ⟨j, hj, e, -⟩ := hrr i hi
    rw [e]
    rcases hP.ok j hj with h5 | ⟨h5, h7, h8, h9⟩
    · exact Or.inl h5
    · exact Or.inr ⟨h5, by rw [hnx]; exact h7, h8.keep (fun y _ _ => by rw [hsh]) (fun y i h2 h4 => hro y i (by omega)), by rw [zup_b (by omega)]; exact h9⟩
  · intro i k hi hk hik
    obtain ⟨j, hj, e, e1, e2, e3⟩ := hrr i hi
    obtain ⟨j', hj', f, f1, f2, f3⟩ := hrr k hk
    rw [e, f]
    exact hP.dj j j' hj hj' (by omega)
  · intro i hi
    rw [hro _ _ (by omega)]
    have e : zrot r (6 + i) = r (6 + i) := by unfold zrot; rw [if_neg (by omega), if_neg (by omega)]
    rw [e]
    exact h.r2 i hi
  · intro i X hi
    have hil := (List.getElem?_eq_some_iff.mp hi).1
    rw [List.length_tail] at hil
    rw [List.getElem?_tail] at hi
    obtain ⟨h7, h8⟩ := h.L (i + 1) X hi
    have e : zrot r i = r (i + 1) := by unfold zrot; rw [if_pos (by omega)]
    rw [e]
    exact ⟨h7, keep (i + 1) X (by omega) h7 h8⟩
  · intro i hi hk
    have e : zrot r (6 + i) = r (6 + i) := by unfold zrot; rw [if_neg (by omega), if_neg (by omega)]
    rw [e]
    exact h.K0 i hi hk
  · intro i X hi hk
    have e : zrot r (6 + i) = r (6 + i) := by unfold zrot; rw [if_neg (by omega), if_neg (by omega)]
    rw [e]
    obtain ⟨h7, h8⟩ := h.K1 i X hi hk
    exact ⟨h7, keep (6 + i) X (by omega) h7 h8⟩
theorem c_dropOldest (h : HR7 S μ x Z r L K) (h6 : L.length = 6) : ∃ S' μ', f_X2_dropOldest (x + 63) (S, μ) = some (.inl 0, (S', μ')) ∧ HR7 S' μ' x Z (zrot r) L.tail K ∧ FH x Z S S' μ μ' ∧ S'.2.2 = S.2.2 := by
  have hP := h.P
  have hxz := h.xz
  have main : zo (f_X2_dropOldest (x + 63) (S, μ)) (fun y => ∃ S' μ', y = (.inl 0, (S', μ')) ∧ HR7 S' μ' x Z (zrot r) L.tail K ∧ FH x Z S S' μ μ' ∧ S'.2.2 = S.2.2) := by
    refine j_X2_dropOldest ?_
    rw [show (1 : Int) = ((0 : Nat) : Int) + 1 from rfl]
    refine zo_l2 (F := fun n (k : Nat) (rf : Int → Int → Int) => f_X2_dropOldest_2 n (x + 63) ((k : Int) + 1) ((S.1, rf, S.2.2), μ)) (fun k rf => k ≤ 5 ∧ (∀ i : Nat, i < k → rf (x + 64) (i : Int) = r (i + 1)) ∧ rf (x + 64) (k : Int) = r 0 ∧ (∀ i : Nat, k < i → i < 6 → rf (x + 64) (i : Int) = r i) ∧ (∀ y j, y ≠ x + 64 → rf y j = S.2.1 y j)) (fun k _ => 5 - k) ?_ zFU 0 S.2.1 ⟨by omega, fun i hi => absurd hi (by omega), h.r6 0 (by omega), fun i _ hi => h.r6 i hi, fun _ _ _ => rfl⟩ (by show 5 - 0 < 1000000; decide)
    rintro n k rf ⟨hk, hlt, hat, hgt, hro⟩ ih
    have hA : (S.1, rf, S.2.2).2.1 (x + 63) 0 = x + 64 := (hro _ _ (by omega)).trans h.a
    have hshA : (S.1, rf, S.2.2).1 (x + 64) = some (7, 6) := h.s
    have hob : ∀ i, i < 8 → r i < 0 ∨ S.1 (r i) = some (0, 1) := by
      intro i hi
      rcases hP.ok i hi with h1 | h1
      · exact Or.inl (by omega)
      · exact Or.inr h1.2.2.1.o
    refine j_X2_dropOldest_2 ?_
    refine zo_gr2 (σ := ((S.1, rf, S.2.2), μ)) h.o hA (by omega) (by omega) ?_
    refine zo_al2 (σ := ((S.1, rf, S.2.2), μ)) (t := 6) hshA ?_
    by_cases e : k < 5
    · refine zo_pos (by omega) ?_
      have e0 : w32 ((k : Int) + 1 - 1) = (k : Int) := by rw [w32_e (by omega)]; omega
      have e1 : w32 ((k : Int) + 1 + 1) = ((k + 1 : Nat) : Int) + 1 := by rw [w32_e (by omega)]; omega
      rw [e0, e1]
      refine zo_gr2 (σ := ((S.1, rf, S.2.2), μ)) h.o hA (by omega) (by omega) ?_
      refine zo_lr (S := (S.1, rf, S.2.2)) hshA (by omega) hat ?_
      refine zo_gr2 (σ := ((S.1, rf, S.2.2), μ)) h.o hA (by omega) (by omega) ?_
      refine zo_gr2 (σ := ((S.1, rf, S.2.2), μ)) h.o hA (by omega) (by omega) ?_
      refine zo_lr (S := (S.1, rf, S.2.2)) hshA (by omega) (r := r (k + 1)) (hgt (k + 1) (by omega) (by omega)) ?_
      refine zo_pos (hob (k + 1) (by omega)) ?_
      refine zo_sr2 (σ := ((S.1, rf, S.2.2), μ)) hshA (by omega) ?_
      rintro ⟨⟨s1, rf1, n1⟩, m1⟩ p1
      have q1 := p1.sh
      have q2 := p1.nx
      have q3 := p1.m
      dsimp only at q1 q2 q3
      subst q1
      subst q2
      subst q3
      have hA1 : rf1 (x + 63) 0 = x + 64 := (p1.rf _ _ (by omega)).trans hA
      refine zo_gr2 (σ := ((S.1, rf1, S.2.2), m1)) h.o hA1 (by omega) (by omega) ?_
      refine zo_pos (hob 0 (by omega)) ?_
      refine zo_sr2 (σ := ((S.1, rf1, S.2.2), m1)) hshA (by omega) ?_
      rintro ⟨⟨s2, rf2, n2⟩, m2⟩ p2
      have q1 := p2.sh
      have q2 := p2.nx
      have q3 := p2.m
      dsimp only at q1 q2 q3
      subst q1
      subst q2
      subst q3
      refine ih (k + 1) rf2 ⟨by omega, ?_, ?_, ?_, ?_⟩ (by omega)
      · intro i hi
        have := p2.rj (i : Int) (by omega)
        dsimp only at this
        rw [this]
        by_cases ei : i = k
        · subst ei
          exact p1.at0
        · have := p1.rj (i : Int) (by omega)
          dsimp only at this
          rw [this]
          exact hlt i (by omega)
      · exact p2.at0
      · intro i h1 h2
        have := p2.rj (i : Int) (by omega)
        dsimp only at this
        rw [this]
        have := p1.rj (i : Int) (by omega)
        dsimp only at this
        rw [this]
        exact hgt i (by omega) h2
      · intro y j hy
        have := p2.rf y j hy
        dsimp only at this
        rw [this]
        have := p1.rf y j hy
        dsimp only at this
        rw [this]
        exact hro y j hy
    · have ek : k = 5 := by omega
      subst ek
      refine zo_neg (by omega) ?_
      refine j_X2_dropOldest_47 ?_
      have hc := h.c
      rw [h6] at hc
      refine zo_gf (S := (S.1, rf, S.2.2)) h.o hc (by omega) (by omega) ?_
      refine zo_pf (S := (S.1, rf, S.2.2)) 1 h.o (by omega) (by omega) ?_
      have ew : w32 (((6 : Nat) : Int) - 1) = 5 := w32_e (by decide)
      rw [ew]
      refine zo_rt ⟨(S.1, rf, S.2.2), _, rfl, h.rot h6 ?_ rfl rfl hro, FH.mk ⟨fun _ _ => rfl, fun y j _ h1 _ => hro y j h1, fun y _ h1 => zup_c h1, Int.le_refl _⟩, rfl⟩
      intro i hi
      unfold zrot
      by_cases e1 : i < 5
      · rw [if_pos e1]; exact hlt i e1
      · rw [if_neg e1, if_pos (by omega), show i = 5 by omega]; exact hat
  obtain ⟨y, e, S', μ', hy, h1⟩ := main
  exact ⟨S', μ', by rw [e, hy], h1⟩
theorem c_push67 (h : HR7 S μ x Z r L K) (hD : D7 S μ (x + 12) M) (h6 : L.length < 6) (hn : ¬ r L.length = -1) : ∃ μ', f_X2_push_67 (x + 63) (x + 12) (r L.length) (S, μ) = some (.inl 0, (S, μ')) ∧ HR7 S μ' x Z r (L ++ [M]) K ∧ FH x Z S S μ μ' := by
  have hP := h.P
  have hxz := h.xz
  rcases hP.ok L.length (by omega) with h1 | ⟨h1, h2, h3, h4⟩
  · exact absurd h1 hn
  · have hd0 : 0 ≤ r L.length := by omega
    obtain ⟨μ1, e1, g1, f1⟩ := d_become h3 hd0 h4 hD (by omega)
    have h5 : HR7 S μ1 x Z r L K := h.put (k := L.length) (by omega) hn f1 g1.em (fun i X hi => Or.inl ⟨by have := (List.getElem?_eq_some_iff.mp hi).1; omega, hi⟩) rfl h.K0 (fun i X hi hk => Or.inl ⟨by omega, hk⟩)
    apply zo_ux
    refine j_X2_push_67 ?_
    refine zo_ob h3.o (by omega) ?_
    refine zo_bn e1 ?_
    refine zo_gf h.o h5.c (by omega) (by omega) ?_
    refine zo_pf 1 h.o (by omega) (by omega) ?_
    have ew : w32 ((L.length : Int) + 1) = ((L ++ [M]).length : Int) := by rw [w32_e (by omega), List.length_append]; rfl
    rw [ew]
    refine zo_rt ⟨_, rfl, h5.cnt (by rw [List.length_append]; exact h6) ?_, FH.mem (fun y hy h7 => by rw [zup_c h7, f1 y (by omega)])⟩
    intro i X hi
    rcases snoc_get hi with ⟨h7, h8⟩ | ⟨h7, h8⟩
    · exact h5.L i X h8
    · rw [h7, h8]
      exact ⟨hn, g1⟩
theorem c_push16 (h : HR7 S μ x Z r L K) (hD : D7 S μ (x + 12) M) (h6 : L.length < 6) : ∃ S' μ' r', f_X2_push_16 (x + 63) (x + 12) (S, μ) = some (.inl 0, (S', μ')) ∧ HR7 S' μ' x Z r' (L ++ [M]) K ∧ FH x Z S S' μ μ' ∧ ∀ i, 6 ≤ i → r' i = r i := by
  have hP := h.P
  have hxz := h.xz
  have main : zo (f_X2_push_16 (x + 63) (x + 12) (S, μ)) (fun y => ∃ S' μ' r', y = (.inl 0, (S', μ')) ∧ HR7 S' μ' x Z r' (L ++ [M]) K ∧ FH x Z S S' μ μ' ∧ ∀ i, 6 ≤ i → r' i = r i) := by
    refine j_X2_push_16 ?_
    refine zo_gf h.o h.c (by omega) (by omega) ?_
    refine zo_neg (by omega) ?_
    refine zo_gf h.o h.c (by omega) (by omega) ?_
    refine zo_gr h.o h.a (by omega) (by omega) ?_
    refine zo_al (t := 6) h.s ?_
    refine zo_pos (by omega) ?_
    refine zo_gr h.o h.a (by omega) (by omega) ?_
    refine zo_gf h.o h.c (by omega) (by omega) ?_
    refine zo_lr h.s (by omega) (h.r6 L.length h6) ?_
    by_cases hn : r L.length = -1
    · refine zo_pos (by omega) ?_
      refine zo_nw2 (a := S.2.2) (c := S.2.2 + 1) rfl rfl ?_
      intro σ1 k1
      have hnz := hP.nz
      refine zo_pos (by omega) ?_
      obtain ⟨⟨S2, μ2⟩, e2, g2, n2, b2⟩ := c_X1_init (d := S.2.2) (by omega) k1.sh0 k1.nx
      refine zo_bn e2 ?_
      have esh : ∀ y, y < S.2.2 → S2.1 y = S.1 y := fun y hy => (b2.sh y hy).trans (k1.sh y (by omega))
      have em : ∀ y j, y < S.2.2 → μ2 y j = μ y j := fun y j hy => (b2.m y j hy).trans (k1.m y j (by omega))
      have erf : ∀ y j, y < S.2.2 → S2.2.1 y j = S.2.1 y j := fun y j hy => (b2.rf y j hy).trans (k1.rf y j (by omega))
      refine zo_gr (S := S2) ((esh _ (by omega)).trans h.o) ((erf _ _ (by omega)).trans h.a) (by omega) (by omega) ?_
      refine zo_gf (S := S2) ((esh _ (by omega)).trans h.o) ((em _ _ (by omega)).trans h.c) (by omega) (by omega) ?_
      refine zo_pos (Or.inr g2.sh.o) ?_
      refine zo_sr2 (σ := (S2, μ2)) ((esh _ (by omega)).trans h.s) (by omega) ?_
      intro σ3 p3
      have hnew := h.new (k := L.length) (σ' := σ3) (by omega) hn k1 g2 n2 b2 (by rw [if_pos h6, if_pos h6]; exact p3) (Or.inl h6)
      obtain ⟨h7, f7, n7⟩ := hnew
      have er : (if L.length = L.length then S.2.2 else r L.length) = S.2.2 := if_pos rfl
      have hK : (fun i => if 6 + i = L.length then some zD0 else K i) = K := by
        funext i
        exact if_neg (by omega)
      rw [hK] at h7
      obtain ⟨S3, μ3⟩ := σ3
      have hD3 : D7 S3 μ3 (x + 12) M := hD.keep2 (fun y h1 h2 => f7.sh y (by omega)) (fun y j h1 h2 => f7.rf y j (by omega) (by omega) (by omega)) (fun y h1 h2 => f7.m y (by omega) (by omega))
      obtain ⟨μ4, e4, h8, f8⟩ := c_push67 h7 hD3 h6 (by rw [er]; omega)
      rw [er] at e4
      exact ⟨_, e4, S3, μ4, _, rfl, h8, FH.tr f7 f8, fun i hi => if_neg (by omega)⟩
    · have hok : 0 ≤ r L.length := by
        rcases hP.ok L.length (by omega) with h1 | h1
        · exact absurd h1 hn
        · have := hP.nz; omega
      refine zo_neg (by omega) ?_
      obtain ⟨μ1, e1, h1, f1⟩ := c_push67 h hD h6 hn
      exact ⟨_, e1, S, μ1, r, rfl, h1, f1, fun _ _ => rfl⟩
  obtain ⟨y, e, S', μ', r', hy, h1⟩ := main
  exact ⟨S', μ', r', by rw [e, hy], h1⟩
theorem c_push (h : HR7 S μ x Z r L K) (hD : D7 S μ (x + 12) M) : ∃ S' μ' r', f_X2_push (x + 63) (x + 12) (S, μ) = some (.inl 0, (S', μ')) ∧ HR7 S' μ' x Z r' (zpush L M) K ∧ FH x Z S S' μ μ' ∧ ∀ i, 6 ≤ i → r' i = r i := by
  have hn := h.n
  have hxz := h.xz
  have main : zo (f_X2_push (x + 63) (x + 12) (S, μ)) (fun y => ∃ S' μ' r', y = (.inl 0, (S', μ')) ∧ HR7 S' μ' x Z r' (zpush L M) K ∧ FH x Z S S' μ μ' ∧ ∀ i, 6 ≤ i → r' i = r i) := by
    refine j_X2_push ?_
    refine zo_gf h.o h.c (by omega) (by omega) ?_
    refine zo_gr h.o h.a (by omega) (by omega) ?_
    refine zo_al (t := 6) h.s ?_
    by_cases h6 : L.length = 6
    · rw [zpush6 h6]
      refine zo_neg (by omega) ?_
      refine zo_ob h.o (by omega) ?_
      obtain ⟨S1, μ1, e1, h1, f1, n1⟩ := c_dropOldest h h6
      refine zo_bn e1 ?_
      have hD1 : D7 S1 μ1 (x + 12) M := hD.keep2 (fun y h3 h2 => f1.sh y (by omega)) (fun y j h3 h2 => f1.rf y j (by omega) (by omega) (by omega)) (fun y h3 h2 => f1.m y (by omega) (by omega))
      obtain ⟨S2, μ2, r2, e2, h2, f2, s2⟩ := c_push16 h1 hD1 (by rw [List.length_tail]; omega)
      exact ⟨_, e2, S2, μ2, r2, rfl, h2, FH.tr f1 f2, fun i hi => (s2 i hi).trans (by unfold zrot; rw [if_neg (by omega), if_neg (by omega)])⟩
    · rw [zpushn h6]
      refine zo_pos (by omega) ?_
      obtain ⟨S2, μ2, r2, e2, h2, f2, s2⟩ := c_push16 h hD (by omega)
      exact ⟨_, e2, S2, μ2, r2, rfl, h2, f2, s2⟩
  obtain ⟨y, e, S', μ', r', hy, h1⟩ := main
  exact ⟨S', μ', r', by rw [e, hy], h1⟩
end C58
