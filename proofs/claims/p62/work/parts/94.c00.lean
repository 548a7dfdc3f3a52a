/-! R2: the most that agree, by all sets -/
section R2
variable {B x a w o t v n : Int} {M : zD} {k i m : Nat} {q p : zP} {X Y Z P : zEn} {e f : Nat × zP} {h : zP → Prop} {g : zP → Int} {s : Int}
theorem zm_b01 : ∀ s : Fin 64, ∀ k : Fin 6, zand (zshr ((s : Nat) : Int) ((k : Nat) : Int)) 1 = 0 ∨ zand (zshr ((s : Nat) : Int) ((k : Nat) : Int)) 1 = 1 := by decide +kernel
theorem b01 (hs : 0 ≤ s ∧ s < 64) {k : Int} (hk : 0 ≤ k ∧ k < 6) : zand (zshr s k) 1 = 0 ∨ zand (zshr s k) 1 = 1 := by
  have h := zm_b01 ⟨s.toNat, by omega⟩ ⟨k.toNat, by omega⟩
  dsimp only at h
  rw [Int.toNat_of_nonneg hs.1, Int.toNat_of_nonneg hk.1] at h
  exact h
def zpw (m : Nat) : Int := match m with
  | 0 => 1
  | 1 => 2
  | 2 => 4
  | 3 => 8
  | 4 => 16
  | 5 => 32
  | _ => 64
theorem zm_pw : ∀ m : Fin 7, zshl 1 ((m : Nat) : Int) = zpw (m : Nat) ∧ 1 ≤ zpw (m : Nat) ∧ zpw (m : Nat) ≤ 64 := by decide +kernel
theorem pw_e (hm : m ≤ 6) : zshl 1 (m : Int) = zpw m ∧ 1 ≤ zpw m ∧ zpw m ≤ 64 := zm_pw ⟨m, by omega⟩
theorem set_sum (hs : 0 ≤ s ∧ s < 64) : s = zand (zshr s 0) 1 + 2 * zand (zshr s 1) 1 + 4 * zand (zshr s 2) 1 + 8 * zand (zshr s 3) 1 + 16 * zand (zshr s 4) 1 + 32 * zand (zshr s 5) 1 := by
  have h := (zm_sum ⟨s.toNat, by omega⟩).1
  dsimp only at h
  rw [Int.toNat_of_nonneg hs.1] at h
  exact h
/-- a set of numbers below m has its top bit below m, and a bit at all -/
theorem set_hi (hs : 0 ≤ s ∧ s < 64) (hm : m ≤ 6) (h : ∀ k : Int, (m : Int) ≤ k → k < 6 → ¬ zand (zshr s k) 1 = 1) : s < zpw m := by
  have h1 := set_sum hs
  have h2 : ∀ k : Int, 0 ≤ k → k < 6 → zand (zshr s k) 1 = 0 ∨ zand (zshr s k) 1 = 1 := fun k h2 h3 => b01 hs ⟨h2, h3⟩
  have b0 := h2 0 (by decide) (by decide)
  have b1 := h2 1 (by decide) (by decide)
  have b2 := h2 2 (by decide) (by decide)
  have b3 := h2 3 (by decide) (by decide)
  have b4 := h2 4 (by decide) (by decide)
  have b5 := h2 5 (by decide) (by decide)
  have hc : m = 0 ∨ m = 1 ∨ m = 2 ∨ m = 3 ∨ m = 4 ∨ m = 5 ∨ m = 6 := by omega
  have c0 := h 0
  have c1 := h 1
  have c2 := h 2
  have c3 := h 3
  have c4 := h 4
  have c5 := h 5
  rcases hc with z | z | z | z | z | z | z <;> subst z <;> simp only [zpw] <;> omega
theorem set_lo (hs : 1 ≤ s ∧ s < zpw m) (hm : m ≤ 6) : ∃ k : Nat, k < m ∧ zand (zshr s (k : Int)) 1 = 1 := by
  have h0 := pw_e hm
  have hs6 : 0 ≤ s ∧ s < 64 := by omega
  have h1 := set_sum hs6
  have h2 : ∀ k : Int, 0 ≤ k → k < 6 → zand (zshr s k) 1 = 0 ∨ zand (zshr s k) 1 = 1 := fun k h2 h3 => b01 hs6 ⟨h2, h3⟩
  have b0 := h2 0 (by decide) (by decide)
  have b1 := h2 1 (by decide) (by decide)
  have b2 := h2 2 (by decide) (by decide)
  have b3 := h2 3 (by decide) (by decide)
  have b4 := h2 4 (by decide) (by decide)
  have b5 := h2 5 (by decide) (by decide)
  have hc : m = 0 ∨ m = 1 ∨ m = 2 ∨ m = 3 ∨ m = 4 ∨ m = 5 ∨ m = 6 := by omega
  apply Classical.byContradiction
  intro hn
  have c : ∀ k : Nat, k < m → ¬ zand (zshr s (k : Int)) 1 = 1 := fun k hk z => hn ⟨k, hk, z⟩
  have c0 : 0 < m → ¬ zand (zshr s 0) 1 = 1 := c 0
  have c1 : 1 < m → ¬ zand (zshr s 1) 1 = 1 := c 1
  have c2 : 2 < m → ¬ zand (zshr s 2) 1 = 1 := c 2
  have c3 : 3 < m → ¬ zand (zshr s 3) 1 = 1 := c 3
  have c4 : 4 < m → ¬ zand (zshr s 4) 1 = 1 := c 4
  have c5 : 5 < m → ¬ zand (zshr s 5) 1 = 1 := c 5
  clear c hn h2 hs6 h0
  rcases hc with z | z | z | z | z | z | z <;> subst z <;> simp only [zpw] at hs <;> omega
theorem set_ex (P : Nat → Prop) (hm : m ≤ 6) : ∃ s : Int, (0 ≤ s ∧ s < zpw m) ∧ ∀ k : Nat, k < m → (zand (zshr s (k : Int)) 1 = 1 ↔ P k) := by
  have hl : ∀ p : zP, p ∈ (List.range m).map (fun k : Nat => (fun _ => (k : Int) : zP)) → ∃ k : Nat, k < m ∧ p = fun _ => (k : Int) := fun p hp => by
    obtain ⟨k, h1, h2⟩ := List.mem_map.mp hp
    exact ⟨k, List.mem_range.mp h1, h2.symm⟩
  have hm2 : ∀ k : Nat, k < m → (fun _ => (k : Int) : zP) ∈ (List.range m).map (fun k : Nat => (fun _ => (k : Int) : zP)) := fun k hk => List.mem_map.mpr ⟨k, List.mem_range.mpr hk, rfl⟩
  generalize (List.range m).map (fun k : Nat => (fun _ => (k : Int) : zP)) = l at hl hm2
  obtain ⟨h1, h2⟩ := zfs_mb (h := fun p => P (p 0).toNat) l 0 (fun p hp => by
    obtain ⟨k, h1, h2⟩ := hl p hp
    rw [h2]
    show 0 ≤ (k : Int) ∧ (k : Int) < 6
    omega) (by decide)
  have h3 : ∀ k : Nat, k < 6 → (zand (zshr (zfs (fun p => P (p 0).toNat) l 0) (k : Int)) 1 = 1 ↔ (k < m ∧ P k)) := by
    intro k hk
    rw [h2 k (by omega) (by omega)]
    refine ⟨fun z => ?_, fun z => Or.inr ⟨_, hm2 k z.1, ?_, rfl⟩⟩
    · rcases z with z | ⟨p, z1, z2, z3⟩
      · exact absurd z (mb_0 (by omega))
      · obtain ⟨k2, z4, z5⟩ := hl p z1
        rw [z5] at z2 z3
        have z6 : k2 = k := by
          have z7 : (k2 : Int) = (k : Int) := z3
          omega
        rw [← z6]
        exact ⟨z4, by rw [← Int.toNat_natCast k2]; exact z2⟩
    · show P ((k : Int)).toNat
      rw [Int.toNat_natCast]
      exact z.2
  refine ⟨_, ⟨h1.1, set_hi h1 hm (fun k h4 h5 => ?_)⟩, fun k hk => ?_⟩
  · have h6 := h3 k.toNat (by omega)
    rw [Int.toNat_of_nonneg (by omega)] at h6
    rw [h6]
    omega
  · rw [h3 k (by omega)]
    exact ⟨fun z => z.2, fun z => ⟨hk, z⟩⟩
theorem zfx_ok : ∀ (l : List zP) (c : Int), c ≤ zfx g h l c ∧ (∀ p, p ∈ l → h p → g p ≤ zfx g h l c) ∧ (zfx g h l c = c ∨ ∃ p, p ∈ l ∧ h p ∧ zfx g h l c = g p) := by
  intro l
  induction l with
  | nil => exact fun c => ⟨Int.le_refl _, fun p hp => absurd hp List.not_mem_nil, Or.inl rfl⟩
  | cons p l ih =>
    intro c
    by_cases hh : h p
    · rw [zfx_t hh]
      obtain ⟨i1, i2, i3⟩ := ih (max c (g p))
      refine ⟨by omega, fun r hr hr2 => ?_, ?_⟩
      · rcases List.mem_cons.mp hr with z | z
        · rw [z]
          omega
        · exact i2 r z hr2
      · rcases i3 with i3 | ⟨r, z1, z2, z3⟩
        · rw [i3]
          by_cases hc : g p ≤ c
          · exact Or.inl (by omega)
          · exact Or.inr ⟨p, List.mem_cons_self, hh, by omega⟩
        · exact Or.inr ⟨r, List.mem_cons_of_mem _ z1, z2, z3⟩
    · rw [zfx_f hh]
      obtain ⟨i1, i2, i3⟩ := ih c
      refine ⟨i1, fun r hr hr2 => ?_, ?_⟩
      · rcases List.mem_cons.mp hr with z | z
        · exact absurd (z ▸ hr2) hh
        · exact i2 r z hr2
      · rcases i3 with i3 | ⟨r, z1, z2, z3⟩
        · exact Or.inl i3
        · exact Or.inr ⟨r, List.mem_cons_of_mem _ z1, z2, z3⟩
theorem zfy_ok : ∀ (l : List zP) (c : Int), zfy g h l c ≤ c ∧ (∀ p, p ∈ l → h p → zfy g h l c ≤ g p) ∧ (zfy g h l c = c ∨ ∃ p, p ∈ l ∧ h p ∧ zfy g h l c = g p) := by
  intro l
  induction l with
  | nil => exact fun c => ⟨Int.le_refl _, fun p hp => absurd hp List.not_mem_nil, Or.inl rfl⟩
  | cons p l ih =>
    intro c
    by_cases hh : h p
    · rw [zfy_t hh]
      obtain ⟨i1, i2, i3⟩ := ih (min c (g p))
      refine ⟨by omega, fun r hr hr2 => ?_, ?_⟩
      · rcases List.mem_cons.mp hr with z | z
        · rw [z]
          omega
        · exact i2 r z hr2
      · rcases i3 with i3 | ⟨r, z1, z2, z3⟩
        · rw [i3]
          by_cases hc : c ≤ g p
          · exact Or.inl (by omega)
          · exact Or.inr ⟨p, List.mem_cons_self, hh, by omega⟩
        · exact Or.inr ⟨r, List.mem_cons_of_mem _ z1, z2, z3⟩
    · rw [zfy_f hh]
      obtain ⟨i1, i2, i3⟩ := ih c
      refine ⟨i1, fun r hr hr2 => ?_, ?_⟩
      · rcases List.mem_cons.mp hr with z | z
        · exact absurd (z ▸ hr2) hh
        · exact i2 r z hr2
      · rcases i3 with i3 | ⟨r, z1, z2, z3⟩
        · exact Or.inl i3
        · exact Or.inr ⟨r, List.mem_cons_of_mem _ z1, z2, z3⟩
theorem or_mb (hc : 0 ≤ v ∧ v < 64) (ho : 0 ≤ o ∧ o < 6) : (0 ≤ zor v (zshl 1 o) ∧ zor v (zshl 1 o) < 64) ∧ ∀ k, 0 ≤ k → k < 6 → (zand (zshr (zor v (zshl 1 o)) k) 1 = 1 ↔ (zand (zshr v k) 1 = 1 ∨ o = k)) := by
  have e : zfs (fun _ => True) [(fun _ => o : zP)] v = zor v (zshl 1 o) := zfs_t trivial
  obtain ⟨h1, h2⟩ := zfs_mb (h := fun _ => True) [(fun _ => o : zP)] v (fun p hp => by rw [List.mem_singleton.mp hp]; exact ho) hc
  rw [e] at h1 h2
  refine ⟨h1, fun k hk hk6 => ?_⟩
  rw [h2 k hk hk6]
  refine ⟨fun z => z.imp id ?_, fun z => z.imp id ?_⟩
  · rintro ⟨p, z1, _, z3⟩
    rw [List.mem_singleton.mp z1] at z3
    exact z3
  · exact fun z => ⟨_, List.mem_singleton.mpr rfl, trivial, z⟩
/-- one entry of a set -/
def zag (M : zD) (a : Int) (Z : zEn) (s : Int) (k : Nat) (c : Int × Int × Int) : Int × Int × Int := match Z[k]? with
  | none => c
  | some e => if zand (zshr s (k : Int)) 1 = 0 then c else (max c.1 (M.lo a e.2), min c.2.1 (M.hi a e.2), zor c.2.2 (zshl 1 (e.2 0)))
def zgS (M : zD) (a : Int) (Z : zEn) (s : Int) : Int × Int × Int := zlp (zag M a Z s) 0 Z.length (0, 999, 0)
theorem zag_0 {c : Int × Int × Int} (h : zand (zshr s (k : Int)) 1 = 0) : zag M a Z s k c = c := by
  unfold zag
  split
  · rfl
  · exact if_pos h
theorem zag_1 {c : Int × Int × Int} (hk : Z[k]? = some e) (h : ¬ zand (zshr s (k : Int)) 1 = 0) : zag M a Z s k c = (max c.1 (M.lo a e.2), min c.2.1 (M.hi a e.2), zor c.2.2 (zshl 1 (e.2 0))) := by
  unfold zag
  rw [hk]
  exact if_neg h
def zgL (Z : zEn) (s : Int) (N : Nat) (e : Nat × zP) : Prop := ∃ k : Nat, k < N ∧ Z[k]? = some e ∧ zand (zshr s (k : Int)) 1 = 1
theorem zcs_go (hs : 0 ≤ s ∧ s < 64) (hZ6 : Z.length ≤ 6) (hZ : ∀ e, e ∈ Z → 0 ≤ e.2 0 ∧ e.2 0 < 6) : ∀ N : Nat, N ≤ Z.length → ((0 ≤ (zlp (zag M a Z s) 0 N (0, 999, 0)).1 ∧ (zlp (zag M a Z s) 0 N (0, 999, 0)).2.1 ≤ 999) ∧ (0 ≤ (zlp (zag M a Z s) 0 N (0, 999, 0)).2.2 ∧ (zlp (zag M a Z s) 0 N (0, 999, 0)).2.2 < 64)) ∧ (∀ e, zgL Z s N e → M.lo a e.2 ≤ (zlp (zag M a Z s) 0 N (0, 999, 0)).1 ∧ (zlp (zag M a Z s) 0 N (0, 999, 0)).2.1 ≤ M.hi a e.2) ∧ ((zlp (zag M a Z s) 0 N (0, 999, 0)).1 = 0 ∨ ∃ e, zgL Z s N e ∧ (zlp (zag M a Z s) 0 N (0, 999, 0)).1 = M.lo a e.2) ∧ ((zlp (zag M a Z s) 0 N (0, 999, 0)).2.1 = 999 ∨ ∃ e, zgL Z s N e ∧ (zlp (zag M a Z s) 0 N (0, 999, 0)).2.1 = M.hi a e.2) ∧ (∀ j, 0 ≤ j → j < 6 → (zand (zshr (zlp (zag M a Z s) 0 N (0, 999, 0)).2.2 j) 1 = 1 ↔ ∃ e, zgL Z s N e ∧ e.2 0 = j)) := by
  intro N
  induction N with
  | zero =>
    intro _
    have hn : ∀ e, ¬ zgL Z s 0 e := fun e z => by
      obtain ⟨k, z1, _⟩ := z
      omega
    refine ⟨⟨⟨?_, ?_⟩, ?_, ?_⟩, fun e z => absurd z (hn e), Or.inl rfl, Or.inl rfl, fun j h1 h2 => ⟨fun z => absurd z (mb_0 ⟨h1, h2⟩), fun z => ?_⟩⟩
    · exact Int.le_refl 0
    · exact Int.le_refl 999
    · exact Int.le_refl 0
    · show (0 : Int) < 64
      decide
    · obtain ⟨e, z1, _⟩ := z
      exact absurd z1 (hn e)
  | succ N ih =>
    intro hN
    obtain ⟨⟨i1, i2⟩, i3, i4, i5, i6⟩ := ih (by omega)
    rw [zlp_s0]
    generalize zlp (zag M a Z s) 0 N (0, 999, 0) = c at i1 i2 i3 i4 i5 i6 ⊢
    obtain ⟨e, he⟩ : ∃ e, Z[N]? = some e := ⟨Z[N], List.getElem?_eq_getElem (by omega)⟩
    have hlt : ∀ f, zgL Z s N f → zgL Z s (N + 1) f := fun f z => by
      obtain ⟨k, z1, z2⟩ := z
      exact ⟨k, by omega, z2⟩
    by_cases hb : zand (zshr s (N : Int)) 1 = 0
    · have hN2 : ∀ f, zgL Z s (N + 1) f → zgL Z s N f := fun f z => by
        obtain ⟨k, z1, z2, z3⟩ := z
        by_cases hk : k = N
        · rw [hk, hb] at z3
          exact absurd z3 (by decide)
        · exact ⟨k, by omega, z2, z3⟩
      rw [zag_0 hb]
      refine ⟨⟨i1, i2⟩, fun f z => i3 f (hN2 f z), i4.imp id ?_, i5.imp id ?_, fun j h1 h2 => ?_⟩
      · rintro ⟨f, z1, z2⟩
        exact ⟨f, hlt f z1, z2⟩
      · rintro ⟨f, z1, z2⟩
        exact ⟨f, hlt f z1, z2⟩
      · rw [i6 j h1 h2]
        exact ⟨fun ⟨f, z1, z2⟩ => ⟨f, hlt f z1, z2⟩, fun ⟨f, z1, z2⟩ => ⟨f, hN2 f z1, z2⟩⟩
    · have hb1 : zand (zshr s (N : Int)) 1 = 1 := (b01 hs (by omega)).resolve_left hb
      have he2 : zgL Z s (N + 1) e := ⟨N, by omega, he, hb1⟩
      have hN2 : ∀ f, zgL Z s (N + 1) f → zgL Z s N f ∨ f = e := fun f z => by
        obtain ⟨k, z1, z2, z3⟩ := z
        by_cases hk : k = N
        · rw [hk] at z2
          exact Or.inr (Option.some.inj (z2.symm.trans he))
        · exact Or.inl ⟨k, by omega, z2, z3⟩
      rw [zag_1 he hb]
      have h0 := hZ e (List.mem_of_getElem? he)
      obtain ⟨o1, o2⟩ := or_mb i2 h0
      refine ⟨⟨⟨?_, ?_⟩, o1⟩, fun f z => ?_, ?_, ?_, fun j h1 h2 => ?_⟩
      · show 0 ≤ max c.1 _
        omega
      · show min c.2.1 _ ≤ 999
        omega
      · show M.lo a f.2 ≤ max c.1 _ ∧ min c.2.1 _ ≤ M.hi a f.2
        rcases hN2 f z with z1 | z1
        · have := i3 f z1
          omega
        · rw [z1]
          omega
      · show max c.1 (M.lo a e.2) = 0 ∨ ∃ f, _ ∧ max c.1 (M.lo a e.2) = _
        by_cases hc : M.lo a e.2 ≤ c.1
        · rw [show max c.1 (M.lo a e.2) = c.1 by omega]
          refine i4.imp id ?_
          rintro ⟨f, z1, z2⟩
          exact ⟨f, hlt f z1, z2⟩
        · exact Or.inr ⟨e, he2, by omega⟩
      · show min c.2.1 (M.hi a e.2) = 999 ∨ ∃ f, _ ∧ min c.2.1 (M.hi a e.2) = _
        by_cases hc : c.2.1 ≤ M.hi a e.2
        · rw [show min c.2.1 (M.hi a e.2) = c.2.1 by omega]
          refine i5.imp id ?_
          rintro ⟨f, z1, z2⟩
          exact ⟨f, hlt f z1, z2⟩
        · exact Or.inr ⟨e, he2, by omega⟩
      · rw [o2 j h1 h2, i6 j h1 h2]
        refine ⟨fun z => ?_, fun z => ?_⟩
        · rcases z with ⟨f, z1, z2⟩ | z
          · exact ⟨f, hlt f z1, z2⟩
          · exact ⟨e, he2, z⟩
        · obtain ⟨f, z1, z2⟩ := z
          rcases hN2 f z1 with z3 | z3
          · exact Or.inl ⟨f, z3, z2⟩
          · rw [z3] at z2
            exact Or.inr z2
theorem mem_zent {l : List zP} (hq : l[i]? = some q) (hw : q 3 = w ∧ ¬ q 1 = o) : (i, q) ∈ zent w o l 0 := by
  have hl := (List.getElem?_eq_some_iff.mp hq).1
  have h1 := zent_app w o (l.take i) (q :: l.drop (i + 1)) 0
  rw [← list_at hq, List.length_take, Nat.min_eq_left (by omega), Nat.zero_add, zent_c, if_pos hw] at h1
  rw [h1]
  exact List.mem_append_right _ List.mem_cons_self
/-- the entries of a way that are not left out -/
noncomputable def zZ (M : zD) (a w : Int) : zEn := (zent w (-1) (M.li a) 0).filter (zno M a)
theorem zZ_mem : e ∈ zZ M a w ↔ (M.li a)[e.1]? = some e.2 ∧ zew w e.2 ∧ ¬ M.out a e.2 := by
  unfold zZ
  rw [List.mem_filter, zno_e]
  obtain ⟨i, q⟩ := e
  refine ⟨fun z => ?_, fun z => ⟨mem_zent z.1 z.2.1, z.2.2⟩⟩
  obtain ⟨h1, h2⟩ := zent_get z.1
  exact ⟨h1, h2, z.2⟩
theorem zZ_len (W : WF B M) : (zZ M a w).length ≤ 6 := Nat.le_trans (List.length_filter_le _ _) (zent_len W a w (-1))
theorem zZ_or (W : WF B M) : ∀ e, e ∈ zZ M a w → 0 ≤ e.2 0 ∧ e.2 0 < 6 := fun e he => li_or W e.2 (List.mem_of_getElem? (zZ_mem.mp he).1)
theorem zZ_at (hq : q ∈ M.li a) (h : zew w q) (ho : ¬ M.out a q) : ∃ (k i : Nat), k < (zZ M a w).length ∧ (zZ M a w)[k]? = some (i, q) := by
  obtain ⟨i, hi⟩ := List.mem_iff_getElem?.mp hq
  obtain ⟨k, hk⟩ := List.mem_iff_getElem?.mp (show (i, q) ∈ zZ M a w from zZ_mem.mpr ⟨hi, h, ho⟩)
  exact ⟨k, i, (List.getElem?_eq_some_iff.mp hk).1, hk⟩
theorem zZ_inj (W : WF B M) (he : e ∈ zZ M a w) (hf : f ∈ zZ M a w) (h : e.2 0 = f.2 0) : e = f := zent_inj W e f (List.mem_filter.mp he).1 (List.mem_filter.mp hf).1 h
theorem zsl_mem (h : zgL Z s k e) : e ∈ Z := by
  obtain ⟨k, _, h2, _⟩ := h
  exact List.mem_of_getElem? h2
/-- what a set has in common there is -/
def zgF (M : zD) (a : Int) (Z : zEn) (s : Int) : Prop := (zgS M a Z s).1 ≤ (zgS M a Z s).2.1
theorem set_of (W : WF B M) (hn : ¬ M.hset a w n = 0) (h0 : 0 ≤ n ∧ n ≤ 999) : ∃ s, (1 ≤ s ∧ s < zpw (zZ M a w).length) ∧ zgF M a (zZ M a w) s ∧ (zgS M a (zZ M a w) s).2.2 = M.hset a w n := by
  have hl := zZ_len (a := a) (w := w) W
  obtain ⟨s, hs, hb⟩ := set_ex (m := (zZ M a w).length) (fun k => ∃ e, (zZ M a w)[k]? = some e ∧ zhn M a w n e.2) hl
  have hp := pw_e hl
  have hs6 : 0 ≤ s ∧ s < 64 := by omega
  obtain ⟨⟨i1, i2⟩, i3, i4, i5, i6⟩ := zcs_go (M := M) (a := a) hs6 hl (zZ_or W) _ (Nat.le_refl _)
  have hsl : ∀ e, zgL (zZ M a w) s (zZ M a w).length e → zhn M a w n e.2 := fun e z => by
    obtain ⟨k, z1, z2, z3⟩ := z
    obtain ⟨f, z4, z5⟩ := (hb k z1).mp z3
    rw [Option.some.inj (z2.symm.trans z4)]
    exact z5
  have hin : ∀ q, q ∈ M.li a → zhn M a w n q → ∃ i, zgL (zZ M a w) s (zZ M a w).length (i, q) := fun q hq z => by
    obtain ⟨k, i, z1, z2⟩ := zZ_at hq z.1 z.2.1
    exact ⟨i, k, z1, z2, (hb k z1).mpr ⟨_, z2, z⟩⟩
  refine ⟨s, ⟨?_, hs.2⟩, ?_, mask_ext i2 (hset_rng W n) (fun j h1 h2 => ?_)⟩
  · apply Classical.byContradiction
    intro z
    have z0 : s = 0 := by omega
    apply hn
    refine mask_ext (hset_rng W n) (by decide) (fun j h1 h2 => ⟨fun z2 => ?_, fun z2 => absurd z2 (mb_0 ⟨h1, h2⟩)⟩)
    obtain ⟨q, z3, z4, z5⟩ := (hset_mb W ⟨h1, h2⟩).mp z2
    obtain ⟨i, k, z6, z7, z8⟩ := hin q z3 z4
    rw [z0] at z8
    exact absurd z8 (mb_0 (by omega))
  · show (zgS M a (zZ M a w) s).1 ≤ (zgS M a (zZ M a w) s).2.1
    have h1 : (zgS M a (zZ M a w) s).1 ≤ n := by
      rcases i4 with z | ⟨e, z1, z2⟩
      · exact Int.le_trans (Int.le_of_eq z) h0.1
      · exact Int.le_trans (Int.le_of_eq z2) (hsl e z1).2.2.1
    have h2 : n ≤ (zgS M a (zZ M a w) s).2.1 := by
      rcases i5 with z | ⟨e, z1, z2⟩
      · exact Int.le_trans h0.2 (Int.le_of_eq z.symm)
      · exact Int.le_trans (hsl e z1).2.2.2 (Int.le_of_eq z2.symm)
    exact Int.le_trans h1 h2
  · show zand (zshr (zlp (zag M a (zZ M a w) s) 0 (zZ M a w).length (0, 999, 0)).2.2 j) 1 = 1 ↔ _
    rw [i6 j h1 h2, hset_mb W ⟨h1, h2⟩]
    refine ⟨fun ⟨e, z1, z2⟩ => ⟨e.2, List.mem_of_getElem? (zZ_mem.mp (zsl_mem z1)).1, hsl e z1, z2⟩, fun ⟨q, z1, z2, z3⟩ => ?_⟩
    obtain ⟨i, z4⟩ := hin q z1 z2
    exact ⟨_, z4, z3⟩
theorem bet_set (W : WF B M) (hs : 1 ≤ s ∧ s < zpw (zZ M a w).length) (hf : zgF M a (zZ M a w) s) : ∃ n, (0 ≤ n ∧ n ≤ 999) ∧ ¬ M.hset a w n = 0 ∧ zbet (M.hset a w n) (zgS M a (zZ M a w) s).2.2 := by
  have hl := zZ_len (a := a) (w := w) W
  have hp := pw_e hl
  have hs6 : 0 ≤ s ∧ s < 64 := by omega
  obtain ⟨⟨i1, i2⟩, i3, i4, i5, i6⟩ := zcs_go (M := M) (a := a) hs6 hl (zZ_or W) _ (Nat.le_refl _)
  have hf2 : (zgS M a (zZ M a w) s).1 ≤ (zgS M a (zZ M a w) s).2.1 := hf
  have hh : ∀ e, zgL (zZ M a w) s (zZ M a w).length e → zhn M a w (zgS M a (zZ M a w) s).1 e.2 := fun e z => by
    obtain ⟨_, z2, z3⟩ := zZ_mem.mp (zsl_mem z)
    have z4 := i3 e z
    exact ⟨z2, z3, z4.1, Int.le_trans hf2 z4.2⟩
  refine ⟨(zgS M a (zZ M a w) s).1, ⟨i1.1, Int.le_trans hf2 i1.2⟩, ?_, ?_⟩
  · obtain ⟨k, hk, hk1⟩ := set_lo hs hl
    have hz : (zZ M a w)[k]? = some (zZ M a w)[k] := List.getElem?_eq_getElem hk
    have hsl : zgL (zZ M a w) s (zZ M a w).length (zZ M a w)[k] := ⟨k, hk, hz, hk1⟩
    exact hset_ne W (List.mem_of_getElem? (zZ_mem.mp (zsl_mem hsl)).1) (hh _ hsl)
  · have h1 := sub_cu i2 (hset_rng (a := a) (w := w) W (zgS M a (zZ M a w) s).1) (fun j h1 h2 z => by
      obtain ⟨e, z1, z2⟩ := (i6 j h1 h2).mp z
      exact (hset_mb W ⟨h1, h2⟩).mpr ⟨e.2, List.mem_of_getElem? (zZ_mem.mp (zsl_mem z1)).1, hh e z1, z2⟩)
    show zbet _ (zlp (zag M a (zZ M a w) s) 0 (zZ M a w).length (0, 999, 0)).2.2
    by_cases hc : zcu (zlp (zag M a (zZ M a w) s) 0 (zZ M a w).length (0, 999, 0)).2.2 = zcu (M.hset a w (zgS M a (zZ M a w) s).1)
    · exact Or.inr ⟨hc, Int.le_of_eq (h1.2 hc).symm⟩
    · exact Or.inl (by have := h1.1; omega)
theorem low_set (W : WF B M) (hs : 0 ≤ s ∧ s < 64) (he : (zgS M a (zZ M a w) s).2.2 = M.hset a w n) : (zgS M a (zZ M a w) s).1 = zfx (M.lo a) (zhn M a w n) (M.li a) 0 ∧ (zgS M a (zZ M a w) s).2.1 = zfy (M.hi a) (zhn M a w n) (M.li a) 999 := by
  have hl := zZ_len (a := a) (w := w) W
  obtain ⟨⟨i1, i2⟩, i3, i4, i5, i6⟩ := zcs_go (M := M) (a := a) hs hl (zZ_or W) _ (Nat.le_refl _)
  have he2 : (zlp (zag M a (zZ M a w) s) 0 (zZ M a w).length (0, 999, 0)).2.2 = M.hset a w n := he
  rw [he2] at i6
  have hh : ∀ e, zgL (zZ M a w) s (zZ M a w).length e → zhn M a w n e.2 := fun e z => by
    have z0 := zsl_mem z
    obtain ⟨z1, z2, z3⟩ := zZ_mem.mp z0
    have z4 := zZ_or W e z0
    exact (maj_mem W (List.mem_of_getElem? z1)).mp ⟨z2, (i6 _ z4.1 z4.2).mpr ⟨e, z, rfl⟩⟩
  have hin : ∀ q, q ∈ M.li a → zhn M a w n q → ∃ e, zgL (zZ M a w) s (zZ M a w).length e ∧ e.2 = q := fun q hq z => by
    obtain ⟨k, i, z1, z2⟩ := zZ_at hq z.1 z.2.1
    have z4 := li_or W q hq
    obtain ⟨e, z5, z6⟩ := (i6 _ z4.1 z4.2).mp ((maj_mem W hq).mpr z).2
    refine ⟨e, z5, ?_⟩
    rw [zZ_inj W (f := (i, q)) (zsl_mem z5) (List.mem_of_getElem? z2) z6]
  obtain ⟨x1, x2, x3⟩ := zfx_ok (g := M.lo a) (h := zhn M a w n) (M.li a) 0
  obtain ⟨y1, y2, y3⟩ := zfy_ok (g := M.hi a) (h := zhn M a w n) (M.li a) 999
  constructor
  · show (zlp (zag M a (zZ M a w) s) 0 (zZ M a w).length (0, 999, 0)).1 = _
    apply Int.le_antisymm
    · rcases i4 with z | ⟨e, z1, z2⟩
      · rw [z]
        exact x1
      · rw [z2]
        exact x2 e.2 (List.mem_of_getElem? (zZ_mem.mp (zsl_mem z1)).1) (hh e z1)
    · rcases x3 with z | ⟨q, z1, z2, z3⟩
      · rw [z]
        exact i1.1
      · obtain ⟨e, z4, z5⟩ := hin q z1 z2
        rw [z3, ← z5]
        exact (i3 e z4).1
  · show (zlp (zag M a (zZ M a w) s) 0 (zZ M a w).length (0, 999, 0)).2.1 = _
    apply Int.le_antisymm
    · rcases y3 with z | ⟨q, z1, z2, z3⟩
      · rw [z]
        exact i1.2
      · obtain ⟨e, z4, z5⟩ := hin q z1 z2
        rw [z3, ← z5]
        exact (i3 e z4).2
    · rcases i5 with z | ⟨e, z1, z2⟩
      · rw [z]
        exact y1
      · rw [z2]
        exact y2 e.2 (List.mem_of_getElem? (zZ_mem.mp (zsl_mem z1)).1) (hh e z1)
/-- what the law holds when it has seen the sets below t -/
def zAg (M : zD) (a : Int) (Z : zEn) (t b lo hi : Int) : Prop := (b = 0 ∧ lo = -1 ∧ hi = -1 ∧ ∀ s, 1 ≤ s → s < t → ¬ zgF M a Z s) ∨ ∃ s0, (1 ≤ s0 ∧ s0 < t) ∧ zgF M a Z s0 ∧ b = (zgS M a Z s0).2.2 ∧ lo = (zgS M a Z s0).1 ∧ hi = (zgS M a Z s0).2.1 ∧ ∀ s, 1 ≤ s → s < t → zgF M a Z s → zbet b (zgS M a Z s).2.2
theorem agr_end (W : WF B M) {b lo hi : Int} (h : zAg M a (zZ M a w) (zpw (zZ M a w).length) b lo hi) : (M.agd a w).2 = b ∧ M.mjb a w 0 = lo ∧ M.mjb a w 1 = hi := by
  have hl := zZ_len (a := a) (w := w) W
  have hp := pw_e hl
  have hg := agd_ok (a := a) (w := w) W 1000
  have hd : M.agd a w = zlp (zast M a w) 0 1000 (-1, 0) := rfl
  rw [← hd] at hg
  have hno : ∀ s, (1 ≤ s ∧ s < zpw (zZ M a w).length) → zgF M a (zZ M a w) s → ∃ q : Nat, q < 1000 ∧ ¬ M.hset a w (q : Int) = 0 ∧ zbet (M.hset a w (q : Int)) (zgS M a (zZ M a w) s).2.2 := fun s h1 h2 => by
    obtain ⟨n, h3, h4, h5⟩ := bet_set W h1 h2
    refine ⟨n.toNat, by omega, ?_⟩
    rw [Int.toNat_of_nonneg h3.1]
    exact ⟨h4, h5⟩
  rcases hg with ⟨g1, g2, g3⟩ | ⟨g1, g2, g3, g4⟩
  · rcases h with ⟨h1, h2, h3, _⟩ | ⟨s0, h1, h2, _⟩
    · exact ⟨g2.trans h1.symm, (if_pos g2).trans h2.symm, (if_pos g2).trans h3.symm⟩
    · obtain ⟨q, h3, h4, _⟩ := hno s0 h1 h2
      exact absurd (g3 q h3) h4
  · obtain ⟨s1, k1, k2, k3⟩ := set_of (a := a) (w := w) (n := (M.agd a w).1) W (by rw [← g2]; exact g3) (by omega)
    rcases h with ⟨_, _, _, h4⟩ | ⟨s0, h1, h2, h3, h4, h5, h6⟩
    · exact absurd k2 (h4 s1 k1.1 k1.2)
    · obtain ⟨q, h7, h8, h9⟩ := hno s0 h1 h2
      have h10 := g4 q h7 h8
      rw [← h3] at h9
      have h11 := h6 s1 k1.1 k1.2 k2
      rw [k3, ← g2] at h11
      have e1 : (M.agd a w).2 = b := bet_as (bet_tr h10 h9) h11
      have e2 : (zgS M a (zZ M a w) s0).2.2 = M.hset a w (M.agd a w).1 := by rw [← h3, ← e1, g2]
      obtain ⟨l1, l2⟩ := low_set W (s := s0) (by omega) e2
      refine ⟨e1, ?_, ?_⟩
      · rw [h4, l1]
        exact (if_neg g3).trans (if_pos rfl)
      · rw [h5, l2]
        exact (if_neg g3).trans (if_neg (by decide))
theorem agr_old {b lo hi : Int} (h : zAg M a Z t b lo hi) (hf : zgF M a Z t → ¬ b = 0 ∧ zbet b (zgS M a Z t).2.2) : zAg M a Z (t + 1) b lo hi := by
  rcases h with ⟨h1, h2, h3, h4⟩ | ⟨s0, h1, h2, h3, h4, h5, h6⟩
  · refine Or.inl ⟨h1, h2, h3, fun s k1 k2 k3 => ?_⟩
    by_cases hs : s = t
    · rw [hs] at k3
      exact (hf k3).1 h1
    · exact h4 s k1 (by omega) k3
  · refine Or.inr ⟨s0, by omega, h2, h3, h4, h5, fun s k1 k2 k3 => ?_⟩
    by_cases hs : s = t
    · rw [hs] at k3 ⊢
      exact (hf k3).2
    · exact h6 s k1 (by omega) k3
theorem agr_new {b lo hi : Int} (ht : 1 ≤ t) (h : zAg M a Z t b lo hi) (hf : zgF M a Z t) (hb : zbet (zgS M a Z t).2.2 b) : zAg M a Z (t + 1) (zgS M a Z t).2.2 (zgS M a Z t).1 (zgS M a Z t).2.1 := by
  refine Or.inr ⟨t, ⟨ht, by omega⟩, hf, rfl, rfl, rfl, fun s k1 k2 k3 => ?_⟩
  by_cases hs : s = t
  · rw [hs]
    exact bet_rf _
  · rcases h with ⟨h1, h2, h3, h4⟩ | ⟨s0, h1, h2, h3, h4, h5, h6⟩
    · exact absurd k3 (h4 s k1 (by omega))
    · exact bet_tr hb (h6 s k1 (by omega) k3)
theorem mvd_lo (h : ¬ M.out a q) : M.mvd a 0 q = M.lo a q ∧ M.mvd a 1 q = M.hi a q := by
  have h1 : q 1 = a ∨ ¬ M.T a (q 1) = -1 := by
    by_cases hc : q 1 = a
    · exact Or.inl hc
    · refine Or.inr (fun z => h (Or.inl ?_))
      unfold zD.tv
      rw [if_neg hc]
      exact z
  exact ⟨(if_pos h1).trans (if_pos rfl), (if_pos h1).trans (if_neg (by decide))⟩
end R2
