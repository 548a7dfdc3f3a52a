/-! C 76: majorities -/
theorem zm_sum : ∀ s : Fin 64, ((s : Nat) : Int) = zand (zshr ((s : Nat) : Int) 0) 1 + 2 * zand (zshr ((s : Nat) : Int) 1) 1 + 4 * zand (zshr ((s : Nat) : Int) 2) 1 + 8 * zand (zshr ((s : Nat) : Int) 3) 1 + 16 * zand (zshr ((s : Nat) : Int) 4) 1 + 32 * zand (zshr ((s : Nat) : Int) 5) 1 ∧ zcu ((s : Nat) : Int) = zand (zshr ((s : Nat) : Int) 0) 1 + zand (zshr ((s : Nat) : Int) 1) 1 + zand (zshr ((s : Nat) : Int) 2) 1 + zand (zshr ((s : Nat) : Int) 3) 1 + zand (zshr ((s : Nat) : Int) 4) 1 + zand (zshr ((s : Nat) : Int) 5) 1 := by decide +kernel
theorem zm_bc : ∀ s : Fin 64, zbc ((s : Nat) : Int) = zcu ((s : Nat) : Int) := by decide +kernel
theorem bc_cu {s : Int} (hs : 0 ≤ s ∧ s < 64) : zbc s = zcu s := by
  have h := zm_bc ⟨s.toNat, by omega⟩
  dsimp only at h
  rw [Int.toNat_of_nonneg hs.1] at h
  exact h
theorem sub_cu {s t : Int} (hs : 0 ≤ s ∧ s < 64) (ht : 0 ≤ t ∧ t < 64) (h : ∀ k, 0 ≤ k → k < 6 → zand (zshr s k) 1 = 1 → zand (zshr t k) 1 = 1) : zcu s ≤ zcu t ∧ (zcu s = zcu t → s = t) := by
  have h1 := zm_sum ⟨s.toNat, by omega⟩
  have h2 := zm_sum ⟨t.toNat, by omega⟩
  dsimp only at h1 h2
  rw [Int.toNat_of_nonneg hs.1] at h1
  rw [Int.toNat_of_nonneg ht.1] at h2
  have a0 := mb_01 hs (k := 0) (by decide)
  have a1 := mb_01 hs (k := 1) (by decide)
  have a2 := mb_01 hs (k := 2) (by decide)
  have a3 := mb_01 hs (k := 3) (by decide)
  have a4 := mb_01 hs (k := 4) (by decide)
  have a5 := mb_01 hs (k := 5) (by decide)
  have b0 := mb_01 ht (k := 0) (by decide)
  have b1 := mb_01 ht (k := 1) (by decide)
  have b2 := mb_01 ht (k := 2) (by decide)
  have b3 := mb_01 ht (k := 3) (by decide)
  have b4 := mb_01 ht (k := 4) (by decide)
  have b5 := mb_01 ht (k := 5) (by decide)
  have c0 := h 0 (by decide) (by decide)
  have c1 := h 1 (by decide) (by decide)
  have c2 := h 2 (by decide) (by decide)
  have c3 := h 3 (by decide) (by decide)
  have c4 := h 4 (by decide) (by decide)
  have c5 := h 5 (by decide) (by decide)
  generalize zand (zshr s 0) 1 = x0 at *
  generalize zand (zshr s 1) 1 = x1 at *
  generalize zand (zshr s 2) 1 = x2 at *
  generalize zand (zshr s 3) 1 = x3 at *
  generalize zand (zshr s 4) 1 = x4 at *
  generalize zand (zshr s 5) 1 = x5 at *
  generalize zand (zshr t 0) 1 = y0 at *
  generalize zand (zshr t 1) 1 = y1 at *
  generalize zand (zshr t 2) 1 = y2 at *
  generalize zand (zshr t 3) 1 = y3 at *
  generalize zand (zshr t 4) 1 = y4 at *
  generalize zand (zshr t 5) 1 = y5 at *
  have d0 : x0 ≤ y0 := by rcases a0 with z | z <;> rcases b0 with u | u <;> omega
  have d1 : x1 ≤ y1 := by rcases a1 with z | z <;> rcases b1 with u | u <;> omega
  have d2 : x2 ≤ y2 := by rcases a2 with z | z <;> rcases b2 with u | u <;> omega
  have d3 : x3 ≤ y3 := by rcases a3 with z | z <;> rcases b3 with u | u <;> omega
  have d4 : x4 ≤ y4 := by rcases a4 with z | z <;> rcases b4 with u | u <;> omega
  have d5 : x5 ≤ y5 := by rcases a5 with z | z <;> rcases b5 with u | u <;> omega
  omega
theorem cu_pos {s : Int} (hs : 0 ≤ s ∧ s < 64) (h : ¬ s = 0) : 1 ≤ zcu s := by
  have h1 := sub_cu (s := 0) (t := s) (by decide) hs (fun k hk0 hk6 z => by
    exfalso
    have hc : k = 0 ∨ k = 1 ∨ k = 2 ∨ k = 3 ∨ k = 4 ∨ k = 5 := by omega
    rcases hc with y | y | y | y | y | y <;> subst y <;> revert z <;> decide +kernel)
  have h2 := ct_rng hs
  have h0 : zcu 0 = 0 := by decide +kernel
  rw [h0] at h1
  refine Classical.byContradiction (fun z => ?_)
  exact h (h1.2 (by omega)).symm
def zbet (s t : Int) : Prop := zcu t < zcu s ∨ (zcu t = zcu s ∧ s ≤ t)
theorem bet_of {k c : Int} (h : 0 < zcu k - zcu c ∨ (zcu k - zcu c = 0 ∧ k < c)) : zbet k c := by
  unfold zbet
  omega
theorem bet_no {k c : Int} (h : ¬ (0 < zcu k - zcu c ∨ (zcu k - zcu c = 0 ∧ k < c))) : zbet c k := by
  unfold zbet
  omega
theorem cu_dif {s t : Int} (hs : 0 ≤ s ∧ s < 64) (ht : 0 ≤ t ∧ t < 64) : w32 (zcu s - zcu t) = zcu s - zcu t := by
  have h1 := ct_rng hs
  have h2 := ct_rng ht
  exact w32_e (by omega)
theorem bet_rf (s : Int) : zbet s s := Or.inr ⟨rfl, Int.le_refl _⟩
theorem bet_tr {r s t : Int} (h : zbet r s) (k : zbet s t) : zbet r t := by
  unfold zbet at *
  omega
theorem bet_as {s t : Int} (h : zbet s t) (k : zbet t s) : s = t := by
  unfold zbet at *
  omega
noncomputable def zfs (h : zP → Prop) : List zP → Int → Int
  | [], c => c
  | p :: r, c => zfs h r (@ite _ (h p) (Classical.propDecidable _) (zor c (zshl 1 (p 0))) c)
noncomputable def zfx (f : zP → Int) (h : zP → Prop) : List zP → Int → Int
  | [], c => c
  | p :: r, c => zfx f h r (@ite _ (h p) (Classical.propDecidable _) (max c (f p)) c)
noncomputable def zfy (f : zP → Int) (h : zP → Prop) : List zP → Int → Int
  | [], c => c
  | p :: r, c => zfy f h r (@ite _ (h p) (Classical.propDecidable _) (min c (f p)) c)
theorem zfs_t {h : zP → Prop} {p : zP} {r : List zP} {c : Int} (z : h p) : zfs h (p :: r) c = zfs h r (zor c (zshl 1 (p 0))) := congrArg (zfs h r) (if_pos z)
theorem zfs_f {h : zP → Prop} {p : zP} {r : List zP} {c : Int} (z : ¬ h p) : zfs h (p :: r) c = zfs h r c := congrArg (zfs h r) (if_neg z)
theorem zfx_t {f : zP → Int} {h : zP → Prop} {p : zP} {r : List zP} {c : Int} (z : h p) : zfx f h (p :: r) c = zfx f h r (max c (f p)) := congrArg (zfx f h r) (if_pos z)
theorem zfx_f {f : zP → Int} {h : zP → Prop} {p : zP} {r : List zP} {c : Int} (z : ¬ h p) : zfx f h (p :: r) c = zfx f h r c := congrArg (zfx f h r) (if_neg z)
theorem zfy_t {f : zP → Int} {h : zP → Prop} {p : zP} {r : List zP} {c : Int} (z : h p) : zfy f h (p :: r) c = zfy f h r (min c (f p)) := congrArg (zfy f h r) (if_pos z)
theorem zfy_f {f : zP → Int} {h : zP → Prop} {p : zP} {r : List zP} {c : Int} (z : ¬ h p) : zfy f h (p :: r) c = zfy f h r c := congrArg (zfy f h r) (if_neg z)
theorem zfs_cg {h k : zP → Prop} : ∀ (l : List zP) (c : Int), (∀ p, p ∈ l → (h p ↔ k p)) → zfs h l c = zfs k l c := by
  intro l
  induction l with
  | nil => intro c _; rfl
  | cons p r ih =>
    intro c hk
    have h1 := hk p (List.mem_cons_self ..)
    have h2 := fun q hq => hk q (List.mem_cons_of_mem p hq)
    by_cases z : h p
    · rw [zfs_t z, zfs_t (h1.mp z), ih _ h2]
    · rw [zfs_f z, zfs_f (fun y => z (h1.mpr y)), ih _ h2]
theorem zfs_fil {g : zP → Bool} {h : zP → Prop} : ∀ (l : List zP) (c : Int), zfs h (l.filter g) c = zfs (fun p => g p = true ∧ h p) l c := by
  intro l
  induction l with
  | nil => intro c; rfl
  | cons p r ih =>
    intro c
    cases e : g p with
    | true =>
      rw [fil_cons_t e]
      by_cases z : h p
      · rw [zfs_t z, zfs_t (h := fun p => g p = true ∧ h p) ⟨e, z⟩, ih]
      · rw [zfs_f z, zfs_f (h := fun p => g p = true ∧ h p) (fun y => z y.2), ih]
    | false =>
      rw [fil_cons_f e, zfs_f (h := fun p => g p = true ∧ h p) (fun y => by rw [e] at y; exact absurd y.1 (by decide)), ih]
theorem zfx_cg {f : zP → Int} {h k : zP → Prop} : ∀ (l : List zP) (c : Int), (∀ p, p ∈ l → (h p ↔ k p)) → zfx f h l c = zfx f k l c := by
  intro l
  induction l with
  | nil => intro c _; rfl
  | cons p r ih =>
    intro c hk
    have h1 := hk p (List.mem_cons_self ..)
    have h2 := fun q hq => hk q (List.mem_cons_of_mem p hq)
    by_cases z : h p
    · rw [zfx_t z, zfx_t (h1.mp z), ih _ h2]
    · rw [zfx_f z, zfx_f (fun y => z (h1.mpr y)), ih _ h2]
theorem zfx_fil {f : zP → Int} {g : zP → Bool} {h : zP → Prop} : ∀ (l : List zP) (c : Int), zfx f h (l.filter g) c = zfx f (fun p => g p = true ∧ h p) l c := by
  intro l
  induction l with
  | nil => intro c; rfl
  | cons p r ih =>
    intro c
    cases e : g p with
    | true =>
      rw [fil_cons_t e]
      by_cases z : h p
      · rw [zfx_t z, zfx_t (h := fun p => g p = true ∧ h p) ⟨e, z⟩, ih]
      · rw [zfx_f z, zfx_f (h := fun p => g p = true ∧ h p) (fun y => z y.2), ih]
    | false =>
      rw [fil_cons_f e, zfx_f (h := fun p => g p = true ∧ h p) (fun y => by rw [e] at y; exact absurd y.1 (by decide)), ih]
theorem zfy_cg {f : zP → Int} {h k : zP → Prop} : ∀ (l : List zP) (c : Int), (∀ p, p ∈ l → (h p ↔ k p)) → zfy f h l c = zfy f k l c := by
  intro l
  induction l with
  | nil => intro c _; rfl
  | cons p r ih =>
    intro c hk
    have h1 := hk p (List.mem_cons_self ..)
    have h2 := fun q hq => hk q (List.mem_cons_of_mem p hq)
    by_cases z : h p
    · rw [zfy_t z, zfy_t (h1.mp z), ih _ h2]
    · rw [zfy_f z, zfy_f (fun y => z (h1.mpr y)), ih _ h2]
theorem zfy_fil {f : zP → Int} {g : zP → Bool} {h : zP → Prop} : ∀ (l : List zP) (c : Int), zfy f h (l.filter g) c = zfy f (fun p => g p = true ∧ h p) l c := by
  intro l
  induction l with
  | nil => intro c; rfl
  | cons p r ih =>
    intro c
    cases e : g p with
    | true =>
      rw [fil_cons_t e]
      by_cases z : h p
      · rw [zfy_t z, zfy_t (h := fun p => g p = true ∧ h p) ⟨e, z⟩, ih]
      · rw [zfy_f z, zfy_f (h := fun p => g p = true ∧ h p) (fun y => z y.2), ih]
    | false =>
      rw [fil_cons_f e, zfy_f (h := fun p => g p = true ∧ h p) (fun y => by rw [e] at y; exact absurd y.1 (by decide)), ih]
theorem zfs_mb {h : zP → Prop} : ∀ (l : List zP) (c : Int), (∀ p, p ∈ l → 0 ≤ p 0 ∧ p 0 < 6) → (0 ≤ c ∧ c < 64) → (0 ≤ zfs h l c ∧ zfs h l c < 64) ∧ ∀ k, 0 ≤ k → k < 6 → (zand (zshr (zfs h l c) k) 1 = 1 ↔ (zand (zshr c k) 1 = 1 ∨ ∃ p, p ∈ l ∧ h p ∧ p 0 = k)) := by
  intro l
  induction l with
  | nil =>
    intro c _ hc
    refine ⟨hc, fun k _ _ => ⟨fun h => Or.inl h, fun h => ?_⟩⟩
    rcases h with h | ⟨e, he, _⟩
    · exact h
    · exact absurd he (by simp)
  | cons p r ih =>
    intro c hX hc
    have he := hX p (List.mem_cons_self ..)
    by_cases y : h p
    · rw [zfs_t y]
      obtain ⟨h1, h2⟩ := ih (zor c (zshl 1 (p 0))) (fun f hf => hX f (List.mem_cons_of_mem _ hf)) (or_rng hc he)
      refine ⟨h1, fun k hk0 hk6 => ?_⟩
      rw [h2 k hk0 hk6, mb_or hc he ⟨hk0, hk6⟩]
      constructor
      · rintro ((h | h) | ⟨f, hf, h⟩)
        · exact Or.inr ⟨p, List.mem_cons_self .., y, h.symm⟩
        · exact Or.inl h
        · exact Or.inr ⟨f, List.mem_cons_of_mem _ hf, h⟩
      · rintro (h | ⟨f, hf, h3, h4⟩)
        · exact Or.inl (Or.inr h)
        · rcases List.mem_cons.mp hf with hf | hf
          · subst hf
            exact Or.inl (Or.inl h4.symm)
          · exact Or.inr ⟨f, hf, h3, h4⟩
    · rw [zfs_f y]
      obtain ⟨h1, h2⟩ := ih c (fun f hf => hX f (List.mem_cons_of_mem _ hf)) hc
      refine ⟨h1, fun k hk0 hk6 => ?_⟩
      rw [h2 k hk0 hk6]
      constructor
      · rintro (h | ⟨f, hf, h⟩)
        · exact Or.inl h
        · exact Or.inr ⟨f, List.mem_cons_of_mem _ hf, h⟩
      · rintro (h | ⟨f, hf, h3, h4⟩)
        · exact Or.inl h
        · rcases List.mem_cons.mp hf with hf | hf
          · subst hf
            exact absurd h3 y
          · exact Or.inr ⟨f, hf, h3, h4⟩
theorem mb_0 {k : Int} (hk : 0 ≤ k ∧ k < 6) : ¬ zand (zshr 0 k) 1 = 1 := by
  have hc : k = 0 ∨ k = 1 ∨ k = 2 ∨ k = 3 ∨ k = 4 ∨ k = 5 := by omega
  rcases hc with z | z | z | z | z | z <;> rw [z] <;> decide +kernel
def zew (w : Int) (p : zP) : Prop := p 3 = w ∧ ¬ p 1 = -1
def zhn (M : zD) (a w n : Int) (p : zP) : Prop := zew w p ∧ ¬ M.out a p ∧ M.lo a p ≤ n ∧ n ≤ M.hi a p
noncomputable def zD.hset (M : zD) (a w n : Int) : Int := zfs (zhn M a w n) (M.li a) 0
noncomputable def zast (M : zD) (a w : Int) (q : Nat) (c : Int × Int) : Int × Int := @ite _ (¬ M.hset a w (q : Int) = 0 ∧ (c.1 = -1 ∨ ¬ zbet c.2 (M.hset a w (q : Int)))) (Classical.propDecidable _) ((q : Int), M.hset a w (q : Int)) c
noncomputable def zD.agd (M : zD) (a w : Int) : Int × Int := zlp (zast M a w) 0 1000 (-1, 0)
def FC (m : Int) (μ μ' : zM) : Prop := (∀ y, y ≠ m → μ' y = μ y) ∧ (∀ k, k ≠ 19 → k ≠ 20 → μ' m k = μ m k)
theorem FC.mk {m : Int} {μ μ' : zM} (h : (∀ y, y ≠ m → μ' y = μ y) ∧ (∀ k, k ≠ 19 → k ≠ 20 → μ' m k = μ m k)) : FC m μ μ' := h
theorem FC.x {m : Int} {μ μ' : zM} (h : FC m μ μ') : ∀ y, y ≠ m → μ' y = μ y := h.1
theorem FC.f {m : Int} {μ μ' : zM} (h : FC m μ μ') : ∀ k, k ≠ 19 → k ≠ 20 → μ' m k = μ m k := h.2
section C76
variable {S S' : zG} {μ μ' μ1 μ2 : zM} {x m d B A a b w : Int} {n : Nat} {M M' : zD} {L : List zD} {K : zKs} {l inp out out' : List Int} {c p : Int} {P : zG → zM → Prop} {Q : zR × zS → Prop}
theorem ast_p {q : Nat} {c : Int × Int} (h1 : ¬ M.hset a w (q : Int) = 0) (h2 : c.1 = -1 ∨ ¬ zbet c.2 (M.hset a w (q : Int))) : zast M a w q c = ((q : Int), M.hset a w (q : Int)) := if_pos ⟨h1, h2⟩
theorem ast_n {q : Nat} {c : Int × Int} (h : ¬ (¬ M.hset a w (q : Int) = 0 ∧ (c.1 = -1 ∨ ¬ zbet c.2 (M.hset a w (q : Int))))) : zast M a w q c = c := if_neg h
theorem sp_rng (W : WF B M) {q : zP} (hq : q ∈ M.li a) : 0 ≤ M.sp a q ∧ M.sp a q ≤ 30000000 := by
  have h0 := W.r0
  have h1 := W.r1
  have ht := W.tm
  have hB := W.B0
  have hT := W.Tr a (q 1)
  have hqo := W.li a q hq
  have q4 := hqo.t
  have q2 := hqo.h
  have e1 : w32 (M.tm - q 4) = M.tm - q 4 := w32_e (by omega)
  have e2 : w32 (10 - M.T a (q 1)) = 10 - M.T a (q 1) := w32_e (by omega)
  have m1 : 0 ≤ M.ru 0 * (M.tm - q 4) := Int.mul_nonneg h0.1 (by omega)
  have m2 : M.ru 0 * (M.tm - q 4) ≤ 20 * 1000000 := Int.mul_le_mul h0.2 (by omega) (by omega) (by decide)
  have m3 : 0 ≤ M.ru 1 * (10 - M.T a (q 1)) := Int.mul_nonneg h1.1 (by omega)
  have m4 : M.ru 1 * (10 - M.T a (q 1)) ≤ 50 * 11 := Int.mul_le_mul h1.2 (by omega) (by omega) (by decide)
  have ed : M.dr q = M.ru 0 * (M.tm - q 4) := by
    unfold zD.dr
    rw [e1, w32_e (by omega)]
  have hd : 0 ≤ M.dr q ∧ M.dr q ≤ 20000000 := by rw [ed]; omega
  unfold zD.sp
  by_cases e : q 1 = a
  · rw [if_pos e]; omega
  · rw [if_neg e, e2, w32_e (z := M.ru 1 * (10 - M.T a (q 1))) (by omega)]
    generalize M.ru 1 * (10 - M.T a (q 1)) = u at *
    have m5 : 0 ≤ u * q 2 := Int.mul_nonneg m3 (by omega)
    have m6 : u * q 2 ≤ 550 * 3 := Int.mul_le_mul m4 (by omega) (by omega) (by decide)
    rw [w32_e (z := u * q 2) (by omega), w32_e (by omega)]
    omega
theorem lohi (W : WF B M) {q : zP} (hq : q ∈ M.li a) : 0 ≤ M.lo a q ∧ M.lo a q ≤ M.hi a q ∧ M.hi a q ≤ 999 := by
  have h1 := sp_rng W hq
  have h2 := (W.li a q hq).b
  unfold zD.lo zD.hi zlo zhi
  rw [w32_e (z := q 5 - M.sp a q) (by omega), w32_e (z := q 6 + M.sp a q) (by omega)]
  omega
theorem li_or (W : WF B M) : ∀ q, q ∈ M.li a → 0 ≤ q 0 ∧ q 0 < 6 := by
  intro q hq
  have h1 := (W.li a q hq).o
  have h2 := W.al
  omega
theorem hset_rng (W : WF B M) (t : Int) : 0 ≤ M.hset a w t ∧ M.hset a w t < 64 := (zfs_mb _ 0 (li_or W) (by decide)).1
theorem hset_mb (W : WF B M) {t k : Int} (hk : 0 ≤ k ∧ k < 6) : zand (zshr (M.hset a w t) k) 1 = 1 ↔ ∃ q, q ∈ M.li a ∧ zhn M a w t q ∧ q 0 = k := by
  have h := (zfs_mb (h := zhn M a w t) (M.li a) 0 (li_or W) (by decide)).2 k hk.1 hk.2
  refine h.trans ⟨fun z => ?_, fun z => Or.inr z⟩
  rcases z with z | z
  · exact absurd z (mb_0 hk)
  · exact z
theorem hset_ne (W : WF B M) {t : Int} {q : zP} (hq : q ∈ M.li a) (h : zhn M a w t q) : ¬ M.hset a w t = 0 := by
  intro z
  have h1 := li_or W q hq
  have h2 := (hset_mb (w := w) (t := t) W h1).mpr ⟨q, hq, h, rfl⟩
  rw [z] at h2
  exact mb_0 h1 h2
theorem top_low {t : Int} : ∀ l : List zP, (∃ q, q ∈ l ∧ zhn M a w t q) → ∃ q, q ∈ l ∧ zhn M a w t q ∧ ∀ r, r ∈ l → zhn M a w t r → M.lo a r ≤ M.lo a q := by
  intro l
  induction l with
  | nil => rintro ⟨q, hq, _⟩; exact absurd hq (by simp)
  | cons q l ih =>
    intro _
    by_cases hl : ∃ q, q ∈ l ∧ zhn M a w t q
    · obtain ⟨u, hu, hh, hm⟩ := ih hl
      by_cases hq : zhn M a w t q ∧ M.lo a u < M.lo a q
      · refine ⟨q, List.mem_cons_self .., hq.1, fun r hr hrh => ?_⟩
        rcases List.mem_cons.mp hr with e | e
        · rw [e]; exact Int.le_refl _
        · have := hm r e hrh; omega
      · refine ⟨u, List.mem_cons_of_mem _ hu, hh, fun r hr hrh => ?_⟩
        rcases List.mem_cons.mp hr with e | e
        · rw [e] at hrh ⊢
          have : ¬ M.lo a u < M.lo a q := fun z => hq ⟨hrh, z⟩
          omega
        · exact hm r e hrh
    · rename_i hex
      obtain ⟨u, hu, hh⟩ := hex
      refine ⟨q, List.mem_cons_self .., ?_, fun r hr hrh => ?_⟩
      · rcases List.mem_cons.mp hu with e | e
        · rw [← e]; exact hh
        · exact absurd ⟨u, e, hh⟩ hl
      · rcases List.mem_cons.mp hr with e | e
        · rw [e]; exact Int.le_refl _
        · exact absurd ⟨r, e, hrh⟩ hl
theorem dom (W : WF B M) {t : Int} (h : ¬ M.hset a w t = 0) : ∃ q, q ∈ M.li a ∧ zew w q ∧ ¬ M.out a q ∧ zbet (M.hset a w (M.lo a q)) (M.hset a w t) := by
  have hex : ∃ q, q ∈ M.li a ∧ zhn M a w t q := by
    refine Classical.byContradiction (fun z => h ?_)
    unfold zD.hset
    rw [zfs_cg (k := fun _ => False) _ _ (fun q hq => ⟨fun y => z ⟨q, hq, y⟩, fun y => y.elim⟩)]
    have key : ∀ (l : List zP) (c : Int), zfs (fun _ => False) l c = c := by
      intro l
      induction l with
      | nil => intro c; rfl
      | cons q l ih => intro c; rw [zfs_f (fun y => y)]; exact ih c
    exact key _ _
  obtain ⟨q, hq, hh, hm⟩ := top_low (M.li a) hex
  have hs := sub_cu (s := M.hset a w t) (t := M.hset a w (M.lo a q)) (hset_rng W _) (hset_rng W _) (fun k hk0 hk6 z => by
    obtain ⟨r, hr, hrh, hr0⟩ := (hset_mb W ⟨hk0, hk6⟩).mp z
    refine (hset_mb W ⟨hk0, hk6⟩).mpr ⟨r, hr, ⟨hrh.1, hrh.2.1, hm r hr hrh, ?_⟩, hr0⟩
    have h1 := hrh.2.2.2
    have h2 := hh.2.2.1
    omega)
  refine ⟨q, hq, hh.1, hh.2.1, ?_⟩
  by_cases e : zcu (M.hset a w t) = zcu (M.hset a w (M.lo a q))
  · rw [← hs.2 e]; exact bet_rf _
  · exact Or.inl (by omega)
theorem agd_ok (W : WF B M) : ∀ N : Nat, ((zlp (zast M a w) 0 N (-1, 0)).1 = -1 ∧ (zlp (zast M a w) 0 N (-1, 0)).2 = 0 ∧ ∀ q : Nat, q < N → M.hset a w (q : Int) = 0) ∨ ((0 ≤ (zlp (zast M a w) 0 N (-1, 0)).1 ∧ (zlp (zast M a w) 0 N (-1, 0)).1 < (N : Int)) ∧ (zlp (zast M a w) 0 N (-1, 0)).2 = M.hset a w (zlp (zast M a w) 0 N (-1, 0)).1 ∧ ¬ (zlp (zast M a w) 0 N (-1, 0)).2 = 0 ∧ ∀ q : Nat, q < N → ¬ M.hset a w (q : Int) = 0 → zbet (zlp (zast M a w) 0 N (-1, 0)).2 (M.hset a w (q : Int))) := by
  intro N
  induction N with
  | zero => exact Or.inl ⟨rfl, rfl, fun q hq => absurd hq (by omega)⟩
  | succ N ih =>
    rw [zlp_s0]
    generalize zlp (zast M a w) 0 N (-1, 0) = c at *
    by_cases z : ¬ M.hset a w (N : Int) = 0 ∧ (c.1 = -1 ∨ ¬ zbet c.2 (M.hset a w (N : Int)))
    · rw [ast_p z.1 z.2]
      refine Or.inr ⟨⟨by show 0 ≤ (N : Int); omega, by show (N : Int) < ((N + 1 : Nat) : Int); omega⟩, rfl, z.1, fun q hq hqn => ?_⟩
      show zbet (M.hset a w (N : Int)) (M.hset a w (q : Int))
      by_cases e : q = N
      · rw [e]; exact bet_rf _
      · rcases ih with ⟨h1, h2, h3⟩ | ⟨h1, h2, h3, h4⟩
        · exact absurd (h3 q (by omega)) hqn
        · have hb := z.2.resolve_left (by omega)
          have hb2 : zbet (M.hset a w (N : Int)) c.2 := by
            unfold zbet at hb ⊢
            omega
          exact bet_tr hb2 (h4 q (by omega) hqn)
    · rw [ast_n z]
      rcases ih with ⟨h1, h2, h3⟩ | ⟨h1, h2, h3, h4⟩
      · refine Or.inl ⟨h1, h2, fun q hq => ?_⟩
        by_cases e : q = N
        · rw [e]
          refine Classical.byContradiction (fun y => z ⟨y, Or.inl h1⟩)
        · exact h3 q (by omega)
      · refine Or.inr ⟨⟨h1.1, by omega⟩, h2, h3, fun q hq hqn => ?_⟩
        by_cases e : q = N
        · rw [e] at hqn ⊢
          refine Classical.byContradiction (fun y => z ⟨hqn, Or.inr y⟩)
        · exact h4 q (by omega) hqn
theorem bel_sg (M : zD) (a w x : Int) (o : Int) : ((M.bel a w x).1 o = 2 ↔ zst0 M a (zent w x (M.li a) 0) o = 2) ∧ (0 ≤ zst0 M a (zent w x (M.li a) 0) o → 0 ≤ (M.bel a w x).1 o) := by
  unfold zD.bel
  refine zlp_inv (P := fun s : zBs => ∀ o, (s.1 o = 2 ↔ zst0 M a (zent w x (M.li a) 0) o = 2) ∧ (0 ≤ zst0 M a (zent w x (M.li a) 0) o → 0 ≤ s.1 o)) (N := (zent w x (M.li a) 0).length) ?_ _ 0 _ (by omega) (fun o => ⟨Iff.rfl, fun h => h⟩) o
  intro k s _ hs
  unfold zbs
  cases hn : znx (M.rk a) s.1 (zent w x (M.li a) 0) none with
  | none => exact hs
  | some p =>
    rcases znx_mem _ _ _ hn with ⟨r, hr, h3⟩ | h
    · have up : ∀ t, (t = 0 ∨ t = 1) → ∀ o, (zup1 s.1 (p 0) t o = 2 ↔ zst0 M a (zent w x (M.li a) 0) o = 2) ∧ (0 ≤ zst0 M a (zent w x (M.li a) 0) o → 0 ≤ zup1 s.1 (p 0) t o) := by
        intro t ht o
        have ho := hs o
        by_cases e : o = p 0
        · rw [e, zup1_at]
          rw [e] at ho
          rw [h3] at ho
          refine ⟨⟨fun z => by omega, fun z => absurd (ho.1.mpr z) (by decide)⟩, fun _ => by omega⟩
        · rw [zup1_b e]
          exact ho
      dsimp only
      split
      · exact up 1 (Or.inr rfl)
      · exact up 0 (Or.inl rfl)
    · exact absurd h (by simp)
theorem bel_out (W : WF B M) {q : zP} (hq : q ∈ M.li a) (hw : zew w q) : ((M.bel a w (-1)).1 (q 0) = 2 ↔ M.out a q) ∧ 0 ≤ (M.bel a w (-1)).1 (q 0) := by
  obtain ⟨k, hk⟩ := List.mem_iff_getElem?.mp hq
  have h1 := zst0_row (w := w) (x := -1) W hk hw
  have h2 := bel_sg M a w (-1) (q 0)
  rw [h1] at h2
  by_cases e : M.out a q
  · rw [zbl_p e] at h2
    exact ⟨h2.1.trans ⟨fun _ => e, fun _ => rfl⟩, h2.2 (by decide)⟩
  · rw [zbl_n e] at h2
    exact ⟨h2.1.trans ⟨fun z => absurd z (by decide), fun z => absurd z e⟩, h2.2 (by decide)⟩
theorem zard_fs {s : zBs} {t : Int} : ∀ (X : zEn) (c : Int), zard M a s t X c = zfs (fun q => ¬ s.1 (q 0) = 2 ∧ M.lo a q ≤ t ∧ t ≤ M.hi a q) (X.map Prod.snd) c := by
  intro X
  induction X with
  | nil => intro c; rfl
  | cons e X ih =>
    intro c
    rw [List.map_cons]
    by_cases z : ¬ s.1 (e.2 0) = 2 ∧ M.lo a e.2 ≤ t ∧ t ≤ M.hi a e.2
    · rw [zfs_t (h := fun q => ¬ s.1 (q 0) = 2 ∧ M.lo a q ≤ t ∧ t ≤ M.hi a q) z, ← ih]
      exact congrArg (zard M a s t X) (if_pos z)
    · rw [zfs_f (h := fun q => ¬ s.1 (q 0) = 2 ∧ M.lo a q ≤ t ∧ t ≤ M.hi a q) z, ← ih]
      exact congrArg (zard M a s t X) (if_neg z)
theorem zlw_fs {t : Int} : ∀ (X : zEn) (c : Int), zlw M a t X c = zfx (M.lo a) (fun q => zct t (q 0)) (X.map Prod.snd) c := by
  intro X
  induction X with
  | nil => intro c; rfl
  | cons e X ih =>
    intro c
    rw [List.map_cons]
    by_cases z : zct t (e.2 0)
    · rw [zfx_t (h := fun q => zct t (q 0)) z, ← ih]
      exact congrArg (zlw M a t X) (if_pos z)
    · rw [zfx_f (h := fun q => zct t (q 0)) z, ← ih]
      exact congrArg (zlw M a t X) (if_neg z)
theorem zhg_fs {t : Int} : ∀ (X : zEn) (c : Int), zhg M a t X c = zfy (M.hi a) (fun q => zct t (q 0)) (X.map Prod.snd) c := by
  intro X
  induction X with
  | nil => intro c; rfl
  | cons e X ih =>
    intro c
    rw [List.map_cons]
    by_cases z : zct t (e.2 0)
    · rw [zfy_t (h := fun q => zct t (q 0)) z, ← ih]
      exact congrArg (zhg M a t X) (if_pos z)
    · rw [zfy_f (h := fun q => zct t (q 0)) z, ← ih]
      exact congrArg (zhg M a t X) (if_neg z)
theorem around_eq (W : WF B M) (t : Int) : zard M a (M.bel a w (-1)) t (zent w (-1) (M.li a) 0) 0 = M.hset a w t := by
  rw [zard_fs, zent_snd, zfs_fil]
  unfold zD.hset
  refine zfs_cg _ _ (fun q hq => ?_)
  constructor
  · rintro ⟨h1, h2, h3⟩
    have h4 : q 3 = w ∧ ¬ q 1 = -1 := of_decide_eq_true h1
    exact ⟨h4, fun z => h2 ((bel_out W hq h4).1.mpr z), h3⟩
  · rintro ⟨h1, h2, h3⟩
    exact ⟨decide_eq_true (show q 3 = w ∧ ¬ q 1 = -1 from h1), fun z => h2 ((bel_out W hq h1).1.mp z), h3⟩
theorem zlg_ok {s : zBs} {X : zEn} (hcand : ∀ e : Nat × zP, 0 ≤ (if s.1 (e.2 0) = 2 then 0 else zard M a s (M.lo a e.2) X 0) ∧ (if s.1 (e.2 0) = 2 then 0 else zard M a s (M.lo a e.2) X 0) < 64) : ∀ (r : zEn) (c : Int), (0 ≤ c ∧ c < 64) → (zlg M a s X r c = c ∨ ∃ e, e ∈ r ∧ zlg M a s X r c = if s.1 (e.2 0) = 2 then 0 else zard M a s (M.lo a e.2) X 0) ∧ zbet (zlg M a s X r c) c ∧ ∀ e, e ∈ r → zbet (zlg M a s X r c) (if s.1 (e.2 0) = 2 then 0 else zard M a s (M.lo a e.2) X 0) := by
  intro r
  induction r with
  | nil => intro c _; exact ⟨Or.inl rfl, bet_rf _, fun e he => absurd he (by simp)⟩
  | cons e r ih =>
    intro c hc
    have h1 := hcand e
    have hb1 := bc_cu h1
    have hb2 := bc_cu hc
    have r1 := ct_rng h1
    have r2 := ct_rng hc
    have eg : zlg M a s X (e :: r) c = zlg M a s X r (if 0 < w32 (zbc (if s.1 (e.2 0) = 2 then 0 else zard M a s (M.lo a e.2) X 0) - zbc c) ∨ (w32 (zbc (if s.1 (e.2 0) = 2 then 0 else zard M a s (M.lo a e.2) X 0) - zbc c) = 0 ∧ (if s.1 (e.2 0) = 2 then 0 else zard M a s (M.lo a e.2) X 0) < c) then (if s.1 (e.2 0) = 2 then 0 else zard M a s (M.lo a e.2) X 0) else c) := rfl
    rw [eg]
    generalize hk : (if s.1 (e.2 0) = 2 then 0 else zard M a s (M.lo a e.2) X 0) = k at *
    rw [hb1, hb2, cu_dif h1 hc]
    by_cases z : 0 < zcu k - zcu c ∨ (zcu k - zcu c = 0 ∧ k < c)
    · rw [if_pos z]
      obtain ⟨g1, g2, g3⟩ := ih k h1
      have hkc : zbet k c := bet_of z
      refine ⟨Or.inr ?_, bet_tr g2 hkc, fun f hf => ?_⟩
      · rcases g1 with g1 | ⟨f, hf, g1⟩
        · exact ⟨e, List.mem_cons_self .., by rw [hk]; exact g1⟩
        · exact ⟨f, List.mem_cons_of_mem _ hf, g1⟩
      · rcases List.mem_cons.mp hf with y | y
        · rw [y, hk]; exact g2
        · exact g3 f y
    · rw [if_neg z]
      obtain ⟨g1, g2, g3⟩ := ih c hc
      have hkc : zbet c k := bet_no z
      refine ⟨?_, g2, fun f hf => ?_⟩
      · rcases g1 with g1 | ⟨f, hf, g1⟩
        · exact Or.inl g1
        · exact Or.inr ⟨f, List.mem_cons_of_mem _ hf, g1⟩
      · rcases List.mem_cons.mp hf with y | y
        · rw [y, hk]; exact bet_tr g2 hkc
        · exact g3 f y
theorem maj_eq (W : WF B M) : zlg M a (M.bel a w (-1)) (zent w (-1) (M.li a) 0) (zent w (-1) (M.li a) 0) 0 = (M.agd a w).2 := by
  have hcand : ∀ e : Nat × zP, 0 ≤ (if (M.bel a w (-1)).1 (e.2 0) = 2 then 0 else zard M a (M.bel a w (-1)) (M.lo a e.2) (zent w (-1) (M.li a) 0) 0) ∧ (if (M.bel a w (-1)).1 (e.2 0) = 2 then 0 else zard M a (M.bel a w (-1)) (M.lo a e.2) (zent w (-1) (M.li a) 0) 0) < 64 := by
    intro e
    split
    · decide
    · rw [around_eq W]; exact hset_rng W _
  obtain ⟨g1, g2, g3⟩ := zlg_ok (M := M) (a := a) hcand (zent w (-1) (M.li a) 0) 0 (by decide)
  have h0 : zcu 0 = 0 := by decide +kernel
  have hag := agd_ok (a := a) (w := w) W 1000
  have hagd : M.agd a w = zlp (zast M a w) 0 1000 (-1, 0) := rfl
  rw [← hagd] at hag
  generalize zlg M a (M.bel a w (-1)) (zent w (-1) (M.li a) 0) (zent w (-1) (M.li a) 0) 0 = R at *
  -- the class's choice is a number's set
  have hR : R = 0 ∨ ∃ q : Nat, q < 1000 ∧ R = M.hset a w (q : Int) ∧ ¬ R = 0 := by
    rcases g1 with g1 | ⟨e, he, g1⟩
    · exact Or.inl g1
    · by_cases z : (M.bel a w (-1)).1 (e.2 0) = 2
      · rw [if_pos z] at g1; exact Or.inl g1
      · rw [if_neg z, around_eq W] at g1
        obtain ⟨h1, h2, h3, h4⟩ := zent_mem _ _ _ _ (show (e.1, e.2) ∈ zent w (-1) (M.li a) 0 from he)
        have hq := List.mem_of_getElem? h2
        have hew : zew w e.2 := ⟨h3, h4⟩
        have hl := lohi (a := a) W hq
        have hno : ¬ M.out a e.2 := fun y => z ((bel_out W hq hew).1.mpr y)
        refine Or.inr ⟨(M.lo a e.2).toNat, by omega, ?_, ?_⟩
        · rw [g1, Int.toNat_of_nonneg hl.1]
        · rw [g1]; exact hset_ne W hq ⟨hew, hno, Int.le_refl _, hl.2.1⟩
  rcases hag with ⟨h1, h2, h3⟩ | ⟨h1, h2, h3, h4⟩
  · rcases hR with hR | ⟨q, hq, hR, hn⟩
    · rw [hR, h2]
    · exact absurd (hR.trans (h3 q hq)) hn
  · have hne : ¬ M.hset a w (M.agd a w).1 = 0 := by rw [← h2]; exact h3
    obtain ⟨q, hq, hew, hno, hb⟩ := dom W hne
    obtain ⟨k, hk⟩ := List.mem_iff_getElem?.mp hq
    have hmem := zent_has (w := w) (x := -1) _ 0 k q hk hew
    have hg := g3 _ hmem
    have hst : ¬ (M.bel a w (-1)).1 (q 0) = 2 := fun y => hno ((bel_out W hq hew).1.mp y)
    have hg2 : zbet R (M.hset a w (M.lo a q)) := by
      have e1 : (if (M.bel a w (-1)).1 (((0 + k, q) : Nat × zP).2 0) = 2 then 0 else zard M a (M.bel a w (-1)) (M.lo a ((0 + k, q) : Nat × zP).2) (zent w (-1) (M.li a) 0) 0) = M.hset a w (M.lo a q) := (if_neg hst).trans (around_eq W _)
      rw [e1] at hg
      exact hg
    rw [← h2] at hb
    have hRm := bet_tr hg2 hb
    rcases hR with hR | ⟨q2, hq2, hR, hn⟩
    · have h6 := cu_pos (by rw [h2]; exact hset_rng W _) h3
      rw [hR] at hRm
      unfold zbet at hRm
      rw [h0] at hRm
      omega
    · have h6 := h4 q2 hq2 (by rw [← hR]; exact hn)
      rw [← hR] at h6
      exact bet_as hRm h6
theorem maj_mem (W : WF B M) {t : Int} {q : zP} (hq : q ∈ M.li a) : (zew w q ∧ zct (M.hset a w t) (q 0)) ↔ zhn M a w t q := by
  have h6 := li_or W q hq
  constructor
  · rintro ⟨h1, h2⟩
    obtain ⟨r, hr, hrh, hr0⟩ := (hset_mb (w := w) (t := t) W h6).mp h2
    obtain ⟨i, hi⟩ := List.mem_iff_getElem?.mp hq
    obtain ⟨j, hj⟩ := List.mem_iff_getElem?.mp hr
    have hij : i = j := by
      refine Classical.byContradiction (fun z => ?_)
      exact rel_dis W hi hj (by rw [h1.1, hrh.1.1]) z hr0.symm
    rw [hij, hj] at hi
    rw [← Option.some.inj hi]
    exact hrh
  · intro h
    exact ⟨h.1, (hset_mb (w := w) (t := t) W h6).mpr ⟨q, hq, h, rfl⟩⟩
theorem low_eq (W : WF B M) {t : Int} : zlw M a (M.hset a w t) (zent w (-1) (M.li a) 0) 0 = zfx (M.lo a) (zhn M a w t) (M.li a) 0 := by
  rw [zlw_fs, zent_snd, zfx_fil]
  refine zfx_cg _ _ (fun q hq => ?_)
  refine Iff.trans ⟨fun h => ⟨(of_decide_eq_true h.1 : q 3 = w ∧ ¬ q 1 = -1), h.2⟩, fun h => ⟨decide_eq_true (show q 3 = w ∧ ¬ q 1 = -1 from h.1), h.2⟩⟩ (maj_mem W hq)
theorem high_eq (W : WF B M) {t : Int} : zhg M a (M.hset a w t) (zent w (-1) (M.li a) 0) 999 = zfy (M.hi a) (zhn M a w t) (M.li a) 999 := by
  rw [zhg_fs, zent_snd, zfy_fil]
  refine zfy_cg _ _ (fun q hq => ?_)
  refine Iff.trans ⟨fun h => ⟨(of_decide_eq_true h.1 : q 3 = w ∧ ¬ q 1 = -1), h.2⟩, fun h => ⟨decide_eq_true (show q 3 = w ∧ ¬ q 1 = -1 from h.1), h.2⟩⟩ (maj_mem W hq)
theorem FC.rf : FC m μ μ := FC.mk ⟨fun _ _ => rfl, fun _ _ _ => rfl⟩
theorem FC.tr (h : FC m μ μ1) (k : FC m μ1 μ2) : FC m μ μ2 := FC.mk ⟨fun y h1 => (k.x y h1).trans (h.x y h1), fun i h1 h2 => (k.f i h1 h2).trans (h.f i h1 h2)⟩
theorem FC.u {v : Int} {i : Int} (hi : i = 19 ∨ i = 20) : FC m μ (zup μ m i v) := FC.mk ⟨fun y h1 => zup_c h1, fun k h1 h2 => zup_j (by omega)⟩
noncomputable def zD.mjb (M : zD) (a w e : Int) : Int := if (M.agd a w).2 = 0 then -1 else if e = 0 then zfx (M.lo a) (zhn M a w (M.agd a w).1) (M.li a) 0 else zfy (M.hi a) (zhn M a w (M.agd a w).1) (M.li a) 999
end C76
