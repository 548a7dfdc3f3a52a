/-! C 68: sets as numbers, links -/
theorem zor_assoc (a b c : Int) : zor (zor a b) c = zor a (zor b c) := by
  unfold zor
  rw [Int32.ofInt_toInt, Int32.ofInt_toInt, Int32.or_assoc]
theorem zlp_snoc {α : Type} {f : Nat → α → α} : ∀ (n k : Nat) (c : α), zlp f k (n + 1) c = f (k + n) (zlp f k n c) := by
  intro n
  induction n with
  | zero => intro k c; rfl
  | succ n ih =>
    intro k c
    have h := ih (k + 1) (f k c)
    rw [show k + 1 + n = k + (n + 1) by omega] at h
    exact h
theorem zlp_s0 {α : Type} {f : Nat → α → α} (n : Nat) (c : α) : zlp f 0 (n + 1) c = f n (zlp f 0 n c) := by
  have h := zlp_snoc (f := f) n 0 c
  rw [Nat.zero_add] at h
  exact h
theorem zlp_cut {α : Type} {f : Nat → α → α} {N : Nat} (h : ∀ k c, N ≤ k → f k c = c) {n : Nat} (hn : N ≤ n) (c : α) : zlp f 0 n c = zlp f 0 N c := by
  induction n with
  | zero => rw [show N = 0 by omega]
  | succ n ih =>
    by_cases e : N = n + 1
    · rw [e]
    · rw [zlp_s0, h n _ (by omega)]
      exact ih (by omega)
theorem zlp_cg {α : Type} {f g : Nat → α → α} {I : Nat → α → Prop} {N : Nat} {c : α} (hI : I 0 c) (h : ∀ k c, k < N → I k c → f k c = g k c ∧ I (k + 1) (f k c)) : ∀ n, n ≤ N → zlp f 0 n c = zlp g 0 n c ∧ I n (zlp f 0 n c) := by
  intro n
  induction n with
  | zero => intro _; exact ⟨rfl, hI⟩
  | succ n ih =>
    intro hn
    obtain ⟨e, hi⟩ := ih (by omega)
    obtain ⟨e2, hi2⟩ := h n _ (by omega) hi
    rw [zlp_s0, zlp_s0]
    exact ⟨by rw [e2, e], hi2⟩
/-- a member of a set -/
def zmb (s k : Int) : Prop := zand (zshr s k) 1 = 1
/-- how many -/
def zcu (c : Int) : Int := zlp (fun k n => w32 (n + zand (zshr c (k : Int)) 1)) 0 6 0
theorem zm_or : ∀ s : Fin 64, ∀ k : Fin 6, 0 ≤ zor ((s : Nat) : Int) (zshl 1 ((k : Nat) : Int)) ∧ zor ((s : Nat) : Int) (zshl 1 ((k : Nat) : Int)) < 64 ∧ ((s : Nat) < 2 ^ (k : Nat) → zcu (zor ((s : Nat) : Int) (zshl 1 ((k : Nat) : Int))) = zcu ((s : Nat) : Int) + 1 ∧ zor ((s : Nat) : Int) (zshl 1 ((k : Nat) : Int)) < ((2 ^ ((k : Nat) + 1) : Nat) : Int)) := by decide +kernel
theorem zm_mb : ∀ s : Fin 64, ∀ k : Fin 6, zand (zshr ((s : Nat) : Int) ((k : Nat) : Int)) 1 = 0 ∨ zand (zshr ((s : Nat) : Int) ((k : Nat) : Int)) 1 = 1 := by decide +kernel
theorem zm_mor : ∀ s : Fin 64, ∀ b : Fin 6, ∀ k : Fin 6, zand (zshr (zor ((s : Nat) : Int) (zshl 1 ((b : Nat) : Int))) ((k : Nat) : Int)) 1 = 1 ↔ ((k : Nat) = (b : Nat) ∨ zand (zshr ((s : Nat) : Int) ((k : Nat) : Int)) 1 = 1) := by decide +kernel
theorem zm_ct : ∀ s : Fin 64, 0 ≤ zcu ((s : Nat) : Int) ∧ zcu ((s : Nat) : Int) ≤ 6 := by decide +kernel
theorem or_rng {s k : Int} (hs : 0 ≤ s ∧ s < 64) (hk : 0 ≤ k ∧ k < 6) : 0 ≤ zor s (zshl 1 k) ∧ zor s (zshl 1 k) < 64 := by
  have h := zm_or ⟨s.toNat, by omega⟩ ⟨k.toNat, by omega⟩
  dsimp only at h
  rw [Int.toNat_of_nonneg hs.1, Int.toNat_of_nonneg hk.1] at h
  exact ⟨h.1, h.2.1⟩
theorem or_new {s : Int} {k : Nat} (hk : k < 6) (hs : 0 ≤ s ∧ s < ((2 ^ k : Nat) : Int)) : zcu (zor s (zshl 1 (k : Int))) = zcu s + 1 ∧ 0 ≤ zor s (zshl 1 (k : Int)) ∧ zor s (zshl 1 (k : Int)) < ((2 ^ (k + 1) : Nat) : Int) := by
  have h64 : (2 : Nat) ^ k ≤ 2 ^ 6 := Nat.pow_le_pow_right (by decide) (by omega)
  have h6 : (2 : Nat) ^ 6 = 64 := rfl
  have h := zm_or ⟨s.toNat, by omega⟩ ⟨k, by omega⟩
  dsimp only at h
  rw [Int.toNat_of_nonneg hs.1] at h
  have h2 := h.2.2 (by omega)
  exact ⟨h2.1, h.1, h2.2⟩
theorem mb_01 {s k : Int} (hs : 0 ≤ s ∧ s < 64) (hk : 0 ≤ k ∧ k < 6) : zand (zshr s k) 1 = 0 ∨ zand (zshr s k) 1 = 1 := by
  have h := zm_mb ⟨s.toNat, by omega⟩ ⟨k.toNat, by omega⟩
  dsimp only at h
  rw [Int.toNat_of_nonneg hs.1, Int.toNat_of_nonneg hk.1] at h
  exact h
theorem mb_or {s b k : Int} (hs : 0 ≤ s ∧ s < 64) (hb : 0 ≤ b ∧ b < 6) (hk : 0 ≤ k ∧ k < 6) : zand (zshr (zor s (zshl 1 b)) k) 1 = 1 ↔ (k = b ∨ zand (zshr s k) 1 = 1) := by
  have h := zm_mor ⟨s.toNat, by omega⟩ ⟨b.toNat, by omega⟩ ⟨k.toNat, by omega⟩
  dsimp only at h
  rw [Int.toNat_of_nonneg hs.1, Int.toNat_of_nonneg hk.1, Int.toNat_of_nonneg hb.1] at h
  rw [h]
  constructor
  · intro z
    rcases z with z | z
    · exact Or.inl (by omega)
    · exact Or.inr z
  · intro z
    rcases z with z | z
    · exact Or.inl (by omega)
    · exact Or.inr z
theorem ct_rng {s : Int} (hs : 0 ≤ s ∧ s < 64) : 0 ≤ zcu s ∧ zcu s ≤ 6 := by
  have h := zm_ct ⟨s.toNat, by omega⟩
  dsimp only at h
  rw [Int.toNat_of_nonneg hs.1] at h
  exact h
theorem shl1_rng {a : Int} (ha : 0 ≤ a ∧ a < 6) : 0 ≤ zshl 1 a ∧ zshl 1 a < 64 := by
  have hc : a = 0 ∨ a = 1 ∨ a = 2 ∨ a = 3 ∨ a = 4 ∨ a = 5 := by omega
  rcases hc with z | z | z | z | z | z
  all_goals
    subst z
    decide +kernel
theorem c_cont2 {s k : Int} {σ : zS} : f_X7_contains s k σ = some (.inl (zbl (zand (zshr s k) 1 = 1)), σ) := by
  apply zo_un
  refine j_X7_contains ?_
  refine zo_ite (fun z => zo_rt (by rw [zbl_p z])) (fun z => zo_rt (by rw [zbl_n z]))
theorem b_bits {c : Int} {σ : zS} : f_X8_bits c σ = some (.inl (zcu c), σ) := by
  apply zo_un
  refine j_X8_bits ?_
  refine zo_fon (F := fun n (k : Nat) (v : Int) => f_X8_bits_4 n c v (k : Int) σ) (N := 6) (st := fun k n => w32 (n + zand (zshr c (k : Int)) 1)) (c0 := 0) (fun _ _ => True) ?_ True.intro (by show 6 < 1000000; decide)
  intro n k v hk _ ih fin
  refine j_X8_bits_4 ?_
  by_cases e : k < 6
  · refine zo_pos (by omega) ?_
    rw [w32_s (k := k) (by omega)]
    exact ih e True.intro
  · refine zo_neg (by omega) ?_
    exact zo_rt (by rw [← fin (by omega)]; rfl)
/-- who is linked, as a set -/
noncomputable def zngs (M : zD) (a : Int) (k : Nat) (c : Int) : Int := @ite _ (M.T a (k : Int) = -1) (Classical.propDecidable _) c (zor c (zshl 1 (k : Int)))
theorem ngs_p {M : zD} {a c : Int} {k : Nat} (h : M.T a (k : Int) = -1) : zngs M a k c = c := if_pos h
theorem ngs_n {M : zD} {a c : Int} {k : Nat} (h : ¬ M.T a (k : Int) = -1) : zngs M a k c = zor c (zshl 1 (k : Int)) := if_neg h
noncomputable def zD.ngh (M : zD) (a : Int) : Int := zlp (zngs M a) 0 M.an.length 0
def zlk (M : zD) (i j : Nat) : Int := if M.T (i : Int) (j : Int) = -1 then 0 else 1
theorem ngh_ct (M : zD) (a : Nat) : ∀ n, n ≤ 6 → (0 ≤ zlp (zngs M (a : Int)) 0 n 0 ∧ zlp (zngs M (a : Int)) 0 n 0 < ((2 ^ n : Nat) : Int)) ∧ zcu (zlp (zngs M (a : Int)) 0 n 0) = zlp (fun j c => c + zlk M a j) 0 n 0 := by
  intro n
  induction n with
  | zero => intro _; exact ⟨⟨Int.le_refl _, by show (0 : Int) < 1; decide⟩, by show zcu 0 = 0; decide +kernel⟩
  | succ n ih =>
    intro hn
    obtain ⟨h1, h2⟩ := ih (by omega)
    have hp : (2 : Nat) ^ (n + 1) = 2 ^ n * 2 := Nat.pow_succ ..
    rw [zlp_s0, zlp_s0]
    by_cases e : M.T (a : Int) (n : Int) = -1
    · have e2 : zlk M a n = 0 := if_pos e
      rw [ngs_p e, e2, h2]
      exact ⟨⟨h1.1, by omega⟩, by omega⟩
    · have e2 : zlk M a n = 1 := if_neg e
      rw [ngs_n e, e2, ← h2]
      have h3 := or_new (k := n) (by omega) h1
      exact ⟨⟨h3.2.1, h3.2.2⟩, h3.1⟩
theorem ngh_rng {M : zD} (h6 : M.an.length ≤ 6) {a : Int} (ha : 0 ≤ a) : 0 ≤ M.ngh a ∧ M.ngh a < 64 := by
  obtain ⟨k, rfl⟩ : ∃ k : Nat, a = (k : Int) := ⟨a.toNat, by omega⟩
  have h := (ngh_ct M k M.an.length h6).1
  have h64 : (2 : Nat) ^ M.an.length ≤ 2 ^ 6 := Nat.pow_le_pow_right (by decide) h6
  have e6 : (2 : Nat) ^ 6 = 64 := rfl
  unfold zD.ngh
  omega
section C68
variable {S S' : zG} {μ μ' μ1 : zM} {x m d B A a o t : Int} {M M' : zD} {L : List zD} {K : zKs} {P : zG → zM → Prop} {Q : zR × zS → Prop}
theorem c_neigh (C : CB S x) (D : D7 S μ (x + 12) M) (ha : 0 ≤ a ∧ a < 6) : zo (f_X7_neighbors_9 zFU x a 0 0 (S, μ)) (fun r => r = (.inl (M.ngh a), (S, μ))) := by
  have h60 := D.al
  refine zo_fon (F := fun n (k : Nat) (c : Int) => f_X7_neighbors_9 n x a c (k : Int) (S, μ)) (N := M.an.length) (st := zngs M a) (c0 := 0) (fun _ _ => True) ?_ True.intro (by show M.an.length < 1000000; omega)
  intro n k c hk _ ih fin
  refine j_X7_neighbors_9 ?_
  refine zo_gr C.o C.r3 (by omega) (by omega) ?_
  refine zo_gr D.sh.o D.sh.r1 (by omega) (by omega) ?_
  refine zo_gf D.sh.ag.o D.an0 (by omega) (by omega) ?_
  by_cases e : k < M.an.length
  · have ih := ih e True.intro
    refine zo_pos (by omega) ?_
    refine zo_gr C.o C.r3 (by omega) (by omega) ?_
    refine zo_ob D.sh.o (by omega) ?_
    refine zo_bn (d_isLinked D ha (by omega)) ?_
    refine zo_zb (fun z => ?_) (fun z => ?_)
    · rw [ngs_p (Classical.not_not.mp z)] at ih
      refine j_X7_neighbors_41 ?_
      rw [w32_s (k := k) (by omega)]
      exact ih
    · rw [ngs_n z] at ih
      refine j_X7_neighbors_41 ?_
      rw [w32_s (k := k) (by omega)]
      exact ih
  · refine zo_neg (by omega) ?_
    exact zo_rt (by rw [← fin (by omega)]; rfl)
theorem b_agents2 (H : MSh S m A) (h : D8 (μ A) M) : f_X8_agents m (S, μ) = some (.inl (M.an.length : Int), (S, μ)) := b_agents H h
theorem b_neighborsOf (H : MSh S m A) (h : D8 (μ A) M) (ha : 0 ≤ a ∧ a < 6) : f_X8_neighborsOf m a (S, μ) = some (.inl (M.ngh a), (S, μ)) := by
  have h60 := h.al
  apply zo_un
  refine j_X8_neighborsOf ?_
  refine zo_fon (F := fun n (k : Nat) (c : Int) => f_X8_neighborsOf_4 n m a c (k : Int) (S, μ)) (N := M.an.length) (st := zngs M a) (c0 := 0) (fun _ c => -2147483648 ≤ c ∧ c < 2147483648) ?_ (by decide) (by show M.an.length < 1000000; omega)
  intro n k c hk hc ih fin
  refine j_X8_neighborsOf_4 ?_
  refine zo_ob H.o (by omega) ?_
  refine zo_bn (b_agents H h) ?_
  by_cases e : k < M.an.length
  · have ih := ih e
    refine zo_pos (by omega) ?_
    refine zo_ob H.o (by omega) ?_
    refine zo_bn (b_areLinked H h ha (by omega)) ?_
    refine zo_zb (fun z => ?_) (fun z => ?_)
    · rw [ngs_p (Classical.not_not.mp z)] at ih
      refine j_X8_neighborsOf_29 ?_
      rw [w32_s (k := k) (by omega), zor_0 hc]
      exact ih hc
    · rw [ngs_n z] at ih
      refine j_X8_neighborsOf_29 ?_
      rw [w32_s (k := k) (by omega)]
      exact ih (zor_rng _ _)
  · refine zo_neg (by omega) ?_
    exact zo_rt (by rw [← fin (by omega)]; rfl)
/-- one step of links -/
noncomputable def zrsp (M : zD) (t s : Int) (i j : Nat) (c : Int) : Int := @ite _ (zand (zshr s (i : Int)) 1 = 1 ∧ ¬ M.T (i : Int) (j : Int) < t) (Classical.propDecidable _) (zor c (zshl 1 (j : Int))) c
theorem rsp_p {s : Int} {i j : Nat} {c : Int} (h1 : zand (zshr s (i : Int)) 1 = 1) (h2 : ¬ M.T (i : Int) (j : Int) < t) : zrsp M t s i j c = zor c (zshl 1 (j : Int)) := if_pos ⟨h1, h2⟩
theorem rsp_n {s : Int} {i j : Nat} {c : Int} (h : ¬ (zand (zshr s (i : Int)) 1 = 1 ∧ ¬ M.T (i : Int) (j : Int) < t)) : zrsp M t s i j c = c := if_neg h
noncomputable def zD.rch (M : zD) (t s : Int) : Int := zlp (fun i c => zlp (zrsp M t s i) 0 M.an.length c) 0 M.an.length s
theorem rsp_rng {s : Int} {i j : Nat} {c : Int} (hj : j < 6) (hc : 0 ≤ c ∧ c < 64) : 0 ≤ zrsp M t s i j c ∧ zrsp M t s i j c < 64 := by
  by_cases h : zand (zshr s (i : Int)) 1 = 1 ∧ ¬ M.T (i : Int) (j : Int) < t
  · rw [rsp_p h.1 h.2]; exact or_rng hc (by omega)
  · rw [rsp_n h]; exact hc
theorem rch_rng {s : Int} (h6 : M.an.length ≤ 6) (hs : 0 ≤ s ∧ s < 64) : 0 ≤ M.rch t s ∧ M.rch t s < 64 := by
  unfold zD.rch
  refine zlp_inv (P := fun c : Int => 0 ≤ c ∧ c < 64) (N := M.an.length) ?_ _ 0 s (by omega) hs
  intro i c hi hc
  refine zlp_inv (P := fun c : Int => 0 ≤ c ∧ c < 64) (N := M.an.length) ?_ _ 0 c (by omega) hc
  intro j c hj hc
  exact rsp_rng (by omega) hc
set_option maxHeartbeats 1000000 in
theorem d_reachedFrom {s : Int} (D : D7 S μ d M) : f_X1_reachedFrom d s t (S, μ) = some (.inl (M.rch t s), (S, μ)) := by
  have h60 := D.al
  apply zo_un
  refine j_X1_reachedFrom ?_
  refine zo_fon (F := fun n (k : Nat) (c : Int) => f_X1_reachedFrom_5 n d s t c (k : Int) (S, μ)) (N := M.an.length) (st := fun i c => zlp (zrsp M t s i) 0 M.an.length c) (c0 := s) (fun _ _ => True) ?_ True.intro (by show M.an.length < 1000000; omega)
  intro n i c hi _ ih fin
  refine j_X1_reachedFrom_5 ?_
  refine zo_gr D.sh.o D.sh.r1 (by omega) (by omega) ?_
  refine zo_gf D.sh.ag.o D.an0 (by omega) (by omega) ?_
  by_cases e : i < M.an.length
  · have ih := ih e True.intro
    refine zo_pos (by omega) ?_
    refine zo_fon (F := fun n2 (k : Nat) (c : Int) => f_X1_reachedFrom_20 (f_X1_reachedFrom_5 n) n2 d s t c (i : Int) (k : Int) (S, μ)) (N := M.an.length) (st := zrsp M t s i) (c0 := c) (fun _ _ => True) ?_ True.intro (by show M.an.length < 1000000; omega)
    intro n2 j c2 hj _ ih2 fin2
    refine j_X1_reachedFrom_20 ?_
    refine zo_gr D.sh.o D.sh.r1 (by omega) (by omega) ?_
    refine zo_gf D.sh.ag.o D.an0 (by omega) (by omega) ?_
    by_cases e2 : j < M.an.length
    · have ih2 := ih2 e2 True.intro
      refine zo_pos (by omega) ?_
      refine zo_bn c_cont2 ?_
      refine zo_zb (fun z => ?_) (fun z => ?_)
      · rw [rsp_n (fun y => z y.1)] at ih2
        refine j_X1_reachedFrom_60 ?_
        rw [w32_s (k := j) (by omega)]
        exact ih2
      · refine zo_ob D.sh.o (by omega) ?_
        refine zo_bn (d_trustIn D (by omega) (by omega)) ?_
        refine zo_ite (fun y => ?_) (fun y => ?_)
        · rw [rsp_n (fun w => w.2 y)] at ih2
          refine j_X1_reachedFrom_60 ?_
          rw [w32_s (k := j) (by omega)]
          exact ih2
        · rw [rsp_p z y] at ih2
          refine j_X1_reachedFrom_60 ?_
          rw [w32_s (k := j) (by omega)]
          exact ih2
    · refine zo_neg (by omega) ?_
      refine j_X1_reachedFrom_66 ?_
      have e9 := fin2 (by omega)
      subst e9
      rw [w32_s (k := i) (by omega)]
      exact ih
  · refine zo_neg (by omega) ?_
    exact zo_rt (by rw [← fin (by omega)]; rfl)
/-- how far -/
noncomputable def zdg (M : zD) (o : Int) : Nat → Nat → Int → Int
  | 0, _, _ => -1
  | n + 1, k, s => @ite _ (zand (zshr s o) 1 = 1) (Classical.propDecidable _) (k : Int) (zdg M o n (k + 1) (M.rch 0 s))
noncomputable def zD.dst (M : zD) (a o : Int) : Int := zdg M o 6 0 (zshl 1 a)
theorem dg_p {n k : Nat} {s : Int} (h : zand (zshr s o) 1 = 1) : zdg M o (n + 1) k s = (k : Int) := if_pos h
theorem dg_n {n k : Nat} {s : Int} (h : ¬ zand (zshr s o) 1 = 1) : zdg M o (n + 1) k s = zdg M o n (k + 1) (M.rch 0 s) := if_neg h
theorem dg_rng : ∀ (n k : Nat) (s : Int), k + n ≤ 6 → -1 ≤ zdg M o n k s ∧ zdg M o n k s ≤ 6 := by
  intro n
  induction n with
  | zero => intro k s _; exact ⟨by show (-1 : Int) ≤ -1; decide, by show (-1 : Int) ≤ 6; decide⟩
  | succ n ih =>
    intro k s hk
    by_cases h : zand (zshr s o) 1 = 1
    · rw [dg_p h]; omega
    · rw [dg_n h]; exact ih _ _ (by omega)
theorem c_dist (C : CB S x) (D : D7 S μ (x + 12) M) : zo (f_X7_distance_17 zFU x o (zshl 1 a) 0 (S, μ)) (fun r => r = (.inl (M.dst a o), (S, μ))) := by
  refine zo_l2 (F := fun n (k : Nat) (s : Int) => f_X7_distance_17 n x o s (k : Int) (S, μ)) (fun k s => k ≤ 6 ∧ zdg M o (6 - k) k s = M.dst a o) (fun k _ => 6 - k) ?_ zFU 0 (zshl 1 a) ⟨by omega, rfl⟩ (by show 6 - 0 < 1000000; decide)
  rintro n k s ⟨hk, hz⟩ ih
  refine j_X7_distance_17 ?_
  by_cases e : k < 6
  · rw [show 6 - k = (6 - (k + 1)) + 1 by omega] at hz
    refine zo_pos (by omega) ?_
    refine zo_bn c_cont2 ?_
    refine zo_zb (fun z => ?_) (fun z => ?_)
    · rw [dg_n z] at hz
      refine zo_gr C.o C.r3 (by omega) (by omega) ?_
      refine zo_ob D.sh.o (by omega) ?_
      refine zo_bn (d_reachedFrom D) ?_
      rw [w32_s (k := k) (by omega)]
      exact ih (k + 1) _ ⟨by omega, hz⟩ (by omega)
    · rw [dg_p z] at hz
      exact zo_rt (by rw [← hz])
  · rw [show 6 - k = 0 by omega] at hz
    have hz : -1 = M.dst a o := hz
    refine zo_neg (by omega) ?_
    exact zo_rt (by rw [← hz])
theorem or_ngh {s c : Int} {i : Nat} (W : WF B M) (hs : zand (zshr s (i : Int)) 1 = 1) (hc : -2147483648 ≤ c ∧ c < 2147483648) : ∀ n, zlp (zrsp M 0 s i) 0 n c = zor c (zlp (zngs M (i : Int)) 0 n 0) := by
  intro n
  induction n with
  | zero => exact (zor_0 hc).symm
  | succ n ih =>
    have hT := W.Tr (i : Int) (n : Int)
    rw [zlp_s0, zlp_s0, ih]
    by_cases e : M.T (i : Int) (n : Int) = -1
    · rw [ngs_p e, rsp_n (fun z => z.2 (by omega))]
    · rw [ngs_n e, rsp_p hs (by omega), zor_assoc]
set_option maxHeartbeats 1000000 in
theorem b_dist (H : MSh S m A) (h : D8 (μ A) M) (W : WF B M) (ha : 0 ≤ a ∧ a < 6) (ho : 0 ≤ o ∧ o < 6) : zo (f_X8_distance_22 zFU m o (zshl 1 a) 0 (S, μ)) (fun r => r = (.inl (M.dst a o), (S, μ))) := by
  have h60 := h.al
  refine zo_l2 (F := fun n (k : Nat) (s : Int) => f_X8_distance_22 n m o s (k : Int) (S, μ)) (fun k s => k ≤ 6 ∧ zdg M o (6 - k) k s = M.dst a o ∧ (-2147483648 ≤ s ∧ s < 2147483648)) (fun k _ => 6 - k) ?_ zFU 0 (zshl 1 a) ⟨by omega, rfl, by have := shl1_rng ha; omega⟩ (by show 6 - 0 < 1000000; decide)
  rintro n k s ⟨hk, hz, hs⟩ ih
  refine j_X8_distance_22 ?_
  by_cases e : k < 6
  · rw [show 6 - k = (6 - (k + 1)) + 1 by omega] at hz
    refine zo_pos (by omega) ?_
    refine zo_ite (fun z => ?_) (fun z => ?_)
    · rw [dg_p z] at hz
      exact zo_rt (by rw [← hz])
    · rw [dg_n z] at hz
      refine zo_fon (F := fun n2 (i : Nat) (c : Int) => f_X8_distance_47 (f_X8_distance_22 n) n2 m o s (k : Int) c (i : Int) (S, μ)) (N := M.an.length) (st := fun i c => zlp (zrsp M 0 s i) 0 M.an.length c) (c0 := s) (fun _ c => -2147483648 ≤ c ∧ c < 2147483648) ?_ hs (by show M.an.length < 1000000; omega)
      intro n2 i c hi hc ih2 fin2
      refine j_X8_distance_47 ?_
      refine zo_ob H.o (by omega) ?_
      refine zo_bn (b_agents H h) ?_
      by_cases e2 : i < M.an.length
      · have ih2 := ih2 e2
        refine zo_pos (by omega) ?_
        refine zo_ite (fun y => ?_) (fun y => ?_)
        · have e3 : zlp (zrsp M 0 s i) 0 M.an.length c = zor c (M.ngh (i : Int)) := or_ngh W y hc M.an.length
          rw [e3] at ih2
          refine zo_ob H.o (by omega) ?_
          refine zo_bn (b_neighborsOf H h (by omega)) ?_
          refine j_X8_distance_78 ?_
          rw [w32_s (k := i) (by omega)]
          exact ih2 (zor_rng _ _)
        · have e3 : zlp (zrsp M 0 s i) 0 M.an.length c = c := by
            refine zlp_fix (fun j => ?_) _ 0
            exact rsp_n (fun w => y w.1)
          rw [e3] at ih2
          refine j_X8_distance_78 ?_
          rw [w32_s (k := i) (by omega), zor_0 hc]
          exact ih2 hc
      · refine zo_neg (by omega) ?_
        refine j_X8_distance_87 ?_
        have e9 := fin2 (by omega)
        subst e9
        rw [w32_s (k := k) (by omega)]
        exact ih (k + 1) _ ⟨by omega, hz, hc⟩ (by omega)
  · rw [show 6 - k = 0 by omega] at hz
    have hz : -1 = M.dst a o := hz
    refine zo_neg (by omega) ?_
    exact zo_rt (by rw [← hz])
end C68
theorem o_neighbors {B x : Int} {S : zG} {μ : zM} {M : zD} {L : List zD} {K : zKs} {inp out : List Int} {c p : Int} {P : zG → zM → Prop} {a : Int} (h : Wd B x S μ M L K inp out c p) (hP : ∀ S1 μ3, Wd B x S1 μ3 M L K inp out c p → P S1 μ3) : zOp x P (f_X7_neighbors x a) (f_X8_neighbors (x + 66) a) [(2, 1)] S μ := by
  have h60 := h.a.D.al
  have h61 := h.a.D.wl
  have W := h.w.M
  by_cases h1 : 0 ≤ a ∧ a < (M.an.length : Int)
  · skip
    refine op_q (v := (M.ngh a)) h ?_ (by have := ngh_rng h60 h1.1; unfold zI; omega) ?_ hP
    · refine zo_xq ?_
      refine j_X7_neighbors ?_
      refine zo_ob h.a.C.o (by omega) ?_
      refine zo_bn (k_A h.a.C h.a.D h1) ?_
      refine zo_mono (c_neigh h.a.C h.a.D (by omega)) ?_
      rintro r rfl
      exact ⟨_, rfl, FV.rf⟩
    · intro S1 μ2 h8
      refine zo_xq ?_
      refine j_X8_neighbors ?_
      refine zo_ob h8.H.o (by omega) ?_
      refine zo_bn (b_isAgent h8.H h8.D) ?_
      refine m_p1 h8.H (zbl_nz h1) ?_
      have g8 : W8 S1 (zup μ2 (x + 66) 0 0) (x + 66) M L K inp out c p := FM.u0.w8 h8
      have gt : zup μ2 (x + 66) 0 0 (x + 66) 0 = 0 := zup_at
      refine zo_ob g8.H.o (by omega) ?_
      refine zo_bn (b_neighborsOf g8.H g8.D (by omega)) ?_
      exact zo_rt ⟨_, rfl, FM.u0, gt⟩
  · refine op_t 2 1 h ?_ (by decide) (by decide) ?_ hP
    · apply zo_un
      refine j_X7_neighbors ?_
      refine zo_ob h.a.C.o (by omega) ?_
      exact zo_be (k_A_no h.a.C h.a.D h1) rfl
    · intro S1 μ2 h8
      refine zo_xt ?_
      refine j_X8_neighbors ?_
      refine zo_ob h8.H.o (by omega) ?_
      refine zo_bn (b_isAgent h8.H h8.D) ?_
      refine m_f1 h8.H (zbl_n (fun z => h1 z)) ?_
      exact ⟨_, _, rfl, FM.u0, zup_at⟩
theorem o_distance {B x : Int} {S : zG} {μ : zM} {M : zD} {L : List zD} {K : zKs} {inp out : List Int} {c p : Int} {P : zG → zM → Prop} {a o : Int} (h : Wd B x S μ M L K inp out c p) (hP : ∀ S1 μ3, Wd B x S1 μ3 M L K inp out c p → P S1 μ3) : zOp x P (f_X7_distance x a o) (f_X8_distance (x + 66) a o) [(2, 1)] S μ := by
  have h60 := h.a.D.al
  have h61 := h.a.D.wl
  have W := h.w.M
  by_cases h1 : 0 ≤ a ∧ a < (M.an.length : Int)
  · skip
    by_cases h2 : 0 ≤ o ∧ o < (M.an.length : Int)
    · skip
      refine op_q (v := (M.dst a o)) h ?_ (by have := dg_rng (M := M) (o := o) 6 0 (zshl 1 a) (by omega); unfold zI zD.dst; omega) ?_ hP
      · refine zo_xq ?_
        refine j_X7_distance ?_
        refine zo_ob h.a.C.o (by omega) ?_
        refine zo_bn (k_A h.a.C h.a.D h1) ?_
        refine zo_ob h.a.C.o (by omega) ?_
        refine zo_bn (k_A h.a.C h.a.D h2) ?_
        refine zo_mono (c_dist h.a.C h.a.D) ?_
        rintro r rfl
        exact ⟨_, rfl, FV.rf⟩
      · intro S1 μ2 h8
        refine zo_xq ?_
        refine j_X8_distance ?_
        refine zo_ob h8.H.o (by omega) ?_
        refine zo_bn (b_areAgents h8.H h8.D) ?_
        refine m_p1 h8.H (zbl_nz ⟨h1, h2⟩) ?_
        have g8 : W8 S1 (zup μ2 (x + 66) 0 0) (x + 66) M L K inp out c p := FM.u0.w8 h8
        have gt : zup μ2 (x + 66) 0 0 (x + 66) 0 = 0 := zup_at
        refine zo_mono (b_dist g8.H g8.D W (by omega) (by omega)) ?_
        rintro r rfl
        exact ⟨_, rfl, FM.u0, gt⟩
    · refine op_t 2 1 h ?_ (by decide) (by decide) ?_ hP
      · apply zo_un
        refine j_X7_distance ?_
        refine zo_ob h.a.C.o (by omega) ?_
        refine zo_bn (k_A h.a.C h.a.D h1) ?_
        refine zo_ob h.a.C.o (by omega) ?_
        exact zo_be (k_A_no h.a.C h.a.D h2) rfl
      · intro S1 μ2 h8
        refine zo_xt ?_
        refine j_X8_distance ?_
        refine zo_ob h8.H.o (by omega) ?_
        refine zo_bn (b_areAgents h8.H h8.D) ?_
        refine m_f1 h8.H (zbl_n (fun z => h2 z.2)) ?_
        exact ⟨_, _, rfl, FM.u0, zup_at⟩
  · refine op_t 2 1 h ?_ (by decide) (by decide) ?_ hP
    · apply zo_un
      refine j_X7_distance ?_
      refine zo_ob h.a.C.o (by omega) ?_
      exact zo_be (k_A_no h.a.C h.a.D h1) rfl
    · intro S1 μ2 h8
      refine zo_xt ?_
      refine j_X8_distance ?_
      refine zo_ob h8.H.o (by omega) ?_
      refine zo_bn (b_areAgents h8.H h8.D) ?_
      refine m_f1 h8.H (zbl_n (fun z => h1 z.1)) ?_
      exact ⟨_, _, rfl, FM.u0, zup_at⟩
