/-! C 68: sets as numbers, links -/
theorem zlp_snoc {α : Type} {f : Nat → α → α} : ∀ (n k : Nat) (c : α), zlp f k (n + 1) c = f (k + n) (zlp f k n c) := by
  intro n
  induction n with
  | zero => intro k c; rfl
  | succ n ih =>
    intro k c
    have h := ih (k + 1) (f k c)
    rw [show k + 1 + n = k + (n + 1) by omega] at h
    exact h
theorem zlp_s0 {α : Type} {f : Nat → α → α} (n : Nat) (c : α) : zlp f 0 (n + 1) c = f n (zlp f 0 n c) := by
  have h := zlp_snoc (f := f) n 0 c
  rw [Nat.zero_add] at h
  exact h
def zcu (c : Int) : Int := zlp (fun k n => w32 (n + zand (zshr c (k : Int)) 1)) 0 6 0
theorem zm_or : ∀ s : Fin 64, ∀ k : Fin 6, 0 ≤ zor ((s : Nat) : Int) (zshl 1 ((k : Nat) : Int)) ∧ zor ((s : Nat) : Int) (zshl 1 ((k : Nat) : Int)) < 64 ∧ ((s : Nat) < 2 ^ (k : Nat) → zcu (zor ((s : Nat) : Int) (zshl 1 ((k : Nat) : Int))) = zcu ((s : Nat) : Int) + 1 ∧ zor ((s : Nat) : Int) (zshl 1 ((k : Nat) : Int)) < ((2 ^ ((k : Nat) + 1) : Nat) : Int)) := by decide +kernel
theorem zm_mb : ∀ s : Fin 64, ∀ k : Fin 6, zand (zshr ((s : Nat) : Int) ((k : Nat) : Int)) 1 = 0 ∨ zand (zshr ((s : Nat) : Int) ((k : Nat) : Int)) 1 = 1 := by decide +kernel
theorem zm_mor : ∀ s : Fin 64, ∀ b : Fin 6, ∀ k : Fin 6, zand (zshr (zor ((s : Nat) : Int) (zshl 1 ((b : Nat) : Int))) ((k : Nat) : Int)) 1 = 1 ↔ ((k : Nat) = (b : Nat) ∨ zand (zshr ((s : Nat) : Int) ((k : Nat) : Int)) 1 = 1) := by decide +kernel
theorem zm_ct : ∀ s : Fin 64, 0 ≤ zcu ((s : Nat) : Int) ∧ zcu ((s : Nat) : Int) ≤ 6 := by decide +kernel
theorem or_rng {s k : Int} (hs : 0 ≤ s ∧ s < 64) (hk : 0 ≤ k ∧ k < 6) : 0 ≤ zor s (zshl 1 k) ∧ zor s (zshl 1 k) < 64 := by
  have h := zm_or ⟨s.toNat, by omega⟩ ⟨k.toNat, by omega⟩
  dsimp only at h
  rw [Int.toNat_of_nonneg hs.1, Int.toNat_of_nonneg hk.1] at h
  exact ⟨h.1, h.2.1⟩
theorem mb_01 {s k : Int} (hs : 0 ≤ s ∧ s < 64) (hk : 0 ≤ k ∧ k < 6) : zand (zshr s k) 1 = 0 ∨ zand (zshr s k) 1 = 1 := by
  have h := zm_mb ⟨s.toNat, by omega⟩ ⟨k.toNat, by omega⟩
  dsimp only at h
  rw [Int.toNat_of_nonneg hs.1, Int.toNat_of_nonneg hk.1] at h
  exact h
theorem mb_or {s b k : Int} (hs : 0 ≤ s ∧ s < 64) (hb : 0 ≤ b ∧ b < 6) (hk : 0 ≤ k ∧ k < 6) : zand (zshr (zor s (zshl 1 b)) k) 1 = 1 ↔ (k = b ∨ zand (zshr s k) 1 = 1) := by
  have h := zm_mor ⟨s.toNat, by omega⟩ ⟨b.toNat, by omega⟩ ⟨k.toNat, by omega⟩
  dsimp only at h
  rw [Int.toNat_of_nonneg hs.1, Int.toNat_of_nonneg hk.1, Int.toNat_of_nonneg hb.1] at h
  rw [h]
  constructor
  · intro z
    rcases z with z | z
    · exact Or.inl (by omega)
    · exact Or.inr z
  · intro z
    rcases z with z | z
    · exact Or.inl (by omega)
    · exact Or.inr z
theorem ct_rng {s : Int} (hs : 0 ≤ s ∧ s < 64) : 0 ≤ zcu s ∧ zcu s ≤ 6 := by
  have h := zm_ct ⟨s.toNat, by omega⟩
  dsimp only at h
  rw [Int.toNat_of_nonneg hs.1] at h
  exact h
theorem c_cont2 {s k : Int} {σ : zS} : f_X7_contains s k σ = some (.inl (zbl (zand (zshr s k) 1 = 1)), σ) := by
  apply zo_un
  refine j_X7_contains ?_
  refine zo_ite (fun z => zo_rt (by rw [zbl_p z])) (fun z => zo_rt (by rw [zbl_n z]))
def zlk (M : zD) (i j : Nat) : Int := if M.T (i : Int) (j : Int) = -1 then 0 else 1
section C68
variable {S S' : zG} {μ μ' μ1 : zM} {x m d B A a o t : Int} {M M' : zD} {L : List zD} {K : zKs} {P : zG → zM → Prop} {Q : zR × zS → Prop}
end C68
