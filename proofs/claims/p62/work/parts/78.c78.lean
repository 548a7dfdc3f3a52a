/-! C 78: tokens -/
def zu (v : Int) : Int := if v < 0 then v + 256 else v
def zks (c : Int) : Int := if 97 ≤ c ∧ c ≤ 122 then 1 else if 48 ≤ c ∧ c ≤ 57 then 2 else if c = 32 ∨ c = 10 then 4 else 3
def zkd (l : List Int) (k : Nat) : Int := match l[k]? with
  | none => 0
  | some v => zks (zu v)
def zsk (l : List Int) : Nat → Nat → Nat
  | 0, k => k
  | f + 1, k => if zkd l k = 4 then zsk l f (k + 1) else k
def zen (l : List Int) (c : Int) : Nat → Nat → Nat
  | 0, k => k
  | f + 1, k => if zkd l k = c then zen l c f (k + 1) else k
abbrev zTk : Type := Int × Nat × Nat
def ztk (l : List Int) (k : Nat) : zTk := (zkd l (zsk l (l.length - k) k), zsk l (l.length - k) k, if zkd l (zsk l (l.length - k) k) = 0 then zsk l (l.length - k) k else if zkd l (zsk l (l.length - k) k) = 3 then zsk l (l.length - k) k + 1 else zen l (zkd l (zsk l (l.length - k) k)) (l.length - (zsk l (l.length - k) k + 1)) (zsk l (l.length - k) k + 1))
theorem zks_rng (c : Int) : 1 ≤ zks c ∧ zks c ≤ 4 := by
  unfold zks
  split
  · decide
  · split
    · decide
    · split <;> decide
theorem kd_none {l : List Int} {k : Nat} (h : l.length ≤ k) : zkd l k = 0 := by
  unfold zkd
  rw [List.getElem?_eq_none h]
theorem kd_some {l : List Int} {k : Nat} {v : Int} (h : l[k]? = some v) : zkd l k = zks (zu v) := by
  unfold zkd
  rw [h]
theorem kd_0 {l : List Int} {k : Nat} : zkd l k = 0 ↔ l.length ≤ k := by
  constructor
  · intro h
    refine Classical.byContradiction (fun z => ?_)
    obtain ⟨v, hv, _⟩ := get_ex (l := l) (k := k) (by omega)
    rw [kd_some hv] at h
    have := zks_rng (zu v)
    omega
  · exact kd_none
theorem sk_s {l : List Int} {k : Nat} (h : k < l.length) : zsk l (l.length - k) k = if zkd l k = 4 then zsk l (l.length - (k + 1)) (k + 1) else k := by
  rw [show l.length - k = (l.length - (k + 1)) + 1 by omega]
  rfl
theorem sk_e {l : List Int} {k : Nat} (h : l.length ≤ k) : zsk l (l.length - k) k = k := by
  rw [show l.length - k = 0 by omega]
  rfl
theorem en_s {l : List Int} {c : Int} {k : Nat} (h : k < l.length) : zen l c (l.length - k) k = if zkd l k = c then zen l c (l.length - (k + 1)) (k + 1) else k := by
  rw [show l.length - k = (l.length - (k + 1)) + 1 by omega]
  rfl
theorem en_e {l : List Int} {c : Int} {k : Nat} (h : l.length ≤ k) : zen l c (l.length - k) k = k := by
  rw [show l.length - k = 0 by omega]
  rfl
theorem sk_ok {l : List Int} : ∀ (j k : Nat), l.length - k = j → (k ≤ zsk l (l.length - k) k ∧ (k ≤ l.length → zsk l (l.length - k) k ≤ l.length)) ∧ ¬ zkd l (zsk l (l.length - k) k) = 4 := by
  intro j
  induction j with
  | zero =>
    intro k hj
    rw [sk_e (by omega)]
    exact ⟨⟨Nat.le_refl _, fun h => h⟩, by rw [kd_none (by omega)]; decide⟩
  | succ j ih =>
    intro k hj
    rw [sk_s (by omega)]
    by_cases z : zkd l k = 4
    · rw [if_pos z]
      have h := ih (k + 1) (by omega)
      exact ⟨⟨by omega, fun _ => h.1.2 (by omega)⟩, h.2⟩
    · rw [if_neg z]
      exact ⟨⟨Nat.le_refl _, fun h => h⟩, z⟩
theorem en_ok {l : List Int} {c : Int} (hc : ¬ c = 0) : ∀ (j k : Nat), l.length - k = j → k ≤ l.length → (k ≤ zen l c (l.length - k) k ∧ zen l c (l.length - k) k ≤ l.length) ∧ ∀ i, k ≤ i → i < zen l c (l.length - k) k → zkd l i = c := by
  intro j
  induction j with
  | zero =>
    intro k hj hk
    rw [en_e (by omega)]
    exact ⟨⟨Nat.le_refl _, hk⟩, fun i h1 h2 => absurd h2 (by omega)⟩
  | succ j ih =>
    intro k hj hk
    rw [en_s (by omega)]
    by_cases z : zkd l k = c
    · rw [if_pos z]
      have h := ih (k + 1) (by omega) (by omega)
      refine ⟨⟨by omega, h.1.2⟩, fun i h1 h2 => ?_⟩
      by_cases e : i = k
      · rw [e]; exact z
      · exact h.2 i (by omega) h2
    · rw [if_neg z]
      exact ⟨⟨Nat.le_refl _, hk⟩, fun i h1 h2 => absurd h2 (by omega)⟩
def TOk (l : List Int) (t : zTk) : Prop := (t.2.1 ≤ t.2.2) ∧ (t.2.2 ≤ l.length) ∧ (t.1 = zkd l t.2.1) ∧ (¬ t.1 = 4) ∧ (t.1 = 0 ↔ l.length ≤ t.2.1) ∧ (¬ t.1 = 0 → t.2.1 < t.2.2) ∧ ((t.1 = 1 ∨ t.1 = 2) → ∀ i, t.2.1 ≤ i → i < t.2.2 → zkd l i = t.1)
theorem TOk.mk {l : List Int} {t : zTk} (h : (t.2.1 ≤ t.2.2) ∧ (t.2.2 ≤ l.length) ∧ (t.1 = zkd l t.2.1) ∧ (¬ t.1 = 4) ∧ (t.1 = 0 ↔ l.length ≤ t.2.1) ∧ (¬ t.1 = 0 → t.2.1 < t.2.2) ∧ ((t.1 = 1 ∨ t.1 = 2) → ∀ i, t.2.1 ≤ i → i < t.2.2 → zkd l i = t.1)) : TOk l t := h
theorem TOk.se {l : List Int} {t : zTk} (h : TOk l t) : t.2.1 ≤ t.2.2 := h.1
theorem TOk.el {l : List Int} {t : zTk} (h : TOk l t) : t.2.2 ≤ l.length := h.2.1
theorem TOk.k {l : List Int} {t : zTk} (h : TOk l t) : t.1 = zkd l t.2.1 := h.2.2.1
theorem TOk.k0 {l : List Int} {t : zTk} (h : TOk l t) : t.1 = 0 ↔ l.length ≤ t.2.1 := h.2.2.2.2.1
theorem TOk.kp {l : List Int} {t : zTk} (h : TOk l t) : ¬ t.1 = 0 → t.2.1 < t.2.2 := h.2.2.2.2.2.1
theorem TOk.ka {l : List Int} {t : zTk} (h : TOk l t) : (t.1 = 1 ∨ t.1 = 2) → ∀ i, t.2.1 ≤ i → i < t.2.2 → zkd l i = t.1 := h.2.2.2.2.2.2
theorem tk_ok {l : List Int} {k : Nat} (hk : k ≤ l.length) : TOk l (ztk l k) ∧ k ≤ (ztk l k).2.1 := by
  have h1 := sk_ok (l := l) (l.length - k) k rfl
  have e1 : (ztk l k).1 = zkd l (zsk l (l.length - k) k) := rfl
  have e2 : (ztk l k).2.1 = zsk l (l.length - k) k := rfl
  have e3 : (ztk l k).2.2 = if zkd l (zsk l (l.length - k) k) = 0 then zsk l (l.length - k) k else if zkd l (zsk l (l.length - k) k) = 3 then zsk l (l.length - k) k + 1 else zen l (zkd l (zsk l (l.length - k) k)) (l.length - (zsk l (l.length - k) k + 1)) (zsk l (l.length - k) k + 1) := rfl
  generalize zsk l (l.length - k) k = s at *
  have h2 := h1.1.2 hk
  have k0 : zkd l s = 0 ↔ l.length ≤ s := kd_0
  refine ⟨?_, by rw [e2]; exact h1.1.1⟩
  by_cases z0 : zkd l s = 0
  · rw [if_pos z0] at e3
    exact TOk.mk ⟨by rw [e2, e3]; exact Nat.le_refl _, by rw [e3]; exact h2, by rw [e1, e2], by rw [e1]; exact h1.2, by rw [e1, e2]; exact k0, fun h => absurd (e1.trans z0) h, fun h => by rw [e1, z0] at h; rcases h with h | h <;> exact absurd h (by decide)⟩
  · rw [if_neg z0] at e3
    have hs : s < l.length := by
      refine Nat.lt_of_not_le (fun z => z0 (k0.mpr z))
    by_cases z3 : zkd l s = 3
    · rw [if_pos z3] at e3
      exact TOk.mk ⟨by rw [e2, e3]; omega, by rw [e3]; omega, by rw [e1, e2], by rw [e1]; exact h1.2, by rw [e1, e2]; exact k0, fun _ => by rw [e2, e3]; omega, fun h => by rw [e1, z3] at h; rcases h with h | h <;> exact absurd h (by decide)⟩
    · rw [if_neg z3] at e3
      have h3 := en_ok (l := l) (c := zkd l s) z0 _ (s + 1) rfl (by omega)
      generalize zen l (zkd l s) (l.length - (s + 1)) (s + 1) = en at *
      refine TOk.mk ⟨by rw [e2, e3]; omega, by rw [e3]; exact h3.1.2, by rw [e1, e2], by rw [e1]; exact h1.2, by rw [e1, e2]; exact k0, fun _ => by rw [e2, e3]; omega, fun _ i h4 h5 => ?_⟩
      rw [e2] at h4
      rw [e3] at h5
      rw [e1]
      by_cases e : i = s
      · rw [e]
      · exact h3.2 i (by omega) h5
def PC (S : zG) (μ : zM) (x : Int) (l : List Int) : Prop := (0 ≤ x) ∧ (S.1 (x + 62) = some (0, 4)) ∧ (S.2.1 (x + 62) 0 = x + 1) ∧ (S.2.1 (x + 62) 1 = x + 37) ∧ (BSh S (x + 1) 600) ∧ (LBy μ l (x + 1) 1 (x + 1 + 1)) ∧ (l.length ≤ 600)
theorem PC.mk {S : zG} {μ : zM} {x : Int} {l : List Int} (h : (0 ≤ x) ∧ (S.1 (x + 62) = some (0, 4)) ∧ (S.2.1 (x + 62) 0 = x + 1) ∧ (S.2.1 (x + 62) 1 = x + 37) ∧ (BSh S (x + 1) 600) ∧ (LBy μ l (x + 1) 1 (x + 1 + 1)) ∧ (l.length ≤ 600)) : PC S μ x l := h
theorem PC.x0 {S : zG} {μ : zM} {x : Int} {l : List Int} (h : PC S μ x l) : 0 ≤ x := h.1
theorem PC.o {S : zG} {μ : zM} {x : Int} {l : List Int} (h : PC S μ x l) : S.1 (x + 62) = some (0, 4) := h.2.1
theorem PC.r0 {S : zG} {μ : zM} {x : Int} {l : List Int} (h : PC S μ x l) : S.2.1 (x + 62) 0 = x + 1 := h.2.2.1
theorem PC.r1 {S : zG} {μ : zM} {x : Int} {l : List Int} (h : PC S μ x l) : S.2.1 (x + 62) 1 = x + 37 := h.2.2.2.1
theorem PC.B {S : zG} {μ : zM} {x : Int} {l : List Int} (h : PC S μ x l) : BSh S (x + 1) 600 := h.2.2.2.2.1
theorem PC.L {S : zG} {μ : zM} {x : Int} {l : List Int} (h : PC S μ x l) : LBy μ l (x + 1) 1 (x + 1 + 1) := h.2.2.2.2.2.1
theorem PC.n {S : zG} {μ : zM} {x : Int} {l : List Int} (h : PC S μ x l) : l.length ≤ 600 := h.2.2.2.2.2.2
def TC (μ : zM) (x : Int) (t : zTk) : Prop := μ (x + 62) 2 = t.1 ∧ μ (x + 62) 3 = (t.2.1 : Int) ∧ μ (x + 62) 4 = (t.2.2 : Int)
def FT4 (w : Int) (μ μ' : zM) : Prop := (∀ y, y ≠ w + 62 → μ' y = μ y) ∧ (∀ k, k ≠ 2 → k ≠ 3 → k ≠ 4 → μ' (w + 62) k = μ (w + 62) k)
theorem FT4.mk {w : Int} {μ μ' : zM} (h : (∀ y, y ≠ w + 62 → μ' y = μ y) ∧ (∀ k, k ≠ 2 → k ≠ 3 → k ≠ 4 → μ' (w + 62) k = μ (w + 62) k)) : FT4 w μ μ' := h
theorem FT4.e {w : Int} {μ μ' : zM} (h : FT4 w μ μ') : ∀ y, y ≠ w + 62 → μ' y = μ y := h.1
theorem FT4.f {w : Int} {μ μ' : zM} (h : FT4 w μ μ') : ∀ k, k ≠ 2 → k ≠ 3 → k ≠ 4 → μ' (w + 62) k = μ (w + 62) k := h.2
def znv (l : List Int) : Int := l.foldl (fun c v => 10 * c + (v - 48)) 0
def zsg (l : List Int) (t : zTk) : List Int := (l.drop t.2.1).take (t.2.2 - t.2.1)
def TM (μ : zM) (m : Int) (l : List Int) (t : zTk) : Prop := (μ m 15 = t.1) ∧ (μ m 14 = (t.2.1 : Int)) ∧ (μ m 13 = (t.2.2 : Int)) ∧ (t.1 = 2 → μ m 16 = min 9999 (znv (zsg l t))) ∧ (t.1 = 3 → ∀ y, l[t.2.1]? = some y → μ m 16 = zu y)
theorem TM.mk {μ : zM} {m : Int} {l : List Int} {t : zTk} (h : (μ m 15 = t.1) ∧ (μ m 14 = (t.2.1 : Int)) ∧ (μ m 13 = (t.2.2 : Int)) ∧ (t.1 = 2 → μ m 16 = min 9999 (znv (zsg l t))) ∧ (t.1 = 3 → ∀ y, l[t.2.1]? = some y → μ m 16 = zu y)) : TM μ m l t := h
theorem TM.k {μ : zM} {m : Int} {l : List Int} {t : zTk} (h : TM μ m l t) : μ m 15 = t.1 := h.1
theorem TM.s {μ : zM} {m : Int} {l : List Int} {t : zTk} (h : TM μ m l t) : μ m 14 = (t.2.1 : Int) := h.2.1
theorem TM.n {μ : zM} {m : Int} {l : List Int} {t : zTk} (h : TM μ m l t) : μ m 13 = (t.2.2 : Int) := h.2.2.1
theorem TM.v2 {μ : zM} {m : Int} {l : List Int} {t : zTk} (h : TM μ m l t) : t.1 = 2 → μ m 16 = min 9999 (znv (zsg l t)) := h.2.2.2.1
theorem TM.v3 {μ : zM} {m : Int} {l : List Int} {t : zTk} (h : TM μ m l t) : t.1 = 3 → ∀ y, l[t.2.1]? = some y → μ m 16 = zu y := h.2.2.2.2
def FT8 (m : Int) (μ μ' : zM) : Prop := (∀ y, y ≠ m → μ' y = μ y) ∧ (∀ k, k ≠ 13 → k ≠ 14 → k ≠ 15 → k ≠ 16 → μ' m k = μ m k)
theorem FT8.mk {m : Int} {μ μ' : zM} (h : (∀ y, y ≠ m → μ' y = μ y) ∧ (∀ k, k ≠ 13 → k ≠ 14 → k ≠ 15 → k ≠ 16 → μ' m k = μ m k)) : FT8 m μ μ' := h
theorem FT8.e {m : Int} {μ μ' : zM} (h : FT8 m μ μ') : ∀ y, y ≠ m → μ' y = μ y := h.1
theorem FT8.f {m : Int} {μ μ' : zM} (h : FT8 m μ μ') : ∀ k, k ≠ 13 → k ≠ 14 → k ≠ 15 → k ≠ 16 → μ' m k = μ m k := h.2
section C78
variable {S S' : zG} {μ μ' μ1 μ2 : zM} {x m B A : Int} {l : List Int} {t : zTk} {Q : zR × zS → Prop}
theorem FT4.rf : FT4 x μ μ := FT4.mk ⟨fun _ _ => rfl, fun _ _ _ _ => rfl⟩
theorem FT4.tr (h : FT4 x μ μ1) (k : FT4 x μ1 μ2) : FT4 x μ μ2 := FT4.mk ⟨fun y h1 => (k.e y h1).trans (h.e y h1), fun i h1 h2 h3 => (k.f i h1 h2 h3).trans (h.f i h1 h2 h3)⟩
theorem FT4.u {i v : Int} (hi : i = 2 ∨ i = 3 ∨ i = 4) : FT4 x μ (zup μ (x + 62) i v) := FT4.mk ⟨fun y h1 => zup_c h1, fun k h1 h2 h3 => zup_j (by omega)⟩
theorem FT8.rf : FT8 m μ μ := FT8.mk ⟨fun _ _ => rfl, fun _ _ _ _ _ => rfl⟩
theorem FT8.tr (h : FT8 m μ μ1) (k : FT8 m μ1 μ2) : FT8 m μ μ2 := FT8.mk ⟨fun y h1 => (k.e y h1).trans (h.e y h1), fun i h1 h2 h3 h4 => (k.f i h1 h2 h3 h4).trans (h.f i h1 h2 h3 h4)⟩
theorem FT8.u {i v : Int} (hi : i = 13 ∨ i = 14 ∨ i = 15 ∨ i = 16) : FT8 m μ (zup μ m i v) := FT8.mk ⟨fun y h1 => zup_c h1, fun k h1 h2 h3 h4 => zup_j (by omega)⟩
theorem PC.up (h : PC S μ x l) (f : FT4 x μ μ') : PC S μ' x l := PC.mk ⟨h.x0, h.o, h.r0, h.r1, h.B, h.L.keep (by rw [f.e _ (by omega)]) (fun k => by rw [f.e _ (by omega)]), h.n⟩
theorem zand_u {v : Int} (h : -128 ≤ v ∧ v < 128) : zand v 255 = zu v := by rw [zand_255 h]; rfl
theorem PC.at0 (h : PC S μ x l) {k : Nat} {v : Int} (hk : l[k]? = some v) : f_X0_at (x + 1) (k : Int) (S, μ) = some (.inl (zu v), (S, μ)) := by
  rw [c_at h.B h.L (by have := h.n; omega) hk, zand_u (h.L.g v (List.mem_of_getElem? hk))]
theorem c_kindOf {c : Int} {σ : zS} : f_X4_kindOf c σ = some (.inl (zks c), σ) := by
  have t28 : ¬ (97 ≤ c ∧ c ≤ 122) → ¬ (48 ≤ c ∧ c ≤ 57) → zo (f_X4_kindOf_28 c σ) (fun r => r = (.inl (zks c), σ)) := by
    intro h1 h2
    have e : zks c = if c = 32 ∨ c = 10 then 4 else 3 := (if_neg h1).trans (if_neg h2)
    refine j_X4_kindOf_28 ?_
    by_cases h3 : c = 32
    · exact zo_pos h3 (zo_rt (by rw [e.trans (if_pos (Or.inl h3))]))
    · refine zo_neg h3 ?_
      by_cases h4 : c = 10
      · exact zo_pos h4 (zo_rt (by rw [e.trans (if_pos (Or.inr h4))]))
      · exact zo_neg h4 (zo_rt (by rw [e.trans (if_neg (fun z => z.elim h3 h4))]))
  have t14 : ¬ (97 ≤ c ∧ c ≤ 122) → zo (f_X4_kindOf_14 c σ) (fun r => r = (.inl (zks c), σ)) := by
    intro h1
    refine j_X4_kindOf_14 ?_
    by_cases h2 : c < 48
    · exact zo_pos h2 (t28 h1 (by omega))
    · refine zo_neg h2 ?_
      by_cases h3 : 57 < c
      · exact zo_pos h3 (t28 h1 (by omega))
      · have e : zks c = 2 := (if_neg h1).trans (if_pos (by omega))
        exact zo_neg h3 (zo_rt (by rw [e]))
  apply zo_un
  refine j_X4_kindOf ?_
  by_cases h2 : c < 97
  · exact zo_pos h2 (t14 (by omega))
  · refine zo_neg h2 ?_
    by_cases h3 : 122 < c
    · exact zo_pos h3 (t14 (by omega))
    · have e : zks c = 1 := if_pos (by omega)
      exact zo_neg h3 (zo_rt (by rw [e]))
set_option maxHeartbeats 1000000 in
theorem c_nextTok (h : PC S μ x l) {k : Nat} (hk : k ≤ l.length) (h4 : μ (x + 62) 4 = (k : Int)) : ∃ μ', f_X4_next (x + 62) (S, μ) = some (.inl 0, (S, μ')) ∧ (TC μ' x (ztk l k) ∧ FT4 x μ μ') := by
  have h600 := h.n
  have e1 : (ztk l k).1 = zkd l (zsk l (l.length - k) k) := rfl
  have e2 : (ztk l k).2.1 = zsk l (l.length - k) k := rfl
  have e3 : (ztk l k).2.2 = if zkd l (zsk l (l.length - k) k) = 0 then zsk l (l.length - k) k else if zkd l (zsk l (l.length - k) k) = 3 then zsk l (l.length - k) k + 1 else zen l (zkd l (zsk l (l.length - k) k)) (l.length - (zsk l (l.length - k) k + 1)) (zsk l (l.length - k) k + 1) := rfl
  have hsk := sk_ok (l := l) (l.length - k) k rfl
  generalize hs : zsk l (l.length - k) k = s at *
  have hsl := hsk.1.2 hk
  generalize ztk l k = tk at *
  -- behind the blanks
  have main : ∀ μ2, FT4 x μ μ2 → μ2 (x + 62) 3 = (s : Int) → zo (f_X4_next_53 (x + 62) (S, μ2)) (fun r => ∃ μ', r = (.inl 0, (S, μ')) ∧ (TC μ' x tk ∧ FT4 x μ μ')) := by
    intro μ2 f2 h3
    have q2 := h.up f2
    refine j_X4_next_53 ?_
    refine zo_gf q2.o h3 (by omega) (by omega) ?_
    refine zo_pf 4 q2.o (by omega) (by omega) ?_
    have f3 : FT4 x μ (zup μ2 (x + 62) 4 (s : Int)) := FT4.tr f2 (FT4.u (Or.inr (Or.inr rfl)))
    have q3 := h.up f3
    have h33 : zup μ2 (x + 62) 4 (s : Int) (x + 62) 3 = (s : Int) := by rw [zup_j (by decide)]; exact h3
    refine zo_gf q3.o h33 (by omega) (by omega) ?_
    refine zo_gr q3.o q3.r0 (by omega) (by omega) ?_
    refine zo_gf q3.B.o q3.L.n (by omega) (by omega) ?_
    by_cases e : s < l.length
    · obtain ⟨v, hv, _⟩ := get_ex e
      have hkd := kd_some hv
      have hkr := zks_rng (zu v)
      have hkd0 : ¬ zkd l s = 0 := by rw [hkd]; omega
      rw [if_neg hkd0] at e3
      refine zo_pos (by omega) ?_
      refine zo_gr q3.o q3.r0 (by omega) (by omega) ?_
      refine zo_gf q3.o h33 (by omega) (by omega) ?_
      refine zo_ob q3.B.o (by omega) ?_
      refine zo_bn (q3.at0 hv) ?_
      refine zo_bn c_kindOf ?_
      refine zo_pf 2 q3.o (by omega) (by omega) ?_
      have h34 : zup (zup μ2 (x + 62) 4 (s : Int)) (x + 62) 2 (zks (zu v)) (x + 62) 3 = (s : Int) := by rw [zup_j (by decide)]; exact h33
      refine zo_gf q3.o h34 (by omega) (by omega) ?_
      refine zo_pf 4 q3.o (by omega) (by omega) ?_
      rw [w32_s (k := s) (by omega)]
      refine zo_l2 (F := fun f (i : Nat) (μ3 : zM) => f_X4_next_109 f (x + 62) (S, μ3)) (fun i μ3 => FT4 x μ μ3 ∧ μ3 (x + 62) 2 = zks (zu v) ∧ μ3 (x + 62) 3 = (s : Int) ∧ μ3 (x + 62) 4 = (i : Int) ∧ i ≤ l.length ∧ (zks (zu v) = 3 → i = s + 1) ∧ (¬ zks (zu v) = 3 → zen l (zks (zu v)) (l.length - i) i = zen l (zks (zu v)) (l.length - (s + 1)) (s + 1))) (fun i _ => l.length - i) ?_ zFU (s + 1) _ ⟨FT4.tr f3 (FT4.tr (FT4.u (Or.inl rfl)) (FT4.u (Or.inr (Or.inr rfl)))), by rw [zup_j (by decide), zup_at], by rw [zup_j (by decide)]; exact h34, zup_at, by omega, fun _ => rfl, fun _ => rfl⟩ (by show l.length - (s + 1) < 1000000; omega)
      rintro f i μ3 ⟨f4, g2, g3, g4, hi, i3, i4⟩ ih
      have q4 := h.up f4
      refine j_X4_next_109 ?_
      refine zo_gf q4.o g2 (by omega) (by omega) ?_
      by_cases z3 : zks (zu v) = 3
      · refine zo_pos z3 ?_
        rw [if_pos (hkd.trans z3)] at e3
        exact zo_rt ⟨μ3, rfl, ⟨by rw [g2, e1, hkd], by rw [g3, e2], by rw [g4, e3, i3 z3]⟩, f4⟩
      · have i4 := i4 z3
        rw [if_neg (fun z => z3 (hkd.symm.trans z)), hkd, ← i4] at e3
        refine zo_neg z3 ?_
        refine zo_gf q4.o g4 (by omega) (by omega) ?_
        refine zo_gr q4.o q4.r0 (by omega) (by omega) ?_
        refine zo_gf q4.B.o q4.L.n (by omega) (by omega) ?_
        by_cases ei : i < l.length
        · obtain ⟨u, hu, _⟩ := get_ex ei
          refine zo_pos (by omega) ?_
          refine zo_gr q4.o q4.r0 (by omega) (by omega) ?_
          refine zo_gf q4.o g4 (by omega) (by omega) ?_
          refine zo_ob q4.B.o (by omega) ?_
          refine zo_bn (q4.at0 hu) ?_
          refine zo_bn c_kindOf ?_
          refine zo_gf q4.o g2 (by omega) (by omega) ?_
          rw [en_s ei, kd_some hu] at i4 e3
          by_cases y : zks (zu u) = zks (zu v)
          · refine zo_pos y ?_
            rw [if_pos y] at i4
            refine zo_gf q4.o g4 (by omega) (by omega) ?_
            refine zo_pf 4 q4.o (by omega) (by omega) ?_
            rw [w32_s (k := i) (by omega)]
            exact ih (i + 1) _ ⟨FT4.tr f4 (FT4.u (Or.inr (Or.inr rfl))), by rw [zup_j (by decide)]; exact g2, by rw [zup_j (by decide)]; exact g3, zup_at, by omega, fun z => absurd z z3, fun _ => i4⟩ (by omega)
          · refine zo_neg y ?_
            rw [if_neg y] at e3
            exact zo_rt ⟨μ3, rfl, ⟨by rw [g2, e1, hkd], by rw [g3, e2], by rw [g4, e3]⟩, f4⟩
        · refine zo_neg (by omega) ?_
          rw [en_e (by omega)] at e3
          exact zo_rt ⟨μ3, rfl, ⟨by rw [g2, e1, hkd], by rw [g3, e2], by rw [g4, e3]⟩, f4⟩
    · have hkd : zkd l s = 0 := kd_none (by omega)
      rw [if_pos hkd] at e3
      refine zo_neg (by omega) ?_
      refine zo_pf 2 q3.o (by omega) (by omega) ?_
      exact zo_rt ⟨_, rfl, ⟨by rw [zup_at, e1, hkd], by rw [zup_j (by decide), h33, e2], by rw [zup_j (by decide), zup_at, e3]⟩, FT4.tr f3 (FT4.u (Or.inl rfl))⟩
  apply zo_ux
  refine j_X4_next ?_
  refine zo_gf h.o h4 (by omega) (by omega) ?_
  refine zo_pf 3 h.o (by omega) (by omega) ?_
  refine zo_l2 (F := fun f (i : Nat) (μ2 : zM) => f_X4_next_8 f (x + 62) (S, μ2)) (fun i μ2 => FT4 x μ μ2 ∧ μ2 (x + 62) 3 = (i : Int) ∧ i ≤ l.length ∧ zsk l (l.length - i) i = s) (fun i _ => l.length - i) ?_ zFU k _ ⟨FT4.u (Or.inr (Or.inl rfl)), zup_at, hk, hs⟩ (by show l.length - k < 1000000; omega)
  rintro f i μ2 ⟨f2, h3, hi, hz⟩ ih
  have q2 := h.up f2
  refine j_X4_next_8 ?_
  refine zo_gf q2.o h3 (by omega) (by omega) ?_
  refine zo_gr q2.o q2.r0 (by omega) (by omega) ?_
  refine zo_gf q2.B.o q2.L.n (by omega) (by omega) ?_
  by_cases e : i < l.length
  · obtain ⟨v, hv, _⟩ := get_ex e
    rw [sk_s e, kd_some hv] at hz
    refine zo_pos (by omega) ?_
    refine zo_gr q2.o q2.r0 (by omega) (by omega) ?_
    refine zo_gf q2.o h3 (by omega) (by omega) ?_
    refine zo_ob q2.B.o (by omega) ?_
    refine zo_bn (q2.at0 hv) ?_
    refine zo_bn c_kindOf ?_
    by_cases y : zks (zu v) = 4
    · rw [if_pos y] at hz
      refine zo_pos y ?_
      refine zo_gf q2.o h3 (by omega) (by omega) ?_
      refine zo_pf 3 q2.o (by omega) (by omega) ?_
      rw [w32_s (k := i) (by omega)]
      exact ih (i + 1) _ ⟨FT4.tr f2 (FT4.u (Or.inr (Or.inl rfl))), zup_at, by omega, hz⟩ (by omega)
    · rw [if_neg y] at hz
      refine zo_neg y ?_
      exact main μ2 f2 (by rw [h3, hz])
  · rw [sk_e (by omega)] at hz
    refine zo_neg (by omega) ?_
    exact main μ2 f2 (by rw [h3, hz])
theorem znv_s (l : List Int) (v : Int) : znv (l ++ [v]) = 10 * znv l + (v - 48) := by
  unfold znv
  rw [List.foldl_append]
  rfl
theorem znv_nn : ∀ (l : List Int), (∀ v, v ∈ l → 48 ≤ v ∧ v ≤ 57) → 0 ≤ znv l := by
  have key : ∀ (l : List Int) (c : Int), 0 ≤ c → (∀ v, v ∈ l → 48 ≤ v ∧ v ≤ 57) → 0 ≤ l.foldl (fun c v => 10 * c + (v - 48)) c := by
    intro l
    induction l with
    | nil => intro c hc _; exact hc
    | cons v l ih =>
      intro c hc h
      have hv := h v (List.mem_cons_self ..)
      exact ih _ (show 0 ≤ 10 * c + (v - 48) by omega) (fun u hu => h u (List.mem_cons_of_mem _ hu))
  intro l h
  exact key l 0 (by decide) h
theorem seg_mem {i j : Nat} {v : Int} (h : v ∈ (l.drop i).take j) : ∃ k, i ≤ k ∧ k < i + j ∧ l[k]? = some v := by
  obtain ⟨r, hr⟩ := List.mem_iff_getElem?.mp h
  have hrl := (List.getElem?_eq_some_iff.mp hr).1
  rw [List.length_take] at hrl
  rw [List.getElem?_take_of_lt (by omega), List.getElem?_drop] at hr
  exact ⟨i + r, by omega, by omega, hr⟩
theorem kd_dig {k : Nat} {v : Int} (hk : l[k]? = some v) (hv : -128 ≤ v ∧ v < 128) (h : zkd l k = 2) : 48 ≤ v ∧ v ≤ 57 := by
  rw [kd_some hk] at h
  unfold zks at h
  by_cases z1 : 97 ≤ zu v ∧ zu v ≤ 122
  · rw [if_pos z1] at h; exact absurd h (by decide)
  · rw [if_neg z1] at h
    by_cases z2 : 48 ≤ zu v ∧ zu v ≤ 57
    · unfold zu at z2
      split at z2 <;> omega
    · rw [if_neg z2] at h
      split at h <;> exact absurd h (by decide)
theorem kd_let {k : Nat} {v : Int} (hk : l[k]? = some v) (hv : -128 ≤ v ∧ v < 128) : zkd l k = 1 ↔ 97 ≤ v ∧ v ≤ 122 := by
  rw [kd_some hk]
  unfold zks zu
  by_cases z0 : v < 0
  · rw [if_pos z0]
    by_cases z1 : 97 ≤ v + 256 ∧ v + 256 ≤ 122
    · omega
    · rw [if_neg z1]
      refine ⟨fun z => ?_, fun z => by omega⟩
      exfalso
      split at z
      · exact absurd z (by decide)
      · split at z <;> exact absurd z (by decide)
  · rw [if_neg z0]
    by_cases z1 : 97 ≤ v ∧ v ≤ 122
    · rw [if_pos z1]; exact ⟨fun _ => z1, fun _ => rfl⟩
    · rw [if_neg z1]
      refine ⟨fun z => ?_, fun z => absurd z z1⟩
      exfalso
      split at z
      · exact absurd z (by decide)
      · split at z <;> exact absurd z (by decide)
end C78
