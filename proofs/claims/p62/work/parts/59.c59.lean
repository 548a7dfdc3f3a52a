/-! C 59: bytes, the input -/
theorem w8_rng (z : Int) : -128 ≤ w8 z ∧ w8 z < 128 := by
  have h1 := Int.le_bmod (x := z) (m := 256) (by decide)
  have h2 := Int.bmod_lt (x := z) (m := 256) (by decide)
  unfold w8
  omega
theorem w8_w (z : Int) : w8 (w8 z) = w8 z := by
  unfold w8
  exact Int.bmod_bmod ..
theorem zand_b : ∀ n : Fin 256, zand ((n : Nat) - 128 : Int) 255 = if (n : Nat) < 128 then ((n : Nat) + 128 : Int) else ((n : Nat) - 128 : Int) := by decide +kernel
theorem zand_255 {v : Int} (h : -128 ≤ v ∧ v < 128) : zand v 255 = if v < 0 then v + 256 else v := by
  have h1 := zand_b ⟨(v + 128).toNat, by omega⟩
  dsimp only at h1
  rw [show (((v + 128).toNat : Nat) : Int) - 128 = v by omega] at h1
  rw [h1]
  split <;> split <;> omega
def zfour (a : Int) : List Int := [w8 (zshr a 24), w8 (zshr a 16), w8 (zshr a 8), w8 a]
def BSh (S : zG) (b n : Int) : Prop := (S.1 b = some (0, 0)) ∧ (S.2.1 b 0 = b + 1) ∧ (S.1 (b + 1) = some (2, n))
theorem BSh.mk {S : zG} {b n : Int} (h : (S.1 b = some (0, 0)) ∧ (S.2.1 b 0 = b + 1) ∧ (S.1 (b + 1) = some (2, n))) : BSh S b n := h
theorem BSh.o {S : zG} {b n : Int} (h : BSh S b n) : S.1 b = some (0, 0) := h.1
theorem BSh.r {S : zG} {b n : Int} (h : BSh S b n) : S.2.1 b 0 = b + 1 := h.2.1
theorem BSh.c {S : zG} {b n : Int} (h : BSh S b n) : S.1 (b + 1) = some (2, n) := h.2.2
def LBy (μ : zM) (l : List Int) (a i c : Int) : Prop := (μ a i = (l.length : Int)) ∧ (∀ (k : Nat) (x : Int), l[k]? = some x → μ c (k : Int) = x) ∧ (∀ x, x ∈ l → -128 ≤ x ∧ x < 128)
theorem LBy.mk {μ : zM} {l : List Int} {a i c : Int} (h : (μ a i = (l.length : Int)) ∧ (∀ (k : Nat) (x : Int), l[k]? = some x → μ c (k : Int) = x) ∧ (∀ x, x ∈ l → -128 ≤ x ∧ x < 128)) : LBy μ l a i c := h
theorem LBy.n {μ : zM} {l : List Int} {a i c : Int} (h : LBy μ l a i c) : μ a i = (l.length : Int) := h.1
theorem LBy.v {μ : zM} {l : List Int} {a i c : Int} (h : LBy μ l a i c) : ∀ (k : Nat) (x : Int), l[k]? = some x → μ c (k : Int) = x := h.2.1
theorem LBy.g {μ : zM} {l : List Int} {a i c : Int} (h : LBy μ l a i c) : ∀ x, x ∈ l → -128 ≤ x ∧ x < 128 := h.2.2
section C59
variable {S : zG} {μ μ' : zM} {b n m A : Int} {l : List Int} {Q : zR × zS → Prop} {M : zD}
theorem LBy.snoc {a i c v : Int} (h : LBy μ l a i c) (hv : -128 ≤ v ∧ v < 128) (hac : a ≠ c) : LBy (zup (zup μ c (l.length : Int) v) a i ((l.length : Int) + 1)) (l ++ [v]) a i c := by
  refine LBy.mk ⟨by rw [zup_at, List.length_append]; rfl, ?_, ?_⟩
  · intro k x hk
    rw [zup_b (fun z => hac z.symm)]
    rcases snoc_get hk with ⟨h1, h2⟩ | ⟨h1, h2⟩
    · rw [zup_j (by omega)]; exact h.v k x h2
    · rw [h1, h2, zup_at]
  · intro x hx
    rcases List.mem_append.mp hx with hx | hx
    · exact h.g x hx
    · rw [List.mem_singleton.mp hx]; exact hv
def FB (b : Int) (μ μ' : zM) : Prop := ∀ y, y ≠ b → y ≠ b + 1 → μ' y = μ y
theorem FB.tr {b : Int} {μ μ1 μ2 : zM} (h : FB b μ μ1) (k : FB b μ1 μ2) : FB b μ μ2 := fun y h1 h2 => (k y h1 h2).trans (h y h1 h2)
theorem c_add {v : Int} (B : BSh S b n) (h : LBy μ l b 1 (b + 1)) (hn : (l.length : Int) < n) (hn2 : n ≤ 10000) : ∃ μ', f_X0_add b v (S, μ) = some (.inl 0, (S, μ')) ∧ LBy μ' (l ++ [w8 v]) b 1 (b + 1) ∧ FB b μ μ' := by
  apply zo_ux
  refine j_X0_add ?_
  refine zo_gf B.o h.n (by omega) (by omega) ?_
  refine zo_neg (by omega) ?_
  refine zo_gf B.o h.n (by omega) (by omega) ?_
  refine zo_gr B.o B.r (by omega) (by omega) ?_
  refine zo_al (t := 1) B.c ?_
  refine zo_pos hn ?_
  refine zo_gr B.o B.r (by omega) (by omega) ?_
  refine zo_gf B.o h.n (by omega) (by omega) ?_
  refine zo_si B.c (by omega) ?_
  refine zo_gf B.o (v := (l.length : Int)) (j := 1) (by rw [zup_b (by omega)]; exact h.n) (by omega) (by omega) ?_
  refine zo_pf 1 B.o (by omega) (by omega) ?_
  have ew : w32 ((l.length : Int) + 1) = (l.length : Int) + 1 := w32_e (by omega)
  rw [ew, w8_w]
  exact zo_rt ⟨_, rfl, h.snoc (w8_rng v) (by omega), fun y h1 h2 => by rw [zup_c h1, zup_c h2]⟩
theorem c_addFour {v : Int} (B : BSh S b n) (h : LBy μ l b 1 (b + 1)) (hn : (l.length : Int) + 4 ≤ n) (hn2 : n ≤ 10000) : ∃ μ', f_X0_addFour b v (S, μ) = some (.inl 0, (S, μ')) ∧ LBy μ' (l ++ zfour v) b 1 (b + 1) ∧ FB b μ μ' := by
  obtain ⟨μ1, e1, h1, f1⟩ := c_add (v := zshr v 24) B h (by omega) hn2
  obtain ⟨μ2, e2, h2, f2⟩ := c_add (v := zshr v 16) B h1 (by rw [List.length_append, List.length_singleton]; omega) hn2
  obtain ⟨μ3, e3, h3, f3⟩ := c_add (v := zshr v 8) B h2 (by rw [List.length_append, List.length_append, List.length_singleton, List.length_singleton]; omega) hn2
  obtain ⟨μ4, e4, h4, f4⟩ := c_add (v := v) B h3 (by rw [List.length_append, List.length_append, List.length_append, List.length_singleton, List.length_singleton, List.length_singleton]; omega) hn2
  apply zo_ux
  refine j_X0_addFour ?_
  refine zo_ob B.o (by omega) ?_
  refine zo_bn e1 ?_
  refine zo_ob B.o (by omega) ?_
  refine zo_bn e2 ?_
  refine zo_ob B.o (by omega) ?_
  refine zo_bn e3 ?_
  refine zo_ob B.o (by omega) ?_
  refine zo_bn e4 ?_
  refine zo_rt ⟨μ4, rfl, ?_, FB.tr f1 (FB.tr f2 (FB.tr f3 f4))⟩
  rw [List.append_assoc, List.append_assoc, List.append_assoc] at h4
  exact h4
theorem c_at {k : Nat} {v : Int} (B : BSh S b n) (h : LBy μ l b 1 (b + 1)) (hn : (l.length : Int) ≤ n) (hk : l[k]? = some v) : f_X0_at b (k : Int) (S, μ) = some (.inl (zand v 255), (S, μ)) := by
  have hl := (List.getElem?_eq_some_iff.mp hk).1
  apply zo_un
  refine j_X0_at ?_
  refine zo_neg (by omega) ?_
  refine zo_gf B.o h.n (by omega) (by omega) ?_
  refine zo_pos (by omega) ?_
  refine zo_gr B.o B.r (by omega) (by omega) ?_
  refine zo_al (t := 1) B.c ?_
  refine zo_pos (by omega) ?_
  refine zo_gr B.o B.r (by omega) (by omega) ?_
  refine zo_ld B.c (by omega) (h.v k v hk) ?_
  exact zo_rt rfl
def FI (m : Int) (μ μ' : zM) : Prop := (∀ y, y ≠ m → y ≠ m + 6 → μ' y = μ y) ∧ (∀ k, k ≠ 11 → μ' m k = μ m k)
theorem FI.mk {m : Int} {μ μ' : zM} (h : (∀ y, y ≠ m → y ≠ m + 6 → μ' y = μ y) ∧ (∀ k, k ≠ 11 → μ' m k = μ m k)) : FI m μ μ' := h
theorem FI.x {m : Int} {μ μ' : zM} (h : FI m μ μ') : ∀ y, y ≠ m → y ≠ m + 6 → μ' y = μ y := h.1
theorem FI.f {m : Int} {μ μ' : zM} (h : FI m μ μ') : ∀ k, k ≠ 11 → μ' m k = μ m k := h.2
theorem FI.rf {m : Int} {μ : zM} : FI m μ μ := FI.mk ⟨fun _ _ _ => rfl, fun _ _ => rfl⟩
theorem FI.tr {m : Int} {μ μ1 μ2 : zM} (h : FI m μ μ1) (k : FI m μ1 μ2) : FI m μ μ2 := FI.mk ⟨fun y h1 h2 => (k.x y h1 h2).trans (h.x y h1 h2), fun i h1 => (k.f i h1).trans (h.f i h1)⟩
theorem FI.u {m i v w : Int} {μ : zM} : FI m μ (zup (zup μ (m + 6) i v) m 11 w) := FI.mk ⟨fun y h1 h2 => by rw [zup_c h1, zup_c h2], fun k h1 => by rw [zup_j h1, zup_b (by omega)]⟩
end C59
