/-! C 74: writing numbers and names -/
theorem w8_e {z : Int} (h : 0 ≤ z ∧ z < 128) : w8 z = z := by
  unfold w8
  rw [Int.bmod_def]
  omega
theorem w32_n {q n : Nat} (h : q ≤ n) (hn : n < 2147483648) : w32 (q : Int) = (q : Int) := w32_e (by omega)
/-- downwards -/
def zdn (D : Nat → Int) : Nat → List Int
  | 0 => []
  | j + 1 => D j :: zdn D j
theorem zdn_len (D : Nat → Int) : ∀ n, (zdn D n).length = n := by
  intro n
  induction n with
  | zero => rfl
  | succ n ih => show (zdn D n).length + 1 = n + 1; rw [ih]
theorem zdn_mem {D : Nat → Int} : ∀ n j, j < n → D j ∈ zdn D n := by
  intro n
  induction n with
  | zero => intro j h; exact absurd h (by omega)
  | succ n ih =>
    intro j h
    show D j ∈ D n :: zdn D n
    by_cases e : j = n
    · rw [e]; exact List.mem_cons_self ..
    · exact List.mem_cons_of_mem _ (ih j (by omega))
theorem zdn_all {D : Nat → Int} {Pr : Int → Prop} : ∀ n, (∀ j, j < n → Pr (D j)) → ∀ v, v ∈ zdn D n → Pr v := by
  intro n
  induction n with
  | zero => intro _ v hv; exact absurd hv (by show ¬ v ∈ []; simp)
  | succ n ih =>
    intro h v hv
    have hv' : v ∈ D n :: zdn D n := hv
    rcases List.mem_cons.mp hv' with e | e
    · rw [e]; exact h n (by omega)
    · exact ih (fun j hj => h j (by omega)) v e
theorem zdn_s (D : Nat → Int) : ∀ n, zdn D (n + 1) = zdn (fun j => D (j + 1)) n ++ [D 0] := by
  intro n
  induction n with
  | zero => rfl
  | succ n ih =>
    show D (n + 1) :: zdn D (n + 1) = (D (n + 1) :: zdn (fun j => D (j + 1)) n) ++ [D 0]
    rw [ih]
    rfl
theorem zdn_cg {D E : Nat → Int} : ∀ n, (∀ j, j < n → D j = E j) → zdn D n = zdn E n := by
  intro n
  induction n with
  | zero => intro _; rfl
  | succ n ih =>
    intro h
    show D n :: zdn D n = E n :: zdn E n
    rw [h n (by omega), ih (fun j hj => h j (by omega))]
/-- a digit -/
def zdt (b o v : Nat) (j : Nat) : Int := (o : Int) + ((v / b ^ j % b : Nat) : Int)
/-- how many digits -/
def zng (v : Nat) : Nat := if v < 10 then 1 else if v < 100 then 2 else if v < 1000 then 3 else if v < 10000 then 4 else if v < 100000 then 5 else if v < 1000000 then 6 else 7
theorem zng_ok {v : Nat} (h : v < 10000000) : (1 ≤ zng v ∧ zng v ≤ 7) ∧ v < 10 ^ zng v ∧ (zng v = 1 ∨ 10 ^ (zng v - 1) ≤ v) ∧ (v ≤ 999 → zng v ≤ 3) := by
  unfold zng
  by_cases h1 : v < 10
  · rw [if_pos h1]; exact ⟨by decide, h1, Or.inl rfl, fun _ => by decide⟩
  rw [if_neg h1]
  by_cases h2 : v < 100
  · rw [if_pos h2]; exact ⟨by decide, h2, Or.inr (show 10 ≤ v by omega), fun _ => by decide⟩
  rw [if_neg h2]
  by_cases h3 : v < 1000
  · rw [if_pos h3]; exact ⟨by decide, h3, Or.inr (show 100 ≤ v by omega), fun _ => by decide⟩
  rw [if_neg h3]
  by_cases h4 : v < 10000
  · rw [if_pos h4]; exact ⟨by decide, h4, Or.inr (show 1000 ≤ v by omega), fun _ => by omega⟩
  rw [if_neg h4]
  by_cases h5 : v < 100000
  · rw [if_pos h5]; exact ⟨by decide, h5, Or.inr (show 10000 ≤ v by omega), fun _ => by omega⟩
  rw [if_neg h5]
  by_cases h6 : v < 1000000
  · rw [if_pos h6]; exact ⟨by decide, h6, Or.inr (show 100000 ≤ v by omega), fun _ => by omega⟩
  rw [if_neg h6]
  exact ⟨by decide, h, Or.inr (show 1000000 ≤ v by omega), fun _ => by omega⟩
def znb (v : Int) : List Int := zdn (zdt 10 48 v.toNat) (zng v.toNat)
def zsc (b : Nat) : Nat → Nat
  | 0 => 0
  | j + 1 => b ^ j
theorem zsc_d {b : Nat} (hb : 1 < b) (j : Nat) : zsc b (j + 1) / b = zsc b j := by
  cases j with
  | zero => show b ^ 0 / b = 0; rw [Nat.pow_zero]; exact Nat.div_eq_of_lt hb
  | succ j => show b ^ (j + 1) / b = b ^ j; rw [Nat.pow_succ]; exact Nat.mul_div_cancel _ (by omega)
theorem pw_pos {b : Nat} (hb : 1 < b) (j : Nat) : 0 < b ^ j := Nat.pow_pos (by omega)
theorem pw_le {b i j : Nat} (hb : 1 < b) (h : i ≤ j) : b ^ i ≤ b ^ j := Nat.pow_le_pow_right (by omega) h
theorem dg_hi {b v N j : Nat} (hb : 1 < b) (h : v < b ^ N) (hj : N ≤ j) : v / b ^ j = 0 := Nat.div_eq_of_lt (Nat.lt_of_lt_of_le h (pw_le hb hj))
theorem dg_top {b v N : Nat} (hb : 1 < b) (hN : 2 ≤ N) (h : v < b ^ N) (h2 : b ^ (N - 1) ≤ v) : ¬ v / b ^ (N - 1) % b = 0 := by
  have hp := pw_pos hb (N - 1)
  have e : b ^ N = b * b ^ (N - 1) := by
    have e1 : N = (N - 1) + 1 := by omega
    have e2 : b ^ ((N - 1) + 1) = b * b ^ (N - 1) := by rw [Nat.pow_succ, Nat.mul_comm]
    rw [← e1] at e2
    exact e2
  have h3 : v / b ^ (N - 1) < b := (Nat.div_lt_iff_lt_mul hp).mpr (by rw [← e]; exact h)
  have h4 : 0 < v / b ^ (N - 1) := Nat.div_pos h2 hp
  rw [Nat.mod_eq_of_lt h3]
  omega
theorem dg_more {b v N k : Nat} (hb : 1 < b) (hk : k + 1 ≤ N - 1) (h2 : N = 1 ∨ b ^ (N - 1) ≤ v) : b ≤ v / b ^ k := by
  have hp := pw_pos hb k
  have h3 : b ^ (k + 1) ≤ v := Nat.le_trans (pw_le hb hk) (h2.resolve_left (by omega))
  refine (Nat.le_div_iff_mul_le hp).mpr ?_
  rw [Nat.pow_succ, Nat.mul_comm] at h3
  exact h3
theorem dg_last {b v N : Nat} (hb : 1 < b) (hN : 1 ≤ N) (h : v < b ^ N) : v / b ^ (N - 1) < b := by
  have hp := pw_pos hb (N - 1)
  have e : b ^ N = b * b ^ (N - 1) := by
    have e1 : N = (N - 1) + 1 := by omega
    have e2 : b ^ ((N - 1) + 1) = b * b ^ (N - 1) := by rw [Nat.pow_succ, Nat.mul_comm]
    rw [← e1] at e2
    exact e2
  exact (Nat.div_lt_iff_lt_mul hp).mpr (by rw [← e]; exact h)
/-- a name's digits -/
theorem nm_dg {b : Nat} (hb : 27 ≤ b) : ∀ (r : List Int), (∀ v, v ∈ r → 1 ≤ v ∧ v ≤ 26) → zdn (zdt b 96 (zcr (b : Int) r).toNat) r.length = (r.reverse).map (fun v => 96 + v) := by
  intro r
  induction r with
  | nil => intro _; rfl
  | cons v r ih =>
    intro h
    have hv := h v (List.mem_cons_self ..)
    have h2 := fun u hu => h u (List.mem_cons_of_mem v hu)
    have h0 := zcr_nn (b := (b : Int)) (by omega) r h2
    have ih := ih h2
    have e0 : zcr (b : Int) (v :: r) = (b : Int) * zcr (b : Int) r + v := rfl
    obtain ⟨c, hc⟩ : ∃ c : Nat, zcr (b : Int) r = (c : Int) := ⟨(zcr (b : Int) r).toNat, by omega⟩
    obtain ⟨u, hu⟩ : ∃ u : Nat, v = (u : Int) := ⟨v.toNat, by omega⟩
    have e1 : (zcr (b : Int) (v :: r)).toNat = b * c + u := by
      rw [e0, hc, hu]
      have e2 : (b : Int) * (c : Int) + (u : Int) = ((b * c + u : Nat) : Int) := by rw [Int.natCast_add, Int.natCast_mul]
      rw [e2]
      exact Int.toNat_natCast _
    have e3 : (zcr (b : Int) r).toNat = c := by rw [hc]; exact Int.toNat_natCast _
    rw [e3] at ih
    have hub : u < b := by omega
    have hd : (b * c + u) / b = c := by
      rw [Nat.mul_add_div (by omega), Nat.div_eq_of_lt hub, Nat.add_zero]
    have hm : (b * c + u) % b = u := by rw [Nat.mul_add_mod, Nat.mod_eq_of_lt hub]
    rw [e1, List.length_cons, zdn_s, List.reverse_cons, List.map_append, ← ih]
    have e4 : zdn (fun j => zdt b 96 (b * c + u) (j + 1)) r.length = zdn (zdt b 96 c) r.length := by
      refine zdn_cg _ (fun j _ => ?_)
      have e9 : (b * c + u) / b ^ (j + 1) = c / b ^ j := by rw [Nat.pow_succ, Nat.mul_comm (b ^ j) b, ← Nat.div_div_eq_div_mul, hd]
      unfold zdt
      rw [e9]
    have e5 : zdt b 96 (b * c + u) 0 = 96 + v := by
      unfold zdt
      rw [Nat.pow_zero, Nat.div_one, hm, hu]
      rfl
    rw [e4, e5]
    rfl
theorem nm_digits {b : Nat} (hb : 27 ≤ b) {nm : List Int} (h : NOk nm) : zdn (zdt b 96 (zcode (b : Int) nm).toNat) nm.length = nm.map (fun v => 96 + v) := by
  have h1 := nm_dg hb nm.reverse (fun v hv => h.c v (List.mem_reverse.mp hv))
  rw [List.length_reverse, List.reverse_reverse] at h1
  rw [zcode_r]
  exact h1
theorem nm_low {b : Nat} (hb : 27 ≤ b) : ∀ (r : List Int), (∀ v, v ∈ r → 1 ≤ v ∧ v ≤ 26) → r ≠ [] → ((b ^ (r.length - 1) : Nat) : Int) ≤ zcr (b : Int) r := by
  intro r
  induction r with
  | nil => intro _ h; exact absurd rfl h
  | cons v r ih =>
    intro h _
    have hv := h v (List.mem_cons_self ..)
    have h2 := fun u hu => h u (List.mem_cons_of_mem v hu)
    have h0 := zcr_nn (b := (b : Int)) (by omega) r h2
    have e0 : zcr (b : Int) (v :: r) = (b : Int) * zcr (b : Int) r + v := rfl
    cases r with
    | nil =>
      show ((b ^ 0 : Nat) : Int) ≤ (b : Int) * 0 + v
      rw [Nat.pow_zero, Int.mul_zero]
      omega
    | cons u r =>
      have h3 := ih h2 (by simp)
      have e1 : (v :: u :: r).length - 1 = ((u :: r).length - 1) + 1 := rfl
      rw [e0, e1, Nat.pow_succ, Int.natCast_mul, Int.mul_comm]
      have h4 := Int.mul_le_mul_of_nonneg_left h3 (show 0 ≤ (b : Int) by omega)
      omega
theorem nm_bounds {b : Nat} (hb : b = 27 ∨ b = 32) {nm : List Int} (h : NOk nm) : (zcode (b : Int) nm).toNat < b ^ nm.length ∧ (nm.length = 1 ∨ b ^ (nm.length - 1) ≤ (zcode (b : Int) nm).toNat) ∧ 0 ≤ zcode (b : Int) nm := by
  have h1 : 0 ≤ zcode (b : Int) nm ∧ zcode (b : Int) nm < (b : Int) ^ nm.length := zcode_up (by rcases hb with z | z <;> subst z <;> decide) nm h.c
  have h2 := nm_low (b := b) (by rcases hb with z | z <;> omega) nm.reverse (fun v hv => h.c v (List.mem_reverse.mp hv)) (by intro z; have := h.n.1; rw [← List.length_reverse, z] at this; exact absurd this (by decide))
  rw [← zcode_r, List.length_reverse] at h2
  have e : (b : Int) ^ nm.length = ((b ^ nm.length : Nat) : Int) := (Int.natCast_pow b nm.length).symm
  rw [e] at h1
  exact ⟨by omega, Or.inr (by omega), h1.1⟩
/-- what writing changes in the model -/
def FO (m : Int) (μ μ' : zM) : Prop := (∀ y, y ≠ m → y ≠ m + 11 → μ' y = μ y) ∧ (∀ k, k ≠ 27 → μ' m k = μ m k)
theorem FO.mk {m : Int} {μ μ' : zM} (h : (∀ y, y ≠ m → y ≠ m + 11 → μ' y = μ y) ∧ (∀ k, k ≠ 27 → μ' m k = μ m k)) : FO m μ μ' := h
theorem FO.x {m : Int} {μ μ' : zM} (h : FO m μ μ') : ∀ y, y ≠ m → y ≠ m + 11 → μ' y = μ y := h.1
theorem FO.f {m : Int} {μ μ' : zM} (h : FO m μ μ') : ∀ k, k ≠ 27 → μ' m k = μ m k := h.2
section C74
variable {S S' : zG} {μ μ' μ1 μ2 : zM} {x m d B A b n : Int} {M M' : zD} {L : List zD} {K : zKs} {l inp out : List Int} {c p : Int} {P : zG → zM → Prop} {Q : zR × zS → Prop}
theorem FO.rf : FO m μ μ := FO.mk ⟨fun _ _ _ => rfl, fun _ _ => rfl⟩
theorem FO.tr (h : FO m μ μ1) (k : FO m μ1 μ2) : FO m μ μ2 := FO.mk ⟨fun y h1 h2 => (k.x y h1 h2).trans (h.x y h1 h2), fun i h1 => (k.f i h1).trans (h.f i h1)⟩
theorem FB.rf : FB b μ μ := fun _ _ _ => rfl
theorem b_write {v : Int} (H : MSh S m A) (h : LBy μ l m 27 (m + 11)) (hl : l.length < 1800) (hv : 0 ≤ v ∧ v < 128) : ∃ μ', f_X8_write m v (S, μ) = some (.inl 0, (S, μ')) ∧ (LBy μ' (l ++ [v]) m 27 (m + 11) ∧ FO m μ μ') := by
  have e8 : w8 (w8 v) = v := by rw [w8_e hv, w8_e hv]
  apply zo_ux
  refine j_X8_write ?_
  refine zo_gr H.o H.r26 (by omega) (by omega) ?_
  refine zo_gf H.o h.n (by omega) (by omega) ?_
  refine zo_si H.a11 (by omega) ?_
  rw [e8]
  refine zo_gf H.o (v := (l.length : Int)) (j := 27) (by rw [zup_b (by omega)]; exact h.n) (by omega) (by omega) ?_
  refine zo_pf 27 H.o (by omega) (by omega) ?_
  rw [w32_e (show -2147483648 ≤ (l.length : Int) + 1 ∧ (l.length : Int) + 1 < 2147483648 by omega)]
  exact zo_rt ⟨_, rfl, h.snoc (by omega) (by omega), FO.mk ⟨fun y h1 h2 => by rw [zup_c h1, zup_c h2], fun k h1 => by rw [zup_j h1, zup_b (by omega)]⟩⟩
theorem c_add2 {v : Int} (Bs : BSh S b n) (h : LBy μ l b 1 (b + 1)) (hn : (l.length : Int) < n) (hn2 : n ≤ 10000) (hv : 0 ≤ v ∧ v < 128) : ∃ μ', f_X0_add b v (S, μ) = some (.inl 0, (S, μ')) ∧ LBy μ' (l ++ [v]) b 1 (b + 1) ∧ FB b μ μ' := by
  obtain ⟨μ1, e1, h1, f1⟩ := c_add (v := v) Bs h hn hn2
  rw [w8_e hv] at h1
  exact ⟨μ1, e1, h1, f1⟩
theorem b_writeNumber_go {v N : Nat} (H : MSh S m A) (h : LBy μ l m 27 (m + 11)) (hN : 1 ≤ N) (h1 : v < 10 ^ N) (h2 : N = 1 ∨ 10 ^ (N - 1) ≤ v) (hb : 10 ^ N < 2147483648) (hl : l.length + N ≤ 1800) : ∃ μ', f_X8_writeNumber m (v : Int) (S, μ) = some (.inl 0, (S, μ')) ∧ (LBy μ' (l ++ zdn (zdt 10 48 v) N) m 27 (m + 11) ∧ FO m μ μ') := by
  have ht : ∀ j : Nat, Int.tdiv (v : Int) ((10 ^ j : Nat) : Int) = ((v / 10 ^ j : Nat) : Int) := fun j => rfl
  have hlev : ∀ j : Nat, v / 10 ^ j ≤ v := fun j => Nat.div_le_self _ _
  apply zo_ux
  refine j_X8_writeNumber ?_
  have e1 : (1 : Int) = ((10 ^ 0 : Nat) : Int) := rfl
  rw [e1]
  refine zo_l1 (F := fun f (k : Nat) => f_X8_writeNumber_2 f m (v : Int) ((10 ^ k : Nat) : Int) (S, μ)) (fun k => k ≤ N - 1) (fun k => N - 1 - k) ?_ zFU 0 (by omega) (by show N - 1 - 0 < 1000000; have : N < 10 ^ N := Nat.lt_pow_self (by decide); omega)
  intro f k hk ih
  have hp := pw_pos (b := 10) (by decide) k
  have hpk : 10 ^ k ≤ 10 ^ (N - 1) := pw_le (by decide) hk
  have hpN : 10 ^ (N - 1) * 10 = 10 ^ N := by rw [← Nat.pow_succ, show (N - 1).succ = N by omega]
  have hv31 : v < 2147483648 := Nat.lt_trans h1 hb
  refine j_X8_writeNumber_2 ?_
  refine zo_neg (by omega) ?_
  rw [ht k, w32_n (hlev k) hv31]
  by_cases e : k = N - 1
  · subst e
    have hlast := dg_last (b := 10) (by decide) hN h1
    refine zo_pos (Int.ofNat_lt.mpr hlast) ?_
    refine j_X8_writeNumber_18 ?_
    have es : ((10 ^ (N - 1) : Nat) : Int) = ((zsc 10 N : Nat) : Int) := by
      have e2 : N = (N - 1) + 1 := by omega
      have e3 : zsc 10 ((N - 1) + 1) = 10 ^ (N - 1) := rfl
      rw [← e2] at e3
      rw [e3]
    rw [es]
    refine zo_l2 (F := fun f (q : Nat) (μ2 : zM) => f_X8_writeNumber_20 f m (v : Int) ((zsc 10 q : Nat) : Int) (S, μ2)) (fun q μ2 => q ≤ N ∧ FO m μ μ2 ∧ ∃ done, done ++ zdn (zdt 10 48 v) q = zdn (zdt 10 48 v) N ∧ LBy μ2 (l ++ done) m 27 (m + 11)) (fun q _ => q) ?_ zFU N μ ⟨Nat.le_refl _, FO.rf, [], rfl, by rw [List.append_nil]; exact h⟩ (by have : N < 10 ^ N := Nat.lt_pow_self (by decide); show N < 1000000; omega)
    rintro f q μ2 ⟨hq, hf, done, hd, h3⟩ ih2
    refine j_X8_writeNumber_20 ?_
    cases q with
    | zero =>
      rw [show zdn (zdt 10 48 v) 0 = [] from rfl, List.append_nil] at hd
      rw [hd] at h3
      exact zo_neg (by decide) (zo_rt ⟨μ2, rfl, h3, hf⟩)
    | succ q =>
      have hpq := pw_pos (b := 10) (by decide) q
      have hpq2 : 10 ^ q ≤ 10 ^ (N - 1) := pw_le (by decide) (by omega)
      have esc : ((zsc 10 (q + 1) : Nat) : Int) = ((10 ^ q : Nat) : Int) := rfl
      have hleq := hlev q
      have hml : v / 10 ^ q % 10 < 10 := Nat.mod_lt _ (by decide)
      have em : Int.tmod ((v / 10 ^ q : Nat) : Int) 10 = ((v / 10 ^ q % 10 : Nat) : Int) := rfl
      have hdl : done.length + (q + 1) = N := by
        have hh := congrArg List.length hd
        rw [List.length_append, zdn_len, zdn_len] at hh
        exact hh
      have hzr : 0 ≤ zdt 10 48 v q ∧ zdt 10 48 v q < 128 := by
        unfold zdt
        generalize v / 10 ^ q % 10 = dg at *
        omega
      obtain ⟨μ3, e3, h4, f3⟩ := b_write (v := zdt 10 48 v q) H h3 (by rw [List.length_append]; omega) hzr
      have edt : (48 : Int) + ((v / 10 ^ q % 10 : Nat) : Int) = zdt 10 48 v q := rfl
      have esd : Int.tdiv ((10 ^ q : Nat) : Int) 10 = ((zsc 10 q : Nat) : Int) := by
        have e4 : Int.tdiv ((10 ^ q : Nat) : Int) 10 = ((10 ^ q / 10 : Nat) : Int) := rfl
        have e5 : 10 ^ q / 10 = zsc 10 q := zsc_d (b := 10) (by decide) q
        rw [e4, e5]
      rw [esc]
      refine zo_pos (by omega) ?_
      refine zo_neg (by omega) ?_
      refine zo_neg (by decide) ?_
      rw [ht q, w32_n (hlev q) hv31, em, edt, w32_e (show -2147483648 ≤ zdt 10 48 v q ∧ zdt 10 48 v q < 2147483648 by omega)]
      refine zo_ob H.o (by omega) ?_
      refine zo_bn e3 ?_
      refine zo_neg (by decide) ?_
      have hsz : zsc 10 q ≤ 10 ^ q := by
        cases q with
        | zero => exact Nat.zero_le _
        | succ q => exact pw_le (by decide) (by omega)
      rw [esd, w32_e (show -2147483648 ≤ ((zsc 10 q : Nat) : Int) ∧ ((zsc 10 q : Nat) : Int) < 2147483648 by omega)]
      refine ih2 q μ3 ⟨by omega, FO.tr hf f3, done ++ [zdt 10 48 v q], ?_, by rw [← List.append_assoc]; exact h4⟩ (by omega)
      rw [List.append_assoc]
      exact hd
  · have hmore := dg_more (b := 10) (N := N) (k := k) (by decide) (by omega) h2
    have hp1 : 10 ^ (k + 1) ≤ 10 ^ (N - 1) := pw_le (by decide) (by omega)
    have es : ((10 ^ k : Nat) : Int) * 10 = ((10 ^ (k + 1) : Nat) : Int) := by rw [Nat.pow_succ, Int.natCast_mul]; rfl
    refine zo_neg (fun z => absurd (Int.ofNat_lt.mp z) (Nat.not_lt.mpr hmore)) ?_
    rw [es, w32_e (show -2147483648 ≤ ((10 ^ (k + 1) : Nat) : Int) ∧ ((10 ^ (k + 1) : Nat) : Int) < 2147483648 by omega)]
    exact ih (k + 1) (by omega) (by omega)
theorem b_writeName_go {v N : Nat} (H : MSh S m A) (h : LBy μ l m 27 (m + 11)) (hN : 1 ≤ N) (h1 : v < 27 ^ N) (h2 : N = 1 ∨ 27 ^ (N - 1) ≤ v) (hb : 27 ^ N < 2147483648) (hl : l.length + N ≤ 1800) : ∃ μ', f_X8_writeName m (v : Int) (S, μ) = some (.inl 0, (S, μ')) ∧ (LBy μ' (l ++ zdn (zdt 27 96 v) N) m 27 (m + 11) ∧ FO m μ μ') := by
  have ht : ∀ j : Nat, Int.tdiv (v : Int) ((27 ^ j : Nat) : Int) = ((v / 27 ^ j : Nat) : Int) := fun j => rfl
  have hlev : ∀ j : Nat, v / 27 ^ j ≤ v := fun j => Nat.div_le_self _ _
  apply zo_ux
  refine j_X8_writeName ?_
  have e1 : (1 : Int) = ((27 ^ 0 : Nat) : Int) := rfl
  rw [e1]
  refine zo_l1 (F := fun f (k : Nat) => f_X8_writeName_2 f m (v : Int) ((27 ^ k : Nat) : Int) (S, μ)) (fun k => k ≤ N - 1) (fun k => N - 1 - k) ?_ zFU 0 (by omega) (by show N - 1 - 0 < 1000000; have : N < 27 ^ N := Nat.lt_pow_self (by decide); omega)
  intro f k hk ih
  have hp := pw_pos (b := 27) (by decide) k
  have hpk : 27 ^ k ≤ 27 ^ (N - 1) := pw_le (by decide) hk
  have hpN : 27 ^ (N - 1) * 27 = 27 ^ N := by rw [← Nat.pow_succ, show (N - 1).succ = N by omega]
  have hv31 : v < 2147483648 := Nat.lt_trans h1 hb
  refine j_X8_writeName_2 ?_
  refine zo_neg (by omega) ?_
  rw [ht k, w32_n (hlev k) hv31]
  by_cases e : k = N - 1
  · subst e
    have hlast := dg_last (b := 27) (by decide) hN h1
    refine zo_pos (Int.ofNat_lt.mpr hlast) ?_
    refine j_X8_writeName_18 ?_
    have es : ((27 ^ (N - 1) : Nat) : Int) = ((zsc 27 N : Nat) : Int) := by
      have e2 : N = (N - 1) + 1 := by omega
      have e3 : zsc 27 ((N - 1) + 1) = 27 ^ (N - 1) := rfl
      rw [← e2] at e3
      rw [e3]
    rw [es]
    refine zo_l2 (F := fun f (q : Nat) (μ2 : zM) => f_X8_writeName_20 f m (v : Int) ((zsc 27 q : Nat) : Int) (S, μ2)) (fun q μ2 => q ≤ N ∧ FO m μ μ2 ∧ ∃ done, done ++ zdn (zdt 27 96 v) q = zdn (zdt 27 96 v) N ∧ LBy μ2 (l ++ done) m 27 (m + 11)) (fun q _ => q) ?_ zFU N μ ⟨Nat.le_refl _, FO.rf, [], rfl, by rw [List.append_nil]; exact h⟩ (by have : N < 27 ^ N := Nat.lt_pow_self (by decide); show N < 1000000; omega)
    rintro f q μ2 ⟨hq, hf, done, hd, h3⟩ ih2
    refine j_X8_writeName_20 ?_
    cases q with
    | zero =>
      rw [show zdn (zdt 27 96 v) 0 = [] from rfl, List.append_nil] at hd
      rw [hd] at h3
      exact zo_neg (by decide) (zo_rt ⟨μ2, rfl, h3, hf⟩)
    | succ q =>
      have hpq := pw_pos (b := 27) (by decide) q
      have hpq2 : 27 ^ q ≤ 27 ^ (N - 1) := pw_le (by decide) (by omega)
      have esc : ((zsc 27 (q + 1) : Nat) : Int) = ((27 ^ q : Nat) : Int) := rfl
      have hleq := hlev q
      have hml : v / 27 ^ q % 27 < 27 := Nat.mod_lt _ (by decide)
      have em : Int.tmod ((v / 27 ^ q : Nat) : Int) 27 = ((v / 27 ^ q % 27 : Nat) : Int) := rfl
      have hdl : done.length + (q + 1) = N := by
        have hh := congrArg List.length hd
        rw [List.length_append, zdn_len, zdn_len] at hh
        exact hh
      have hzr : 0 ≤ zdt 27 96 v q ∧ zdt 27 96 v q < 128 := by
        unfold zdt
        generalize v / 27 ^ q % 27 = dg at *
        omega
      obtain ⟨μ3, e3, h4, f3⟩ := b_write (v := zdt 27 96 v q) H h3 (by rw [List.length_append]; omega) hzr
      have edt : (96 : Int) + ((v / 27 ^ q % 27 : Nat) : Int) = zdt 27 96 v q := rfl
      have esd : Int.tdiv ((27 ^ q : Nat) : Int) 27 = ((zsc 27 q : Nat) : Int) := by
        have e4 : Int.tdiv ((27 ^ q : Nat) : Int) 27 = ((27 ^ q / 27 : Nat) : Int) := rfl
        have e5 : 27 ^ q / 27 = zsc 27 q := zsc_d (b := 27) (by decide) q
        rw [e4, e5]
      rw [esc]
      refine zo_pos (by omega) ?_
      refine zo_neg (by omega) ?_
      refine zo_neg (by decide) ?_
      rw [ht q, w32_n (hlev q) hv31, em, edt, w32_e (show -2147483648 ≤ zdt 27 96 v q ∧ zdt 27 96 v q < 2147483648 by omega)]
      refine zo_ob H.o (by omega) ?_
      refine zo_bn e3 ?_
      refine zo_neg (by decide) ?_
      have hsz : zsc 27 q ≤ 27 ^ q := by
        cases q with
        | zero => exact Nat.zero_le _
        | succ q => exact pw_le (by decide) (by omega)
      rw [esd, w32_e (show -2147483648 ≤ ((zsc 27 q : Nat) : Int) ∧ ((zsc 27 q : Nat) : Int) < 2147483648 by omega)]
      refine ih2 q μ3 ⟨by omega, FO.tr hf f3, done ++ [zdt 27 96 v q], ?_, by rw [← List.append_assoc]; exact h4⟩ (by omega)
      rw [List.append_assoc]
      exact hd
  · have hmore := dg_more (b := 27) (N := N) (k := k) (by decide) (by omega) h2
    have hp1 : 27 ^ (k + 1) ≤ 27 ^ (N - 1) := pw_le (by decide) (by omega)
    have es : ((27 ^ k : Nat) : Int) * 27 = ((27 ^ (k + 1) : Nat) : Int) := by rw [Nat.pow_succ, Int.natCast_mul]; rfl
    refine zo_neg (fun z => absurd (Int.ofNat_lt.mp z) (Nat.not_lt.mpr hmore)) ?_
    rw [es, w32_e (show -2147483648 ≤ ((27 ^ (k + 1) : Nat) : Int) ∧ ((27 ^ (k + 1) : Nat) : Int) < 2147483648 by omega)]
    exact ih (k + 1) (by omega) (by omega)
theorem znb_len {v : Int} (hv : 0 ≤ v ∧ v ≤ 1000000) : 1 ≤ (znb v).length ∧ (znb v).length ≤ 7 ∧ (v ≤ 999 → (znb v).length ≤ 3) := by
  have h := zng_ok (v := v.toNat) (by omega)
  unfold znb
  rw [zdn_len]
  exact ⟨h.1.1, h.1.2, fun z => h.2.2.2 (by omega)⟩
theorem znb_rng {v : Int} : ∀ y, y ∈ znb v → 0 ≤ y ∧ y < 128 := by
  unfold znb
  refine zdn_all _ (fun j _ => ?_)
  have hml : v.toNat / 10 ^ j % 10 < 10 := Nat.mod_lt _ (by decide)
  unfold zdt
  omega
theorem b_writeNumber {v : Int} (H : MSh S m A) (h : LBy μ l m 27 (m + 11)) (hv : 0 ≤ v ∧ v ≤ 1000000) (hl : l.length + 7 ≤ 1800) : ∃ μ', f_X8_writeNumber m v (S, μ) = some (.inl 0, (S, μ')) ∧ (LBy μ' (l ++ znb v) m 27 (m + 11) ∧ FO m μ μ') := by
  obtain ⟨k, rfl⟩ : ∃ k : Nat, v = (k : Int) := ⟨v.toNat, by omega⟩
  have h1 := zng_ok (v := k) (by omega)
  have h2 : (10 : Nat) ^ zng k ≤ 10 ^ 7 := pw_le (by decide) h1.1.2
  have h3 : (10 : Nat) ^ 7 = 10000000 := rfl
  have hnb : znb (k : Int) = zdn (zdt 10 48 k) (zng k) := rfl
  rw [hnb]
  exact b_writeNumber_go H h h1.1.1 h1.2.1 h1.2.2.1 (by omega) (by omega)
theorem b_writeName {nm : List Int} (H : MSh S m A) (h : LBy μ l m 27 (m + 11)) (hn : NOk nm) (hl : l.length + 6 ≤ 1800) : ∃ μ', f_X8_writeName m (zcode 27 nm) (S, μ) = some (.inl 0, (S, μ')) ∧ (LBy μ' (l ++ nm.map (fun v => 96 + v)) m 27 (m + 11) ∧ FO m μ μ') := by
  have h1 := nm_bounds (b := 27) (Or.inl rfl) hn
  have h2 := hn.n
  have h3 : (27 : Nat) ^ nm.length ≤ 27 ^ 6 := pw_le (by decide) h2.2
  have h4 : (27 : Nat) ^ 6 = 387420489 := rfl
  have h5 := nm_digits (b := 27) (by decide) hn
  have e : (((zcode ((27 : Nat) : Int) nm).toNat : Nat) : Int) = zcode 27 nm := Int.toNat_of_nonneg h1.2.2
  obtain ⟨μ1, e1, g1, f1⟩ := b_writeName_go (v := (zcode ((27 : Nat) : Int) nm).toNat) (N := nm.length) H h h2.1 h1.1 h1.2.1 (by omega) (by omega)
  rw [h5] at g1
  rw [e] at e1
  exact ⟨μ1, e1, g1, f1⟩
/-- the class writes a number -/
theorem c_addNumber {v : Int} (Bs : BSh S b n) (h : LBy μ l b 1 (b + 1)) (hv : 0 ≤ v ∧ v ≤ 1000000) (hn : (l.length : Int) + 7 ≤ n) (hn2 : n ≤ 10000) : ∃ μ', f_X0_addNumber b v (S, μ) = some (.inl 0, (S, μ')) ∧ LBy μ' (l ++ znb v) b 1 (b + 1) ∧ FB b μ μ' := by
  obtain ⟨k, rfl⟩ : ∃ k : Nat, v = (k : Int) := ⟨v.toNat, by omega⟩
  obtain ⟨⟨hN1, hN7⟩, h1, h2, -⟩ := zng_ok (v := k) (by omega)
  have hnb : znb (k : Int) = zdn (zdt 10 48 k) (zng k) := rfl
  rw [hnb]
  generalize zng k = N at *
  have ht : ∀ j : Nat, Int.tdiv (k : Int) ((10 ^ j : Nat) : Int) = ((k / 10 ^ j : Nat) : Int) := fun j => rfl
  have hlev : ∀ j : Nat, k / 10 ^ j ≤ k := fun j => Nat.div_le_self _ _
  apply zo_ux
  refine j_X0_addNumber ?_
  have e1 : (1000000000 : Int) = ((zsc 10 10 : Nat) : Int) := rfl
  rw [e1]
  refine zo_l3 (F := fun f (q : Nat) (g : Int) (μ2 : zM) => f_X0_addNumber_5 f b (k : Int) g ((zsc 10 q : Nat) : Int) (S, μ2)) (fun q g μ2 => q ≤ 10 ∧ FB b μ μ2 ∧ ((g = 0 ∧ N ≤ q ∧ LBy μ2 l b 1 (b + 1)) ∨ (g = 1 ∧ q ≤ N ∧ ∃ done, done ++ zdn (zdt 10 48 k) q = zdn (zdt 10 48 k) N ∧ LBy μ2 (l ++ done) b 1 (b + 1)))) (fun q _ _ => q) ?_ zFU 10 0 μ ⟨by omega, FB.rf, Or.inl ⟨rfl, by omega, h⟩⟩ (by show 10 < 1000000; decide)
  rintro f q g μ2 ⟨hq, hf, hor⟩ ih
  refine j_X0_addNumber_5 ?_
  cases q with
  | zero =>
    rcases hor with ⟨_, h3, _⟩ | ⟨_, _, done, hd, h3⟩
    · omega
    · rw [show zdn (zdt 10 48 k) 0 = [] from rfl, List.append_nil] at hd
      rw [hd] at h3
      exact zo_neg (by decide) (zo_rt ⟨μ2, rfl, h3, hf⟩)
  | succ q =>
    have hpq := pw_pos (b := 10) (by decide) q
    have hpq2 : 10 ^ q ≤ 10 ^ 9 := pw_le (b := 10) (by decide) (by omega)
    have hp9 : (10 : Nat) ^ 9 = 1000000000 := rfl
    have esc : ((zsc 10 (q + 1) : Nat) : Int) = ((10 ^ q : Nat) : Int) := rfl
    have hleq := hlev q
    have hml : k / 10 ^ q % 10 < 10 := Nat.mod_lt _ (by decide)
    have em : Int.tmod ((k / 10 ^ q : Nat) : Int) 10 = ((k / 10 ^ q % 10 : Nat) : Int) := rfl
    have esd : w32 (Int.tdiv ((10 ^ q : Nat) : Int) 10) = ((zsc 10 q : Nat) : Int) := by
      have e4 : Int.tdiv ((10 ^ q : Nat) : Int) 10 = ((10 ^ q / 10 : Nat) : Int) := rfl
      have e5 : 10 ^ q / 10 = zsc 10 q := zsc_d (b := 10) (by decide) q
      rw [e4, e5]
      have hsz : zsc 10 q ≤ 10 ^ q := by
        cases q with
        | zero => exact Nat.zero_le _
        | succ q => exact pw_le (by decide) (by omega)
      exact w32_e (by omega)
    -- a digit is written
    have wr : (∃ done, done ++ zdn (zdt 10 48 k) (q + 1) = zdn (zdt 10 48 k) N ∧ LBy μ2 (l ++ done) b 1 (b + 1)) → q + 1 ≤ N → zo (f_X0_addNumber_36 (f_X0_addNumber_5 f) b (k : Int) ((10 ^ q : Nat) : Int) ((k / 10 ^ q % 10 : Nat) : Int) 1 (S, μ2)) (fun r => ∃ μ', r = (.inl 0, (S, μ')) ∧ LBy μ' (l ++ zdn (zdt 10 48 k) N) b 1 (b + 1) ∧ FB b μ μ') := by
      rintro ⟨done, hd, h3⟩ hqN
      have hdl : done.length + (q + 1) = N := by
        have hh := congrArg List.length hd
        rw [List.length_append, zdn_len, zdn_len] at hh
        exact hh
      have hzr : 0 ≤ zdt 10 48 k q ∧ zdt 10 48 k q < 128 := by
        unfold zdt
        generalize k / 10 ^ q % 10 = dg at *
        omega
      obtain ⟨μ3, e3, h4, f3⟩ := c_add2 (v := zdt 10 48 k q) Bs h3 (by rw [List.length_append]; omega) hn2 hzr
      have edt : (48 : Int) + ((k / 10 ^ q % 10 : Nat) : Int) = zdt 10 48 k q := rfl
      refine j_X0_addNumber_36 ?_
      refine zo_neg (by decide) ?_
      rw [edt, w32_e (show -2147483648 ≤ zdt 10 48 k q ∧ zdt 10 48 k q < 2147483648 by omega)]
      refine zo_ob Bs.o (by omega) ?_
      refine zo_bn e3 ?_
      refine j_X0_addNumber_50 ?_
      refine zo_neg (by decide) ?_
      rw [esd]
      refine ih q 1 μ3 ⟨by omega, FB.tr hf f3, Or.inr ⟨rfl, by omega, done ++ [zdt 10 48 k q], ?_, by rw [← List.append_assoc]; exact h4⟩⟩ (by omega)
      rw [List.append_assoc]
      exact hd
    rw [esc]
    refine zo_pos (by omega) ?_
    refine zo_neg (by omega) ?_
    refine zo_neg (by decide) ?_
    rw [ht q, w32_n (hlev q) (show k < 2147483648 by omega), em]
    rcases hor with ⟨hg, h3, h4⟩ | ⟨hg, h3, h4⟩
    · subst hg
      refine zo_pos rfl ?_
      by_cases eq : q + 1 = N
      · have w2 := wr ⟨[], by rw [eq]; rfl, by rw [List.append_nil]; exact h4⟩ (by omega)
        refine zo_ite (fun z => ?_) (fun z => ?_)
        · have hN : N = 1 := by
            refine Classical.byContradiction (fun hN => ?_)
            have ht := dg_top (b := 10) (v := k) (N := N) (by decide) (by omega) h1 (h2.resolve_left hN)
            rw [show N - 1 = q by omega] at ht
            omega
          have hq0 : q = 0 := by omega
          subst hq0
          refine zo_pos rfl ?_
          refine j_X0_addNumber_31 ?_
          exact w2
        · refine j_X0_addNumber_31 ?_
          exact w2
      · have hz := dg_hi (b := 10) (v := k) (N := N) (j := q) (by decide) h1 (by omega)
        have hq1 : 10 ^ 1 ≤ 10 ^ q := pw_le (b := 10) (by decide) (by omega)
        refine zo_pos (by rw [hz]; rfl) ?_
        refine zo_neg (by omega) ?_
        refine j_X0_addNumber_36 ?_
        refine zo_pos rfl ?_
        refine j_X0_addNumber_50 ?_
        refine zo_neg (by decide) ?_
        rw [esd]
        exact ih q 0 μ2 ⟨by omega, hf, Or.inl ⟨rfl, by omega, h4⟩⟩ (by omega)
    · subst hg
      refine zo_neg (by decide) ?_
      refine j_X0_addNumber_31 ?_
      exact wr h4 (by omega)
/-- the class writes a name -/
theorem shr_p {c : Int} {j : Nat} (hj : j < 6) (hc : 0 ≤ c ∧ c < 2147483648) : zand (zshr c (5 * (j : Int))) 31 = ((c.toNat / 32 ^ j % 32 : Nat) : Int) := by
  obtain ⟨k, rfl⟩ : ∃ k : Nat, c = (k : Int) := ⟨c.toNat, by omega⟩
  have h := shr_n hc
  have e : (k : Int).toNat = k := Int.toNat_natCast _
  rw [e]
  have hcs : j = 0 ∨ j = 1 ∨ j = 2 ∨ j = 3 ∨ j = 4 ∨ j = 5 := by omega
  rcases hcs with z | z | z | z | z | z <;> subst z
  · rw [show (5 * ((0 : Nat) : Int)) = 0 from rfl, h.1, and_31 (by omega)]; rfl
  · rw [show (5 * ((1 : Nat) : Int)) = 5 from rfl, h.2.1, and_31 (by omega)]; rfl
  · rw [show (5 * ((2 : Nat) : Int)) = 10 from rfl, h.2.2.1, and_31 (by omega)]; rfl
  · rw [show (5 * ((3 : Nat) : Int)) = 15 from rfl, h.2.2.2.1, and_31 (by omega)]; rfl
  · rw [show (5 * ((4 : Nat) : Int)) = 20 from rfl, h.2.2.2.2.1, and_31 (by omega)]; rfl
  · rw [show (5 * ((5 : Nat) : Int)) = 25 from rfl, h.2.2.2.2.2, and_31 (by omega)]; rfl
theorem c_addName {nm : List Int} (Bs : BSh S b n) (h : LBy μ l b 1 (b + 1)) (hnm : NOk nm) (hn : (l.length : Int) + 6 ≤ n) (hn2 : n ≤ 10000) : ∃ μ', f_X0_addName b (zcode 32 nm) (S, μ) = some (.inl 0, (S, μ')) ∧ LBy μ' (l ++ nm.map (fun v => 96 + v)) b 1 (b + 1) ∧ FB b μ μ' := by
  have h1 : (zcode 32 nm).toNat < 32 ^ nm.length ∧ (nm.length = 1 ∨ 32 ^ (nm.length - 1) ≤ (zcode 32 nm).toNat) ∧ 0 ≤ zcode 32 nm := nm_bounds (b := 32) (Or.inr rfl) hnm
  have h2 := hnm.n
  have h3 : (32 : Nat) ^ nm.length ≤ 32 ^ 6 := pw_le (by decide) h2.2
  have h4 : (32 : Nat) ^ 6 = 1073741824 := rfl
  have h5 : zdn (zdt 32 96 (zcode 32 nm).toNat) nm.length = nm.map (fun v => 96 + v) := nm_digits (b := 32) (by decide) hnm
  have h6 : ∀ j, j < nm.length → 1 ≤ (zcode 32 nm).toNat / 32 ^ j % 32 ∧ (zcode 32 nm).toNat / 32 ^ j % 32 ≤ 26 := by
    intro j hj
    have hm := zdn_mem (D := zdt 32 96 (zcode 32 nm).toNat) nm.length j hj
    rw [h5] at hm
    obtain ⟨u, hu, e⟩ := List.mem_map.mp hm
    have hc := hnm.c u hu
    unfold zdt at e
    omega
  rw [← h5]
  generalize hv : zcode 32 nm = v at *
  generalize nm.length = N at *
  apply zo_ux
  refine j_X0_addName ?_
  have e5 : (5 : Int) = ((6 : Nat) : Int) - 1 := rfl
  rw [e5]
  refine zo_l2 (F := fun f (q : Nat) (μ2 : zM) => f_X0_addName_2 f b v ((q : Int) - 1) (S, μ2)) (fun q μ2 => q ≤ 6 ∧ FB b μ μ2 ∧ ∃ done, done ++ zdn (zdt 32 96 v.toNat) (min q N) = zdn (zdt 32 96 v.toNat) N ∧ LBy μ2 (l ++ done) b 1 (b + 1)) (fun q _ => q) ?_ zFU 6 μ ⟨by omega, FB.rf, [], by rw [Nat.min_eq_right (by omega)]; rfl, by rw [List.append_nil]; exact h⟩ (by show 6 < 1000000; decide)
  rintro f q μ2 ⟨hq, hf, done, hd, h7⟩ ih
  refine j_X0_addName_2 ?_
  cases q with
  | zero =>
    rw [Nat.min_eq_left (Nat.zero_le _), show zdn (zdt 32 96 v.toNat) 0 = [] from rfl, List.append_nil] at hd
    rw [hd] at h7
    exact zo_pos (by decide) (zo_rt ⟨μ2, rfl, h7, hf⟩)
  | succ q =>
    have eq : ((q + 1 : Nat) : Int) - 1 = (q : Int) := by omega
    have e6 : w32 ((q : Int) * 5) = 5 * (q : Int) := by rw [w32_e (by omega)]; omega
    have e7 : w32 ((q : Int) + (-1)) = (q : Int) - 1 := w32_e (by omega)
    rw [eq]
    refine zo_neg (by omega) ?_
    rw [e6, shr_p (by omega) (by omega)]
    by_cases eN : q < N
    · have h8 := h6 q eN
      rw [Nat.min_eq_left (by omega)] at hd
      have hdl : done.length + (q + 1) = N := by
        have hh := congrArg List.length hd
        rw [List.length_append, zdn_len, zdn_len] at hh
        exact hh
      obtain ⟨μ3, e3, h9, f3⟩ := c_add2 (v := zdt 32 96 v.toNat q) Bs h7 (by rw [List.length_append]; omega) hn2 (by unfold zdt; omega)
      have edt : w32 (w32 (97 + ((v.toNat / 32 ^ q % 32 : Nat) : Int)) - 1) = zdt 32 96 v.toNat q := by
        rw [w32_e (z := 97 + ((v.toNat / 32 ^ q % 32 : Nat) : Int)) (by omega), w32_e (by omega)]
        unfold zdt
        omega
      refine zo_neg (by omega) ?_
      rw [edt]
      refine zo_ob Bs.o (by omega) ?_
      refine zo_bn e3 ?_
      refine j_X0_addName_29 ?_
      rw [e7]
      refine ih q μ3 ⟨by omega, FB.tr hf f3, done ++ [zdt 32 96 v.toNat q], ?_, by rw [← List.append_assoc]; exact h9⟩ (by omega)
      rw [List.append_assoc, Nat.min_eq_left (by omega)]
      exact hd
    · have hz := dg_hi (b := 32) (v := v.toNat) (N := N) (j := q) (by decide) h1.1 (by omega)
      refine zo_pos (by rw [hz]; rfl) ?_
      refine j_X0_addName_29 ?_
      rw [e7]
      refine ih q μ2 ⟨by omega, hf, done, ?_, h7⟩ (by omega)
      rw [Nat.min_eq_right (by omega)]
      rw [Nat.min_eq_right (by omega)] at hd
      exact hd
end C74
