/-! C 69: bottlenecks, properties, messages -/
/-- one of a table -/
theorem zo_tb {Q : zR × zS → Prop} {a : Int} {A d : zFn} : ∀ (As : List zFn) (lo : Int) (i : Nat), As[i]? = some A → a = lo + (i : Int) → zo A Q → zo (ztb a lo As d) Q
  | [], lo, i, h, _, _ => by simp at h
  | X :: As, lo, 0, h, ha, q => by
    have e : X = A := by simpa using h
    subst e
    show zo (if a = lo then X else ztb a (lo + 1) As d) Q
    exact zo_pos (by omega) q
  | X :: As, lo, i + 1, h, ha, q => by
    show zo (if a = lo then X else ztb a (lo + 1) As d) Q
    exact zo_neg (by omega) (zo_tb As (lo + 1) i (by simpa using h) (by omega) q)
theorem zo_td {Q : zR × zS → Prop} {a : Int} {d : zFn} : ∀ (As : List zFn) (lo : Int) (n : Nat), As.length = n → lo + (n : Int) ≤ a → zo d Q → zo (ztb a lo As d) Q
  | [], lo, _, _, _, q => q
  | X :: As, lo, 0, hn, _, _ => by simp at hn
  | X :: As, lo, n + 1, hn, h, q => by
    show zo (if a = lo then X else ztb a (lo + 1) As d) Q
    exact zo_neg (by omega) (zo_td As (lo + 1) n (by simpa using hn) (by omega) q)
theorem lk_half (f : Nat → Nat → Int) (hs : ∀ i j, f i j = f j i) (hd : ∀ i, f i i = 0) (h0 : ∀ i j, 0 ≤ f i j) : ∀ N : Nat, N ≤ 6 → Int.tdiv (zlp (fun i c => c + zlp (fun j c => c + f i j) 0 N 0) 0 N 0) 2 = zlp (fun i c => zlp (fun k c => c + f i (i + 1 + k)) 0 (N - (i + 1)) c) 0 N 0 := by
  intro N hN
  have hc : N = 0 ∨ N = 1 ∨ N = 2 ∨ N = 3 ∨ N = 4 ∨ N = 5 ∨ N = 6 := by omega
  rcases hc with z | z | z | z | z | z | z <;> subst z
  · show Int.tdiv ((0 : Int)) 2 = (0 : Int)
    rw [Int.tdiv_eq_ediv_of_nonneg (by omega)]
    omega
  · show Int.tdiv ((0 : Int) + ((0 : Int) + f 0 0)) 2 = (0 : Int)
    have d0 := hd 0
    rw [Int.tdiv_eq_ediv_of_nonneg (by omega)]
    omega
  · show Int.tdiv ((0 : Int) + ((0 : Int) + f 0 0 + f 0 1) + ((0 : Int) + f 1 0 + f 1 1)) 2 = (0 : Int) + f 0 1
    have d0 := hd 0
    have s01 := hs 0 1
    have p01 := h0 0 1
    have d1 := hd 1
    rw [Int.tdiv_eq_ediv_of_nonneg (by omega)]
    omega
  · show Int.tdiv ((0 : Int) + ((0 : Int) + f 0 0 + f 0 1 + f 0 2) + ((0 : Int) + f 1 0 + f 1 1 + f 1 2) + ((0 : Int) + f 2 0 + f 2 1 + f 2 2)) 2 = (0 : Int) + f 0 1 + f 0 2 + f 1 2
    have d0 := hd 0
    have s01 := hs 0 1
    have p01 := h0 0 1
    have s02 := hs 0 2
    have p02 := h0 0 2
    have d1 := hd 1
    have s12 := hs 1 2
    have p12 := h0 1 2
    have d2 := hd 2
    rw [Int.tdiv_eq_ediv_of_nonneg (by omega)]
    omega
  · show Int.tdiv ((0 : Int) + ((0 : Int) + f 0 0 + f 0 1 + f 0 2 + f 0 3) + ((0 : Int) + f 1 0 + f 1 1 + f 1 2 + f 1 3) + ((0 : Int) + f 2 0 + f 2 1 + f 2 2 + f 2 3) + ((0 : Int) + f 3 0 + f 3 1 + f 3 2 + f 3 3)) 2 = (0 : Int) + f 0 1 + f 0 2 + f 0 3 + f 1 2 + f 1 3 + f 2 3
    have d0 := hd 0
    have s01 := hs 0 1
    have p01 := h0 0 1
    have s02 := hs 0 2
    have p02 := h0 0 2
    have s03 := hs 0 3
    have p03 := h0 0 3
    have d1 := hd 1
    have s12 := hs 1 2
    have p12 := h0 1 2
    have s13 := hs 1 3
    have p13 := h0 1 3
    have d2 := hd 2
    have s23 := hs 2 3
    have p23 := h0 2 3
    have d3 := hd 3
    rw [Int.tdiv_eq_ediv_of_nonneg (by omega)]
    omega
  · show Int.tdiv ((0 : Int) + ((0 : Int) + f 0 0 + f 0 1 + f 0 2 + f 0 3 + f 0 4) + ((0 : Int) + f 1 0 + f 1 1 + f 1 2 + f 1 3 + f 1 4) + ((0 : Int) + f 2 0 + f 2 1 + f 2 2 + f 2 3 + f 2 4) + ((0 : Int) + f 3 0 + f 3 1 + f 3 2 + f 3 3 + f 3 4) + ((0 : Int) + f 4 0 + f 4 1 + f 4 2 + f 4 3 + f 4 4)) 2 = (0 : Int) + f 0 1 + f 0 2 + f 0 3 + f 0 4 + f 1 2 + f 1 3 + f 1 4 + f 2 3 + f 2 4 + f 3 4
    have d0 := hd 0
    have s01 := hs 0 1
    have p01 := h0 0 1
    have s02 := hs 0 2
    have p02 := h0 0 2
    have s03 := hs 0 3
    have p03 := h0 0 3
    have s04 := hs 0 4
    have p04 := h0 0 4
    have d1 := hd 1
    have s12 := hs 1 2
    have p12 := h0 1 2
    have s13 := hs 1 3
    have p13 := h0 1 3
    have s14 := hs 1 4
    have p14 := h0 1 4
    have d2 := hd 2
    have s23 := hs 2 3
    have p23 := h0 2 3
    have s24 := hs 2 4
    have p24 := h0 2 4
    have d3 := hd 3
    have s34 := hs 3 4
    have p34 := h0 3 4
    have d4 := hd 4
    rw [Int.tdiv_eq_ediv_of_nonneg (by omega)]
    omega
  · show Int.tdiv ((0 : Int) + ((0 : Int) + f 0 0 + f 0 1 + f 0 2 + f 0 3 + f 0 4 + f 0 5) + ((0 : Int) + f 1 0 + f 1 1 + f 1 2 + f 1 3 + f 1 4 + f 1 5) + ((0 : Int) + f 2 0 + f 2 1 + f 2 2 + f 2 3 + f 2 4 + f 2 5) + ((0 : Int) + f 3 0 + f 3 1 + f 3 2 + f 3 3 + f 3 4 + f 3 5) + ((0 : Int) + f 4 0 + f 4 1 + f 4 2 + f 4 3 + f 4 4 + f 4 5) + ((0 : Int) + f 5 0 + f 5 1 + f 5 2 + f 5 3 + f 5 4 + f 5 5)) 2 = (0 : Int) + f 0 1 + f 0 2 + f 0 3 + f 0 4 + f 0 5 + f 1 2 + f 1 3 + f 1 4 + f 1 5 + f 2 3 + f 2 4 + f 2 5 + f 3 4 + f 3 5 + f 4 5
    have d0 := hd 0
    have s01 := hs 0 1
    have p01 := h0 0 1
    have s02 := hs 0 2
    have p02 := h0 0 2
    have s03 := hs 0 3
    have p03 := h0 0 3
    have s04 := hs 0 4
    have p04 := h0 0 4
    have s05 := hs 0 5
    have p05 := h0 0 5
    have d1 := hd 1
    have s12 := hs 1 2
    have p12 := h0 1 2
    have s13 := hs 1 3
    have p13 := h0 1 3
    have s14 := hs 1 4
    have p14 := h0 1 4
    have s15 := hs 1 5
    have p15 := h0 1 5
    have d2 := hd 2
    have s23 := hs 2 3
    have p23 := h0 2 3
    have s24 := hs 2 4
    have p24 := h0 2 4
    have s25 := hs 2 5
    have p25 := h0 2 5
    have d3 := hd 3
    have s34 := hs 3 4
    have p34 := h0 3 4
    have s35 := hs 3 5
    have p35 := h0 3 5
    have d4 := hd 4
    have s45 := hs 4 5
    have p45 := h0 4 5
    have d5 := hd 5
    rw [Int.tdiv_eq_ediv_of_nonneg (by omega)]
    omega
section C69
variable {S S' : zG} {μ μ' μ1 : zM} {x m d B A a o t : Int} {M M' : zD} {L : List zD} {K : zKs} {P : zG → zM → Prop} {Q : zR × zS → Prop}
theorem shl_rng (a b : Int) : -2147483648 ≤ zshl a b ∧ zshl a b < 2147483648 := by
  unfold zshl
  have h1 := Int32.le_toInt (Int32.ofInt a <<< (Int32.ofInt b &&& 31))
  have h2 := Int32.toInt_lt (Int32.ofInt a <<< (Int32.ofInt b &&& 31))
  omega
/-- the model's way to reach: all 36 pairs -/
noncomputable def zpq (M : zD) (t s : Int) (q : Nat) (c : Int) : Int := zrsp M t s (q / 6) (q % 6) c
theorem zlp_cong {α : Type} {f g : Nat → α → α} (h : ∀ k c, f k c = g k c) (n k : Nat) (c : α) : zlp f k n c = zlp g k n c := by
  have e : f = g := by
    funext k c
    exact h k c
  rw [e]
theorem zlp_36 {f : Nat → Int → Int} {c : Int} : zlp f 0 36 c = zlp (fun i c => zlp (fun j c => f (6 * i + j) c) 0 6 c) 0 6 c := rfl
theorem pr_rch {s : Int} (W : WF B M) (ht : 0 ≤ t) : zlp (zpq M t s) 0 36 s = M.rch t s := by
  have h60 := W.al
  have out : ∀ i j : Nat, (M.an.length ≤ i ∨ M.an.length ≤ j) → M.T (i : Int) (j : Int) < t := by
    intro i j hij
    by_cases e : M.T (i : Int) (j : Int) = -1
    · omega
    · have := W.Ta _ _ e
      omega
  have h1 : ∀ i : Nat, i < 6 → ∀ c, zlp (fun j c => zpq M t s (6 * i + j) c) 0 6 c = zlp (zrsp M t s i) 0 M.an.length c := by
    intro i hi c
    have e1 : zlp (fun j c => zpq M t s (6 * i + j) c) 0 6 c = zlp (zrsp M t s i) 0 6 c := by
      refine (zlp_cg (I := fun _ _ => True) (N := 6) True.intro (fun k c hk _ => ⟨?_, True.intro⟩) 6 (Nat.le_refl _)).1
      show zrsp M t s ((6 * i + k) / 6) ((6 * i + k) % 6) c = zrsp M t s i k c
      rw [show (6 * i + k) / 6 = i by omega, show (6 * i + k) % 6 = k by omega]
    rw [e1]
    exact zlp_cut (fun k c hk => rsp_n (fun z => z.2 (out i k (Or.inr hk)))) h60 c
  rw [zlp_36]
  have e2 := (zlp_cg (f := fun i c => zlp (fun j c => zpq M t s (6 * i + j) c) 0 6 c) (g := fun i c => zlp (zrsp M t s i) 0 M.an.length c) (I := fun _ _ => True) (N := 6) (c := s) True.intro (fun k c hk _ => ⟨h1 k hk c, True.intro⟩) 6 (Nat.le_refl _)).1
  rw [e2]
  refine zlp_cut (fun k c hk => ?_) h60 s
  show zlp (zrsp M t s k) 0 M.an.length c = c
  refine zlp_fix (fun j => ?_) _ 0
  exact rsp_n (fun z => z.2 (out k j (Or.inl hk)))
noncomputable def zD.rc6 (M : zD) (t s : Int) : Int := zlp (fun _ s => M.rch t s) 0 6 s
theorem b_reaches (H : MSh S m (m + 1)) (h : D8 (μ (m + 1)) M) (W : WF B M) (ht : 0 ≤ t) : f_X8_reaches m a o t (S, μ) = some (.inl (zbl (zand (zshr (M.rc6 t (zshl 1 a)) o) 1 = 1)), (S, μ)) := by
  apply zo_un
  refine j_X8_reaches ?_
  refine zo_fon (F := fun n (k : Nat) (s : Int) => f_X8_reaches_8 n m o t s (k : Int) (S, μ)) (N := 6) (st := fun _ s => M.rch t s) (c0 := zshl 1 a) (fun _ c => -2147483648 ≤ c ∧ c < 2147483648) ?_ (shl_rng _ _) (by show 6 < 1000000; decide)
  intro n k s hk hs ih fin
  refine j_X8_reaches_8 ?_
  by_cases e : k < 6
  · have ih := ih e
    refine zo_pos (by omega) ?_
    refine zo_fon (F := fun n2 (q : Nat) (c : Int) => f_X8_reaches_22 (f_X8_reaches_8 n) n2 m o t s (k : Int) c (q : Int) (S, μ)) (N := 36) (st := zpq M t s) (c0 := s) (fun _ c => -2147483648 ≤ c ∧ c < 2147483648) ?_ hs (by show 36 < 1000000; decide)
    intro n2 q c hq hc ih2 fin2
    refine j_X8_reaches_22 ?_
    by_cases e2 : q < 36
    · have ih2 := ih2 e2
      have eq1 : w32 (Int.tdiv (q : Int) 6) = ((q / 6 : Nat) : Int) := w32_e (by show -2147483648 ≤ ((q / 6 : Nat) : Int) ∧ ((q / 6 : Nat) : Int) < 2147483648; omega)
      have eq2 : Int.tmod (q : Int) 6 = ((q % 6 : Nat) : Int) := rfl
      have no : zpq M t s q c = c → zo (f_X8_reaches_61 (f_X8_reaches_8 n) (f_X8_reaches_22 (f_X8_reaches_8 n) n2) m o t s (k : Int) c (q : Int) (S, μ)) (fun r => r = (.inl (zbl (zand (zshr (M.rc6 t (zshl 1 a)) o) 1 = 1)), (S, μ))) := by
        intro ec
        rw [ec] at ih2
        refine j_X8_reaches_61 ?_
        refine j_X8_reaches_62 ?_
        refine zo_pos rfl ?_
        refine j_X8_reaches_82 ?_
        rw [w32_s (k := q) (by omega), zor_0 hc]
        exact ih2 hc
      refine zo_pos (by omega) ?_
      refine zo_neg (by decide) ?_
      rw [eq1]
      refine zo_ite (fun z => ?_) (fun z => no (rsp_n (fun y => z y.1)))
      refine zo_gr H.o H.r1 (by omega) (by omega) ?_
      rw [w32_e (show -2147483648 ≤ 21 + (q : Int) ∧ 21 + (q : Int) < 2147483648 by omega)]
      refine zo_ld H.a1 (by omega) (v := M.T ((q / 6 : Nat) : Int) ((q % 6 : Nat) : Int)) ?_ ?_
      · rw [← h.T ((q / 6 : Nat) : Int) ((q % 6 : Nat) : Int) (by omega) (by omega) (by omega) (by omega)]
        exact congrArg (μ (m + 1)) (by omega)
      refine zo_ite (fun y => no (rsp_n (fun w => w.2 y))) (fun y => ?_)
      have ec : zpq M t s q c = zor c (zshl 1 ((q % 6 : Nat) : Int)) := rsp_p z y
      rw [ec] at ih2
      refine j_X8_reaches_62 ?_
      refine zo_neg (by decide) ?_
      refine zo_neg (by decide) ?_
      refine j_X8_reaches_82 ?_
      rw [w32_s (k := q) (by omega), eq2]
      exact ih2 (zor_rng _ _)
    · refine zo_neg (by omega) ?_
      refine j_X8_reaches_91 ?_
      have e9 := fin2 (by omega)
      rw [pr_rch W ht] at e9
      subst e9
      rw [w32_s (k := k) (by omega)]
      exact ih hc
  · refine zo_neg (by omega) ?_
    refine j_X8_reaches_101 ?_
    have e9 : M.rc6 t (zshl 1 a) = s := fin (by omega)
    rw [e9]
    refine zo_ite (fun z => zo_rt (by rw [zbl_p z])) (fun z => zo_rt (by rw [zbl_n z]))
noncomputable def zbk (M : zD) (a o : Int) : Nat → Int
  | 0 => -1
  | n + 1 => @ite _ (zand (zshr (M.rc6 (n : Int) (zshl 1 a)) o) 1 = 1) (Classical.propDecidable _) (n : Int) (zbk M a o n)
theorem bk_p {n : Nat} (h : zand (zshr (M.rc6 (n : Int) (zshl 1 a)) o) 1 = 1) : zbk M a o (n + 1) = (n : Int) := if_pos h
theorem bk_n {n : Nat} (h : ¬ zand (zshr (M.rc6 (n : Int) (zshl 1 a)) o) 1 = 1) : zbk M a o (n + 1) = zbk M a o n := if_neg h
theorem bk_rng : ∀ n, -1 ≤ zbk M a o n ∧ zbk M a o n ≤ (n : Int) := by
  intro n
  induction n with
  | zero => exact ⟨by show (-1 : Int) ≤ -1; decide, by show (-1 : Int) ≤ 0; decide⟩
  | succ n ih =>
    by_cases h : zand (zshr (M.rc6 (n : Int) (zshl 1 a)) o) 1 = 1
    · rw [bk_p h]; omega
    · rw [bk_n h]; omega
theorem b_bottle (H : MSh S m (m + 1)) (h : D8 (μ (m + 1)) M) (W : WF B M) : zo (f_X8_bottleneck_18 zFU m a o 10 (S, μ)) (fun r => r = (.inl (zbk M a o 11), (S, μ))) := by
  have e10 : (10 : Int) = ((11 : Nat) : Int) - 1 := rfl
  rw [e10]
  refine zo_l1 (F := fun n (k : Nat) => f_X8_bottleneck_18 n m a o ((k : Int) - 1) (S, μ)) (fun k => k ≤ 11 ∧ zbk M a o k = zbk M a o 11) (fun k => k) ?_ zFU 11 ⟨by omega, rfl⟩ (by show 11 < 1000000; decide)
  rintro n k ⟨hk, hz⟩ ih
  refine j_X8_bottleneck_18 ?_
  cases k with
  | zero =>
    refine zo_pos (by decide) ?_
    have hz : -1 = zbk M a o 11 := hz
    exact zo_rt (by rw [← hz]; rfl)
  | succ k =>
    have ek : ((k + 1 : Nat) : Int) - 1 = (k : Int) := by omega
    rw [ek]
    refine zo_neg (by omega) ?_
    refine zo_ob H.o (by omega) ?_
    refine zo_bn (b_reaches H h W (by omega)) ?_
    refine zo_zb (fun z => ?_) (fun z => ?_)
    · rw [bk_n z] at hz
      rw [w32_e (show -2147483648 ≤ (k : Int) + (-1) ∧ (k : Int) + (-1) < 2147483648 by omega)]
      exact ih k ⟨by omega, hz⟩ (by omega)
    · rw [bk_p z] at hz
      exact zo_rt (by rw [hz])
theorem c_bottle (C : CB S x) (D : D7 S μ (x + 12) M) : zo (f_X7_bottleneck_13 zFU x a o 10 (S, μ)) (fun r => r = (.inl (zbk M a o 11), (S, μ))) := by
  have e10 : (10 : Int) = ((11 : Nat) : Int) - 1 := rfl
  rw [e10]
  refine zo_l1 (F := fun n (k : Nat) => f_X7_bottleneck_13 n x a o ((k : Int) - 1) (S, μ)) (fun k => k ≤ 11 ∧ zbk M a o k = zbk M a o 11) (fun k => k) ?_ zFU 11 ⟨by omega, rfl⟩ (by show 11 < 1000000; decide)
  rintro n k ⟨hk, hz⟩ ih
  refine j_X7_bottleneck_13 ?_
  cases k with
  | zero =>
    refine zo_pos (by decide) ?_
    have hz : -1 = zbk M a o 11 := hz
    exact zo_rt (by rw [← hz])
  | succ k =>
    have ek : ((k + 1 : Nat) : Int) - 1 = (k : Int) := by omega
    rw [ek]
    refine zo_neg (by omega) ?_
    refine zo_fon (F := fun n2 (q : Nat) (c : Int) => f_X7_bottleneck_25 (f_X7_bottleneck_13 n) n2 x a o (k : Int) c (q : Int) (S, μ)) (N := 6) (st := fun _ s => M.rch (k : Int) s) (c0 := zshl 1 a) (fun _ _ => True) ?_ True.intro (by show 6 < 1000000; decide)
    intro n2 q c hq _ ih2 fin2
    refine j_X7_bottleneck_25 ?_
    by_cases e2 : q < 6
    · refine zo_pos (by omega) ?_
      refine zo_gr C.o C.r3 (by omega) (by omega) ?_
      refine zo_ob D.sh.o (by omega) ?_
      refine zo_bn (d_reachedFrom D) ?_
      rw [w32_s (k := q) (by omega)]
      exact ih2 e2 True.intro
    · refine zo_neg (by omega) ?_
      refine j_X7_bottleneck_50 ?_
      have e9 : M.rc6 (k : Int) (zshl 1 a) = c := fin2 (by omega)
      refine zo_bn c_cont2 ?_
      rw [← e9]
      refine zo_zb (fun z => ?_) (fun z => ?_)
      · rw [bk_n z] at hz
        rw [w32_e (show -2147483648 ≤ (k : Int) + (-1) ∧ (k : Int) + (-1) < 2147483648 by omega)]
        exact ih k ⟨by omega, hz⟩ (by omega)
      · rw [bk_p z] at hz
        exact zo_rt (by rw [hz])
/-- the most trusted -/
noncomputable def zmts (M : zD) (a : Int) (k : Nat) (b : Int) : Int := @ite _ (¬ M.T a (k : Int) = -1 ∧ (b = -1 ∨ M.T a b < M.T a (k : Int))) (Classical.propDecidable _) (k : Int) b
theorem mts_p {b : Int} {k : Nat} (h1 : ¬ M.T a (k : Int) = -1) (h2 : b = -1 ∨ M.T a b < M.T a (k : Int)) : zmts M a k b = (k : Int) := if_pos ⟨h1, h2⟩
theorem mts_n {b : Int} {k : Nat} (h : ¬ (¬ M.T a (k : Int) = -1 ∧ (b = -1 ∨ M.T a b < M.T a (k : Int)))) : zmts M a k b = b := if_neg h
noncomputable def zD.mtr (M : zD) (a : Int) : Int := zlp (zmts M a) 0 M.an.length (-1)
theorem mtr_rng (h6 : M.an.length ≤ 6) : -1 ≤ M.mtr a ∧ M.mtr a < 6 := by
  unfold zD.mtr
  refine zlp_inv (P := fun c : Int => -1 ≤ c ∧ c < 6) (N := M.an.length) ?_ _ 0 (-1) (by omega) (by decide)
  intro k c hk hc
  unfold zmts
  split
  · omega
  · exact hc
noncomputable def zgt (M : zD) (a b : Int) : Int := if b = -1 then -1 else M.T a b
theorem gt_n {b : Int} (h : ¬ b = -1) : zgt M a b = M.T a b := if_neg h
theorem gt_p {b : Int} (h : b = -1) : zgt M a b = -1 := if_pos h
theorem c_mostTr (C : CB S x) (D : D7 S μ (x + 12) M) (W : WF B M) (ha : 0 ≤ a ∧ a < 6) : zo (f_X7_mostTrusted_12 zFU x a (-1) (-1) 0 (S, μ)) (fun r => r = (.inl (M.mtr a), (S, μ))) := by
  have h60 := D.al
  refine zo_fon (F := fun n (k : Nat) (c : Int) => f_X7_mostTrusted_12 n x a c (zgt M a c) (k : Int) (S, μ)) (N := M.an.length) (st := zmts M a) (c0 := -1) (fun k c => c = -1 ∨ (0 ≤ c ∧ c < (k : Int))) ?_ (Or.inl rfl) (by show M.an.length < 1000000; omega)
  intro n k c hk hc ih fin
  refine j_X7_mostTrusted_12 ?_
  refine zo_gr C.o C.r3 (by omega) (by omega) ?_
  refine zo_gr D.sh.o D.sh.r1 (by omega) (by omega) ?_
  refine zo_gf D.sh.ag.o D.an0 (by omega) (by omega) ?_
  by_cases e : k < M.an.length
  · have ih := ih e
    have hT := W.Tr a (k : Int)
    refine zo_pos (by omega) ?_
    refine zo_gr C.o C.r3 (by omega) (by omega) ?_
    refine zo_ob D.sh.o (by omega) ?_
    refine zo_bn (d_trustIn D ha (by omega)) ?_
    have hg : -1 ≤ zgt M a c ∧ (c = -1 → zgt M a c = -1) ∧ (¬ c = -1 → zgt M a c = M.T a c) := by
      refine ⟨?_, fun z => gt_p z, fun z => gt_n z⟩
      by_cases z : c = -1
      · rw [gt_p z]; decide
      · rw [gt_n z]; exact (W.Tr a c).1
    refine zo_ite (fun z => ?_) (fun z => ?_)
    · have es : zmts M a k c = (k : Int) := mts_p (by omega) (by
        by_cases y : c = -1
        · exact Or.inl y
        · have := hg.2.2 y; exact Or.inr (by omega))
      rw [es, gt_n (show ¬ (k : Int) = -1 by omega)] at ih
      refine j_X7_mostTrusted_51 ?_
      rw [w32_s (k := k) (by omega)]
      exact ih (Or.inr (by omega))
    · have es : zmts M a k c = c := mts_n (fun w => by
        rcases w.2 with y | y
        · have := hg.2.1 y; omega
        · by_cases y2 : c = -1
          · have := hg.2.1 y2; omega
          · have := hg.2.2 y2; omega)
      rw [es] at ih
      refine j_X7_mostTrusted_51 ?_
      rw [w32_s (k := k) (by omega)]
      exact ih (by omega)
  · refine zo_neg (by omega) ?_
    exact zo_rt (by rw [← fin (by omega)]; rfl)
theorem b_mostTr (H : MSh S m A) (h : D8 (μ A) M) (ha : 0 ≤ a ∧ a < 6) : zo (f_X8_mostTrusted_18 zFU m a (-1) 0 (S, μ)) (fun r => r = (.inl (M.mtr a), (S, μ))) := by
  have h60 := h.al
  refine zo_fon (F := fun n (k : Nat) (c : Int) => f_X8_mostTrusted_18 n m a c (k : Int) (S, μ)) (N := M.an.length) (st := zmts M a) (c0 := -1) (fun k c => c = -1 ∨ (0 ≤ c ∧ c < (k : Int))) ?_ (Or.inl rfl) (by show M.an.length < 1000000; omega)
  intro n k c hk hc ih fin
  refine j_X8_mostTrusted_18 ?_
  refine zo_ob H.o (by omega) ?_
  refine zo_bn (b_agents H h) ?_
  by_cases e : k < M.an.length
  · have ih := ih e
    have yes : zmts M a k c = (k : Int) → zo (f_X8_mostTrusted_55 (f_X8_mostTrusted_18 n) m a (k : Int) (S, μ)) (fun r => r = (.inl (M.mtr a), (S, μ))) := by
      intro es
      rw [es] at ih
      refine j_X8_mostTrusted_55 ?_
      refine j_X8_mostTrusted_57 ?_
      rw [w32_s (k := k) (by omega)]
      exact ih (Or.inr (by omega))
    have no : zmts M a k c = c → zo (f_X8_mostTrusted_57 (f_X8_mostTrusted_18 n) m a c (k : Int) (S, μ)) (fun r => r = (.inl (M.mtr a), (S, μ))) := by
      intro es
      rw [es] at ih
      refine j_X8_mostTrusted_57 ?_
      rw [w32_s (k := k) (by omega)]
      exact ih (by omega)
    refine zo_pos (by omega) ?_
    refine zo_ob H.o (by omega) ?_
    refine zo_bn (b_areLinked H h ha (by omega)) ?_
    refine zo_zb (fun z => no (mts_n (fun w => z w.1))) (fun z => ?_)
    refine zo_ite (fun y => yes (mts_p z (Or.inl y))) (fun y => ?_)
    refine zo_ob H.o (by omega) ?_
    refine zo_bn (b_trustOf H h ha (by omega)) ?_
    refine zo_ob H.o (by omega) ?_
    refine zo_bn (b_trustOf H h ha (show 0 ≤ c ∧ c < 6 by omega)) ?_
    refine zo_ite (fun w => yes (mts_p z (Or.inr w))) (fun w => no (mts_n (fun u => ?_)))
    rcases u.2 with v | v
    · exact y v
    · exact w v
  · refine zo_neg (by omega) ?_
    exact zo_rt (by rw [← fin (by omega)]; rfl)
/-- the links -/
noncomputable def zD.lks (M : zD) : Int := zlp (fun i c => zlp (fun k c => c + zlk M i (i + 1 + k)) 0 (M.an.length - (i + 1)) c) 0 M.an.length 0
theorem lk_01 (M : zD) (i j : Nat) : 0 ≤ zlk M i j ∧ zlk M i j ≤ 1 := by
  unfold zlk
  split <;> omega
theorem lks_in (M : zD) (i : Nat) (c : Int) : ∀ n, c ≤ zlp (fun k c => c + zlk M i (i + 1 + k)) 0 n c ∧ zlp (fun k c => c + zlk M i (i + 1 + k)) 0 n c ≤ c + n := by
  intro n
  induction n with
  | zero => exact ⟨Int.le_refl _, by show c ≤ c + ((0 : Nat) : Int); omega⟩
  | succ n ih =>
    have h := lk_01 M i (i + 1 + n)
    rw [zlp_s0]
    omega
theorem lks_rng (h6 : M.an.length ≤ 6) : 0 ≤ M.lks ∧ M.lks ≤ 36 := by
  have key : ∀ n, n ≤ 6 → 0 ≤ zlp (fun i c => zlp (fun k c => c + zlk M i (i + 1 + k)) 0 (M.an.length - (i + 1)) c) 0 n 0 ∧ zlp (fun i c => zlp (fun k c => c + zlk M i (i + 1 + k)) 0 (M.an.length - (i + 1)) c) 0 n 0 ≤ 6 * (n : Int) := by
    intro n
    induction n with
    | zero => intro _; exact ⟨Int.le_refl _, by show (0 : Int) ≤ 6 * ((0 : Nat) : Int); omega⟩
    | succ n ih =>
      intro hn
      have h1 := ih (by omega)
      have h2 := lks_in M n (zlp (fun i c => zlp (fun k c => c + zlk M i (i + 1 + k)) 0 (M.an.length - (i + 1)) c) 0 n 0) (M.an.length - (n + 1))
      rw [zlp_s0]
      omega
  have h := key M.an.length h6
  unfold zD.lks
  omega
theorem d_linkCount (D : D7 S μ d M) : f_X1_linkCount d (S, μ) = some (.inl M.lks, (S, μ)) := by
  have h60 := D.al
  apply zo_un
  refine j_X1_linkCount ?_
  refine zo_fon (F := fun n (k : Nat) (c : Int) => f_X1_linkCount_4 n d c (k : Int) (S, μ)) (N := M.an.length) (st := fun i c => zlp (fun k c => c + zlk M i (i + 1 + k)) 0 (M.an.length - (i + 1)) c) (c0 := 0) (fun k c => 0 ≤ c ∧ c ≤ 6 * (k : Int)) ?_ (by decide) (by show M.an.length < 1000000; omega)
  intro n i c hi hc ih fin
  refine j_X1_linkCount_4 ?_
  refine zo_gr D.sh.o D.sh.r1 (by omega) (by omega) ?_
  refine zo_gf D.sh.ag.o D.an0 (by omega) (by omega) ?_
  by_cases e : i < M.an.length
  · have ih := ih e
    refine zo_pos (by omega) ?_
    have e1 : w32 ((i : Int) + 1) = ((i + 1 + 0 : Nat) : Int) := by rw [w32_e (by omega)]; rfl
    rw [e1]
    refine zo_fon (F := fun n2 (k : Nat) (c : Int) => f_X1_linkCount_19 (f_X1_linkCount_4 n) n2 d c (i : Int) ((i + 1 + k : Nat) : Int) (S, μ)) (N := M.an.length - (i + 1)) (st := fun k c => c + zlk M i (i + 1 + k)) (c0 := c) (fun k c2 => c ≤ c2 ∧ c2 ≤ c + (k : Int)) ?_ ⟨Int.le_refl _, by show c ≤ c + ((0 : Nat) : Int); omega⟩ (by show M.an.length - (i + 1) < 1000000; omega)
    intro n2 k c2 hk hc2 ih2 fin2
    refine j_X1_linkCount_19 ?_
    refine zo_gr D.sh.o D.sh.r1 (by omega) (by omega) ?_
    refine zo_gf D.sh.ag.o D.an0 (by omega) (by omega) ?_
    by_cases e2 : k < M.an.length - (i + 1)
    · have ih2 := ih2 e2
      have e3 : w32 (((i + 1 + k : Nat) : Int) + 1) = ((i + 1 + (k + 1) : Nat) : Int) := by rw [w32_e (by omega)]; rfl
      refine zo_pos (by omega) ?_
      refine zo_ob D.sh.o (by omega) ?_
      refine zo_bn (d_isLinked D (by omega) (by omega)) ?_
      refine zo_zb (fun z => ?_) (fun z => ?_)
      · have es : zlk M i (i + 1 + k) = 0 := if_pos (Classical.not_not.mp z)
        rw [es, Int.add_zero] at ih2
        refine j_X1_linkCount_42 ?_
        rw [e3]
        exact ih2 (by omega)
      · have es : zlk M i (i + 1 + k) = 1 := if_neg z
        rw [es] at ih2
        refine j_X1_linkCount_42 ?_
        rw [e3, w32_e (show -2147483648 ≤ c2 + 1 ∧ c2 + 1 < 2147483648 by omega)]
        exact ih2 (by omega)
    · refine zo_neg (by omega) ?_
      refine j_X1_linkCount_48 ?_
      have e9 := fin2 (by omega)
      subst e9
      rw [w32_s (k := i) (by omega)]
      exact ih (by omega)
  · refine zo_neg (by omega) ?_
    exact zo_rt (by rw [← fin (by omega)]; rfl)
theorem b_links (H : MSh S m A) (h : D8 (μ A) M) (W : WF B M) : f_X8_links m (S, μ) = some (.inl M.lks, (S, μ)) := by
  have h60 := h.al
  apply zo_un
  refine j_X8_links ?_
  refine zo_fon (F := fun n (k : Nat) (c : Int) => f_X8_links_4 n m c (k : Int) (S, μ)) (N := M.an.length) (st := fun i c => c + zlp (fun j c => c + zlk M i j) 0 M.an.length 0) (c0 := 0) (fun k c => 0 ≤ c ∧ c ≤ 6 * (k : Int)) ?_ (by decide) (by show M.an.length < 1000000; omega)
  intro n i c hi hc ih fin
  refine j_X8_links_4 ?_
  refine zo_ob H.o (by omega) ?_
  refine zo_bn (b_agents H h) ?_
  by_cases e : i < M.an.length
  · have ih := ih e
    have e1 := (ngh_ct M i M.an.length h60).2
    have e2 : zcu (M.ngh (i : Int)) = zlp (fun j c => c + zlk M i j) 0 M.an.length 0 := e1
    have e3 := ct_rng (ngh_rng h60 (show 0 ≤ (i : Int) by omega))
    rw [← e2] at ih
    refine zo_pos (by omega) ?_
    refine zo_ob H.o (by omega) ?_
    refine zo_bn (b_neighborsOf H h (by omega)) ?_
    refine zo_bn b_bits ?_
    rw [w32_s (k := i) (by omega), w32_e (by omega)]
    exact ih (by omega)
  · refine zo_neg (by omega) ?_
    refine zo_neg (by decide) ?_
    have e9 := fin (by omega)
    have eh := lk_half (zlk M) (fun i j => by
      unfold zlk
      by_cases z : M.T (i : Int) (j : Int) = -1
      · rw [if_pos z, if_pos (W.Ts _ _ z)]
      · rw [if_neg z, if_neg (fun y => z (W.Ts _ _ y))]) (fun i => if_pos (W.Ti _)) (fun i j => (lk_01 M i j).1) M.an.length h60
    rw [e9] at eh
    have hl := lks_rng h60
    have e8 : Int.tdiv c 2 = M.lks := eh
    exact zo_rt (by rw [e8, w32_e (by omega)])
end C69
noncomputable def zD.prp (M : zD) (w : Int) : Int := if w = 0 then (M.an.length : Int) else if w = 1 then (M.wn.length : Int) else if w = 2 then M.tm else if w = 8 then (M.qu.length : Int) else if w = 9 then M.lks else M.ru (w - 3)
theorem o_bottleneck {B x : Int} {S : zG} {μ : zM} {M : zD} {L : List zD} {K : zKs} {inp out : List Int} {c p : Int} {P : zG → zM → Prop} {a o : Int} (h : Wd B x S μ M L K inp out c p) (hP : ∀ S1 μ3, Wd B x S1 μ3 M L K inp out c p → P S1 μ3) : zOp x P (f_X7_bottleneck x a o) (f_X8_bottleneck (x + 66) a o) [(2, 1)] S μ := by
  have h60 := h.a.D.al
  have h61 := h.a.D.wl
  have W := h.w.M
  by_cases h1 : 0 ≤ a ∧ a < (M.an.length : Int)
  · skip
    by_cases h2 : 0 ≤ o ∧ o < (M.an.length : Int)
    · skip
      refine op_q (v := (zbk M a o 11)) h ?_ (by have := bk_rng (M := M) (a := a) (o := o) 11; unfold zI; omega) ?_ hP
      · refine zo_xq ?_
        refine j_X7_bottleneck ?_
        refine zo_ob h.a.C.o (by omega) ?_
        refine zo_bn (k_A h.a.C h.a.D h1) ?_
        refine zo_ob h.a.C.o (by omega) ?_
        refine zo_bn (k_A h.a.C h.a.D h2) ?_
        refine zo_mono (c_bottle h.a.C h.a.D) ?_
        rintro r rfl
        exact ⟨_, rfl, FV.rf⟩
      · intro S1 μ2 h8
        refine zo_xq ?_
        refine j_X8_bottleneck ?_
        refine zo_ob h8.H.o (by omega) ?_
        refine zo_bn (b_areAgents h8.H h8.D) ?_
        refine m_p1 h8.H (zbl_nz ⟨h1, h2⟩) ?_
        have g8 : W8 S1 (zup μ2 (x + 66) 0 0) (x + 66) M L K inp out c p := FM.u0.w8 h8
        have gt : zup μ2 (x + 66) 0 0 (x + 66) 0 = 0 := zup_at
        refine zo_mono (b_bottle g8.H g8.D W) ?_
        rintro r rfl
        exact ⟨_, rfl, FM.u0, gt⟩
    · refine op_t 2 1 h ?_ (by decide) (by decide) ?_ hP
      · apply zo_un
        refine j_X7_bottleneck ?_
        refine zo_ob h.a.C.o (by omega) ?_
        refine zo_bn (k_A h.a.C h.a.D h1) ?_
        refine zo_ob h.a.C.o (by omega) ?_
        exact zo_be (k_A_no h.a.C h.a.D h2) rfl
      · intro S1 μ2 h8
        refine zo_xt ?_
        refine j_X8_bottleneck ?_
        refine zo_ob h8.H.o (by omega) ?_
        refine zo_bn (b_areAgents h8.H h8.D) ?_
        refine m_f1 h8.H (zbl_n (fun z => h2 z.2)) ?_
        exact ⟨_, _, rfl, FM.u0, zup_at⟩
  · refine op_t 2 1 h ?_ (by decide) (by decide) ?_ hP
    · apply zo_un
      refine j_X7_bottleneck ?_
      refine zo_ob h.a.C.o (by omega) ?_
      exact zo_be (k_A_no h.a.C h.a.D h1) rfl
    · intro S1 μ2 h8
      refine zo_xt ?_
      refine j_X8_bottleneck ?_
      refine zo_ob h8.H.o (by omega) ?_
      refine zo_bn (b_areAgents h8.H h8.D) ?_
      refine m_f1 h8.H (zbl_n (fun z => h1 z.1)) ?_
      exact ⟨_, _, rfl, FM.u0, zup_at⟩
theorem o_mostTrusted {B x : Int} {S : zG} {μ : zM} {M : zD} {L : List zD} {K : zKs} {inp out : List Int} {c p : Int} {P : zG → zM → Prop} {a : Int} (h : Wd B x S μ M L K inp out c p) (hP : ∀ S1 μ3, Wd B x S1 μ3 M L K inp out c p → P S1 μ3) : zOp x P (f_X7_mostTrusted x a) (f_X8_mostTrusted (x + 66) a) [(2, 1)] S μ := by
  have h60 := h.a.D.al
  have h61 := h.a.D.wl
  have W := h.w.M
  by_cases h1 : 0 ≤ a ∧ a < (M.an.length : Int)
  · skip
    refine op_q (v := (M.mtr a)) h ?_ (by have := mtr_rng (a := a) h60; unfold zI; omega) ?_ hP
    · refine zo_xq ?_
      refine j_X7_mostTrusted ?_
      refine zo_ob h.a.C.o (by omega) ?_
      refine zo_bn (k_A h.a.C h.a.D h1) ?_
      refine zo_mono (c_mostTr h.a.C h.a.D W (by omega)) ?_
      rintro r rfl
      exact ⟨_, rfl, FV.rf⟩
    · intro S1 μ2 h8
      refine zo_xq ?_
      refine j_X8_mostTrusted ?_
      refine zo_ob h8.H.o (by omega) ?_
      refine zo_bn (b_isAgent h8.H h8.D) ?_
      refine m_p1 h8.H (zbl_nz h1) ?_
      have g8 : W8 S1 (zup μ2 (x + 66) 0 0) (x + 66) M L K inp out c p := FM.u0.w8 h8
      have gt : zup μ2 (x + 66) 0 0 (x + 66) 0 = 0 := zup_at
      refine zo_mono (b_mostTr g8.H g8.D (by omega)) ?_
      rintro r rfl
      exact ⟨_, rfl, FM.u0, gt⟩
  · refine op_t 2 1 h ?_ (by decide) (by decide) ?_ hP
    · apply zo_un
      refine j_X7_mostTrusted ?_
      refine zo_ob h.a.C.o (by omega) ?_
      exact zo_be (k_A_no h.a.C h.a.D h1) rfl
    · intro S1 μ2 h8
      refine zo_xt ?_
      refine j_X8_mostTrusted ?_
      refine zo_ob h8.H.o (by omega) ?_
      refine zo_bn (b_isAgent h8.H h8.D) ?_
      refine m_f1 h8.H (zbl_n (fun z => h1 z)) ?_
      exact ⟨_, _, rfl, FM.u0, zup_at⟩
theorem prp_rng {B : Int} {M : zD} {w : Int} (W : WF B M) (hw : 0 ≤ w ∧ w ≤ 9) : zI (M.prp w) := by
  have q0 := W.r0
  have q1 := W.r1
  have q2 := W.r2
  have q3 := W.r3
  have q4 := W.r4
  have q5 := W.tmI
  have q6 := lks_rng W.al
  have q7 := W.ql
  have q8 := W.al
  have q9 := W.wl
  unfold zI
  have hc : w = 0 ∨ w = 1 ∨ w = 2 ∨ w = 3 ∨ w = 4 ∨ w = 5 ∨ w = 6 ∨ w = 7 ∨ w = 8 ∨ w = 9 := by omega
  rcases hc with z | z | z | z | z | z | z | z | z | z <;> subst z
  · show -2147483648 ≤ (M.an.length : Int) ∧ (M.an.length : Int) < 2147483648
    omega
  · show -2147483648 ≤ (M.wn.length : Int) ∧ (M.wn.length : Int) < 2147483648
    omega
  · show -2147483648 ≤ M.tm ∧ M.tm < 2147483648
    exact q5
  · show -2147483648 ≤ M.ru 0 ∧ M.ru 0 < 2147483648
    omega
  · show -2147483648 ≤ M.ru 1 ∧ M.ru 1 < 2147483648
    omega
  · show -2147483648 ≤ M.ru 2 ∧ M.ru 2 < 2147483648
    omega
  · show -2147483648 ≤ M.ru 3 ∧ M.ru 3 < 2147483648
    omega
  · show -2147483648 ≤ M.ru 4 ∧ M.ru 4 < 2147483648
    omega
  · show -2147483648 ≤ (M.qu.length : Int) ∧ (M.qu.length : Int) < 2147483648
    omega
  · show -2147483648 ≤ M.lks ∧ M.lks < 2147483648
    omega
theorem o_property {B x : Int} {S : zG} {μ : zM} {M : zD} {L : List zD} {K : zKs} {inp out : List Int} {c p : Int} {P : zG → zM → Prop} {w : Int} (h : Wd B x S μ M L K inp out c p) (hP : ∀ S1 μ3, Wd B x S1 μ3 M L K inp out c p → P S1 μ3) : zOp x P (f_X7_property x w) (f_X8_property (x + 66) w) [(1, 1)] S μ := by
  have h60 := h.a.D.al
  have h61 := h.a.D.wl
  have W := h.w.M
  by_cases h1 : 0 ≤ w ∧ w ≤ 9
  · skip
    refine op_q (v := (M.prp w)) h ?_ (prp_rng W h1) ?_ hP
    · refine zo_xq ?_
      refine j_X7_property ?_
      refine zo_bn (k_R h1) ?_
      have hc : w = 0 ∨ w = 1 ∨ w = 2 ∨ w = 3 ∨ w = 4 ∨ w = 5 ∨ w = 6 ∨ w = 7 ∨ w = 8 ∨ w = 9 := by omega
      rcases hc with z | z | z | z | z | z | z | z | z | z <;> subst z
      · refine zo_tb _ 0 0 rfl (by decide) ?_
        refine zo_gr h.a.C.o h.a.C.r3 (by omega) (by omega) ?_
        refine zo_gr h.a.D.sh.o h.a.D.sh.r1 (by omega) (by omega) ?_
        refine zo_gf h.a.D.sh.ag.o h.a.D.an0 (by omega) (by omega) ?_
        exact zo_rt ⟨_, rfl, FV.rf⟩
      · refine zo_tb _ 0 1 rfl (by decide) ?_
        refine zo_gr h.a.C.o h.a.C.r3 (by omega) (by omega) ?_
        refine zo_gr h.a.D.sh.o h.a.D.sh.r2 (by omega) (by omega) ?_
        refine zo_gf h.a.D.sh.wa.o h.a.D.wn0 (by omega) (by omega) ?_
        exact zo_rt ⟨_, rfl, FV.rf⟩
      · refine zo_tb _ 0 2 rfl (by decide) ?_
        refine zo_gr h.a.C.o h.a.C.r3 (by omega) (by omega) ?_
        refine zo_gf h.a.D.sh.o h.a.D.tm (by omega) (by omega) ?_
        exact zo_rt ⟨_, rfl, FV.rf⟩
      · refine zo_tb _ 0 3 rfl (by decide) ?_
        have e3 : w32 (3 - 3) = 0 := w32_e (by decide)
        rw [e3]
        refine zo_gr h.a.C.o h.a.C.r3 (by omega) (by omega) ?_
        refine zo_ob h.a.D.sh.o (by omega) ?_
        refine zo_bn (d_rule h.a.D (i := 0) (by decide)) ?_
        exact zo_rt ⟨_, rfl, FV.rf⟩
      · refine zo_tb _ 0 4 rfl (by decide) ?_
        have e3 : w32 (4 - 3) = 1 := w32_e (by decide)
        rw [e3]
        refine zo_gr h.a.C.o h.a.C.r3 (by omega) (by omega) ?_
        refine zo_ob h.a.D.sh.o (by omega) ?_
        refine zo_bn (d_rule h.a.D (i := 1) (by decide)) ?_
        exact zo_rt ⟨_, rfl, FV.rf⟩
      · refine zo_tb _ 0 5 rfl (by decide) ?_
        have e3 : w32 (5 - 3) = 2 := w32_e (by decide)
        rw [e3]
        refine zo_gr h.a.C.o h.a.C.r3 (by omega) (by omega) ?_
        refine zo_ob h.a.D.sh.o (by omega) ?_
        refine zo_bn (d_rule h.a.D (i := 2) (by decide)) ?_
        exact zo_rt ⟨_, rfl, FV.rf⟩
      · refine zo_tb _ 0 6 rfl (by decide) ?_
        have e3 : w32 (6 - 3) = 3 := w32_e (by decide)
        rw [e3]
        refine zo_gr h.a.C.o h.a.C.r3 (by omega) (by omega) ?_
        refine zo_ob h.a.D.sh.o (by omega) ?_
        refine zo_bn (d_rule h.a.D (i := 3) (by decide)) ?_
        exact zo_rt ⟨_, rfl, FV.rf⟩
      · refine zo_tb _ 0 7 rfl (by decide) ?_
        have e3 : w32 (7 - 3) = 4 := w32_e (by decide)
        rw [e3]
        refine zo_gr h.a.C.o h.a.C.r3 (by omega) (by omega) ?_
        refine zo_ob h.a.D.sh.o (by omega) ?_
        refine zo_bn (d_rule h.a.D (i := 4) (by decide)) ?_
        exact zo_rt ⟨_, rfl, FV.rf⟩
      · refine zo_tb _ 0 8 rfl (by decide) ?_
        refine zo_gr h.a.C.o h.a.C.r3 (by omega) (by omega) ?_
        refine zo_gr h.a.D.sh.o h.a.D.sh.r6 (by omega) (by omega) ?_
        refine zo_gf h.a.D.sh.qu.o h.a.D.qu.1 (by omega) (by omega) ?_
        exact zo_rt ⟨_, rfl, FV.rf⟩
      · refine zo_tb _ 0 9 rfl (by decide) ?_
        refine zo_gr h.a.C.o h.a.C.r3 (by omega) (by omega) ?_
        refine zo_ob h.a.D.sh.o (by omega) ?_
        refine zo_bn (d_linkCount h.a.D) ?_
        exact zo_rt ⟨_, rfl, FV.rf⟩
    · intro S1 μ2 h8
      refine zo_xq ?_
      refine j_X8_property ?_
      refine zo_bn (b_in) ?_
      refine m_p1 h8.H (zbl_nz h1) ?_
      have g8 : W8 S1 (zup μ2 (x + 66) 0 0) (x + 66) M L K inp out c p := FM.u0.w8 h8
      have gt : zup μ2 (x + 66) 0 0 (x + 66) 0 = 0 := zup_at
      have hc : w = 0 ∨ w = 1 ∨ w = 2 ∨ w = 3 ∨ w = 4 ∨ w = 5 ∨ w = 6 ∨ w = 7 ∨ w = 8 ∨ w = 9 := by omega
      rcases hc with z | z | z | z | z | z | z | z | z | z <;> subst z
      · refine zo_tb _ 0 0 rfl (by decide) ?_
        refine zo_ob g8.H.o (by omega) ?_
        refine zo_bn (b_agents g8.H g8.D) ?_
        exact zo_rt ⟨_, rfl, FM.u0, gt⟩
      · refine zo_tb _ 0 1 rfl (by decide) ?_
        refine zo_ob g8.H.o (by omega) ?_
        refine zo_bn (b_ways g8.H g8.D) ?_
        exact zo_rt ⟨_, rfl, FM.u0, gt⟩
      · refine zo_tb _ 0 2 rfl (by decide) ?_
        refine zo_gr g8.H.o g8.H.r1 (by omega) (by omega) ?_
        refine zo_ld g8.H.a1 (by omega) g8.D.tm ?_
        exact zo_rt ⟨_, rfl, FM.u0, gt⟩
      · refine zo_tb _ 0 3 rfl (by decide) ?_
        have e3 : w32 (3 - 3) = 0 := w32_e (by decide)
        rw [e3]
        refine zo_ob g8.H.o (by omega) ?_
        refine zo_bn (b_rule g8.H g8.D (i := 0) (by decide)) ?_
        exact zo_rt ⟨_, rfl, FM.u0, gt⟩
      · refine zo_tb _ 0 4 rfl (by decide) ?_
        have e3 : w32 (4 - 3) = 1 := w32_e (by decide)
        rw [e3]
        refine zo_ob g8.H.o (by omega) ?_
        refine zo_bn (b_rule g8.H g8.D (i := 1) (by decide)) ?_
        exact zo_rt ⟨_, rfl, FM.u0, gt⟩
      · refine zo_tb _ 0 5 rfl (by decide) ?_
        have e3 : w32 (5 - 3) = 2 := w32_e (by decide)
        rw [e3]
        refine zo_ob g8.H.o (by omega) ?_
        refine zo_bn (b_rule g8.H g8.D (i := 2) (by decide)) ?_
        exact zo_rt ⟨_, rfl, FM.u0, gt⟩
      · refine zo_tb _ 0 6 rfl (by decide) ?_
        have e3 : w32 (6 - 3) = 3 := w32_e (by decide)
        rw [e3]
        refine zo_ob g8.H.o (by omega) ?_
        refine zo_bn (b_rule g8.H g8.D (i := 3) (by decide)) ?_
        exact zo_rt ⟨_, rfl, FM.u0, gt⟩
      · refine zo_tb _ 0 7 rfl (by decide) ?_
        have e3 : w32 (7 - 3) = 4 := w32_e (by decide)
        rw [e3]
        refine zo_ob g8.H.o (by omega) ?_
        refine zo_bn (b_rule g8.H g8.D (i := 4) (by decide)) ?_
        exact zo_rt ⟨_, rfl, FM.u0, gt⟩
      · refine zo_tb _ 0 8 rfl (by decide) ?_
        refine zo_ob g8.H.o (by omega) ?_
        refine zo_bn (b_queued g8.H g8.D) ?_
        exact zo_rt ⟨_, rfl, FM.u0, gt⟩
      · refine zo_tb _ 0 9 rfl (by decide) ?_
        refine zo_ob g8.H.o (by omega) ?_
        refine zo_bn (b_links g8.H g8.D W) ?_
        exact zo_rt ⟨_, rfl, FM.u0, gt⟩
  · refine op_t 1 1 h ?_ (by decide) (by decide) ?_ hP
    · apply zo_un
      refine j_X7_property ?_
      exact zo_be (k_R_no h1) rfl
    · intro S1 μ2 h8
      refine zo_xt ?_
      refine j_X8_property ?_
      refine zo_bn (b_in) ?_
      refine m_f1 h8.H (zbl_n (fun z => h1 z)) ?_
      exact ⟨_, _, rfl, FM.u0, zup_at⟩
