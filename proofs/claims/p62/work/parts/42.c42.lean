/-! C 42: reset, become, removing all -/
def zD0 : zD := (zsv 2, [], [], fun _ _ => -1, fun _ => [], [], fun _ _ => 0, 0)
section C42
variable {S : zG} {μ μ' μ1 : zM} {d B a : Int} {M : zD} {Q : zR × zS → Prop}
theorem c_fill {n v : Int} (A : S.1 a = some (1, n)) (hn : 0 ≤ n ∧ n ≤ 1000) : ∃ μ', f_J7_fill_53178 a v (S, μ) = some (.inl 0, (S, μ')) ∧ (∀ j, 0 ≤ j → j < n → μ' a j = v) ∧ ∀ x, x ≠ a → μ' x = μ x := by
  apply zo_ux
  refine j_J7_fill_53178 ?_
  refine zo_al A ?_
  refine zo_l2 (F := fun m (k : Nat) (μ2 : zM) => f_J7_fill_53178_5 m a v (k : Int) n (S, μ2)) (fun k μ2 => (k : Int) ≤ n ∧ (∀ j, 0 ≤ j → j < (k : Int) → μ2 a j = v) ∧ ∀ x, x ≠ a → μ2 x = μ x) (fun k _ => n.toNat - k) ?_ zFU 0 μ ⟨by show (0 : Int) ≤ n; omega, fun j h1 h2 => absurd h2 (by show ¬ j < 0; omega), fun _ _ => rfl⟩ (by show n.toNat - 0 < 1000000; omega)
  rintro m k μ2 ⟨hk, hv, hf⟩ ih
  refine j_J7_fill_53178_5 ?_
  by_cases e : (k : Int) < n
  · refine zo_pos e ?_
    refine zo_si A (by omega) ?_
    rw [w32_s (k := k) (by omega)]
    refine ih (k + 1) _ ⟨by omega, ?_, fun x hx => by rw [zup_c hx]; exact hf x hx⟩ (by omega)
    intro j h1 h2
    by_cases ej : j = (k : Int)
    · rw [ej, zup_at]
    · rw [zup_j ej]
      exact hv j h1 (by omega)
  · refine zo_neg e ?_
    exact zo_rt ⟨μ2, rfl, fun j h1 h2 => hv j h1 (by omega), hf⟩
theorem LRp.nil {w : Nat} (h : μ a 1 = 0) : LRp w μ a [] := ⟨h, fun k p hk => by cases hk⟩
set_option maxHeartbeats 2000000 in
theorem d_reset (D : DSh S d) (hd : 0 ≤ d) (hem : μ (d + 8) 1 = 0) : ∃ μ', f_X1_reset d (S, μ) = some (.inl 0, (S, μ')) ∧ D7 S μ' d zD0 ∧ FR d μ μ' := by
  apply zo_ux
  refine j_X1_reset ?_
  refine zo_l2 (F := fun m (k : Nat) (μ2 : zM) => f_X1_reset_2 m d (k : Int) (S, μ2)) (fun k μ2 => k ≤ 5 ∧ (∀ j, 0 ≤ j → j < (k : Int) → μ2 (d + 1) j = zsv 2 j) ∧ ∀ x, x ≠ d + 1 → μ2 x = μ x) (fun k _ => 5 - k) ?_ zFU 0 μ ⟨by omega, fun j h1 h2 => absurd h2 (by show ¬ j < 0; omega), fun _ _ => rfl⟩ (by show 5 - 0 < 1000000; omega)
  rintro m k μ2 ⟨hk, hv, hf⟩ ih
  refine j_X1_reset_2 ?_
  by_cases e : k < 5
  · refine zo_pos (by omega) ?_
    have ea : ∀ F, zsa 2 (k : Int) F = F (zsv 2 (k : Int)) := fun F => if_pos (by omega)
    rw [ea]
    refine zo_ob D.o (by omega) ?_
    refine zo_bn (c_X1_putRule D (by omega)) ?_
    rw [w32_s (k := k) (by omega)]
    refine ih (k + 1) _ ⟨by omega, ?_, fun x hx => by rw [zup_c hx]; exact hf x hx⟩ (by omega)
    intro j h1 h2
    by_cases ej : j = (k : Int)
    · rw [ej, zup_at]
    · rw [zup_j ej]
      exact hv j h1 (by omega)
  · refine zo_neg (by omega) ?_
    have e5 : k = 5 := by omega
    subst e5
    refine j_X1_reset_23 ?_
    refine zo_gr D.o D.r1 (by omega) (by omega) ?_
    refine zo_pf 1 D.ag.o (by omega) (by omega) ?_
    refine zo_gr D.o D.r2 (by omega) (by omega) ?_
    refine zo_pf 1 D.wa.o (by omega) (by omega) ?_
    refine zo_gr D.o D.r3 (by omega) (by omega) ?_
    obtain ⟨μ3, e3, hv3, hf3⟩ := c_fill (S := S) (μ := zup (zup μ2 (d + 2) 1 0) (d + 4) 1 0) (v := -1) D.tr (by decide)
    refine zo_bn e3 ?_
    refine zo_l2 (F := fun m (k : Nat) (μ2 : zM) => f_X1_reset_49 m d (k : Int) (S, μ2)) (fun k μ4 => k ≤ 6 ∧ (∀ j, 0 ≤ j → j < (k : Int) → μ4 (d + 13 + 2 * j) 1 = 0) ∧ ∀ x, (x < d + 13 ∨ d + 25 ≤ x) → μ4 x = μ3 x) (fun k _ => 6 - k) ?_ zFU 0 μ3 ⟨by omega, fun j h1 h2 => absurd h2 (by show ¬ j < 0; omega), fun _ _ => rfl⟩ (by show 6 - 0 < 1000000; omega)
    rintro m k μ4 ⟨hk4, hv4, hf4⟩ ih
    refine j_X1_reset_49 ?_
    refine zo_gr D.o D.r4 (by omega) (by omega) ?_
    refine zo_al D.li ?_
    by_cases e : k < 6
    · refine zo_pos (by omega) ?_
      refine zo_ob D.o (by omega) ?_
      refine zo_bn (c_X1_listOf D (i := (k : Int)) (by omega) hd) ?_
      refine zo_pf 1 (D.ls (k : Int) (by omega) (by omega)).o (by omega) (by omega) ?_
      rw [w32_s (k := k) (by omega)]
      refine ih (k + 1) _ ⟨by omega, ?_, fun x hx => by rw [zup_c (by omega)]; exact hf4 x hx⟩ (by omega)
      intro j h1 h2
      by_cases ej : j = (k : Int)
      · rw [ej, zup_at]
      · rw [zup_b (by omega)]
        exact hv4 j h1 (by omega)
    · refine zo_neg (by omega) ?_
      have e6 : k = 6 := by omega
      subst e6
      refine j_X1_reset_73 ?_
      refine zo_gr D.o D.r6 (by omega) (by omega) ?_
      refine zo_pf 1 D.qu.o (by omega) (by omega) ?_
      refine zo_gr D.o D.r7 (by omega) (by omega) ?_
      obtain ⟨μ5, e5, hv5, hf5⟩ := c_fill (S := S) (μ := zup μ4 (d + 10) 1 0) (v := 0) D.ac (by decide)
      refine zo_bn e5 ?_
      refine zo_pf 8 D.o (by omega) (by omega) ?_
      have g5 : ∀ x, x ≠ d → x ≠ d + 12 → x ≠ d + 10 → zup μ5 d 8 0 x = μ4 x := fun x h1 h2 h3 => by rw [zup_c h1, hf5 x h2, zup_c h3]
      have g3 : ∀ x, x < d + 13 → x ≠ d → x ≠ d + 12 → x ≠ d + 10 → zup μ5 d 8 0 x = μ3 x := fun x h0 h1 h2 h3 => (g5 x h1 h2 h3).trans (hf4 x (Or.inl h0))
      have g2 : ∀ x, x < d + 13 → x ≠ d → x ≠ d + 12 → x ≠ d + 10 → x ≠ d + 6 → zup μ5 d 8 0 x = zup (zup μ2 (d + 2) 1 0) (d + 4) 1 0 x := fun x h0 h1 h2 h3 h4 => (g3 x h0 h1 h2 h3).trans (hf3 x h4)
      refine zo_rt ⟨_, rfl, D7.mk ⟨D, hd, by decide, by decide, fun _ _ _ => Nat.zero_le _, by decide, ?_, ?_, ?_, ?_, ?_, ?_, ?_, ?_, ?_, ?_, ?_⟩, ?_⟩
      · intro i h1 h2
        rw [g2 _ (by omega) (by omega) (by omega) (by omega) (by omega), zup_b (by omega), zup_b (by omega)]
        exact hv i h1 h2
      · rw [g2 _ (by omega) (by omega) (by omega) (by omega) (by omega), zup_b (by omega), zup_at]
        rfl
      · intro k nm hk
        cases hk
      · rw [g2 _ (by omega) (by omega) (by omega) (by omega) (by omega), zup_at]
        rfl
      · intro k nm hk
        cases hk
      · intro i j h1 h2 h3 h4
        rw [g3 _ (by omega) (by omega) (by omega) (by omega)]
        exact hv3 _ (by omega) (by omega)
      · rw [g2 _ (by omega) (by omega) (by omega) (by omega) (by omega), zup_b (by omega), zup_b (by omega), hf _ (by omega)]
        exact hem
      · intro i h1 h2
        refine LRp.nil ?_
        rw [g5 _ (by omega) (by omega) (by omega)]
        exact hv4 i h1 h2
      · refine LRp.nil ?_
        rw [zup_b (by omega), hf5 _ (by omega), zup_at]
      · intro i j h1 h2 h3 h4
        rw [zup_b (by omega)]
        exact hv5 _ (by omega) (by omega)
      · exact zup_at
      · intro x hx
        rw [g5 x (by omega) (by omega) (by omega), hf4 x (by omega), hf3 x (by omega), zup_c (by omega), zup_c (by omega), hf x (by omega)]
set_option maxHeartbeats 2000000 in
theorem d_become {b : Int} (D : DSh S d) (hd : 0 ≤ d) (hem : μ (d + 8) 1 = 0) (h : D7 S μ b M) (hdb : d + 25 ≤ b ∨ b + 25 ≤ d) : ∃ μ', f_X1_become d b (S, μ) = some (.inl 0, (S, μ')) ∧ D7 S μ' d M ∧ FR d μ μ' := by
  have E := h.sh
  have hal := h.al
  have hwl := h.wl
  have hql := h.ql
  apply zo_ux
  refine j_X1_become ?_
  refine zo_l2 (F := fun m (k : Nat) (μ2 : zM) => f_X1_become_2 m d b (k : Int) (S, μ2)) (fun k μ2 => k ≤ 5 ∧ (∀ j, 0 ≤ j → j < (k : Int) → μ2 (d + 1) j = M.ru j) ∧ ∀ x, x ≠ d + 1 → μ2 x = μ x) (fun k _ => 5 - k) ?_ zFU 0 μ ⟨by omega, fun j h1 h2 => absurd h2 (by show ¬ j < 0; omega), fun _ _ => rfl⟩ (by show 5 - 0 < 1000000; omega)
  rintro m k μ2 ⟨hk, hv, hf⟩ ih
  refine j_X1_become_2 ?_
  have hb2 : D7 S μ2 b M := h.keep (fun x h1 h2 => hf x (by omega))
  by_cases e : k < 5
  · refine zo_pos (by omega) ?_
    refine zo_ob E.o (by omega) ?_
    refine zo_bn (d_rule hb2 (by omega)) ?_
    refine zo_ob D.o (by omega) ?_
    refine zo_bn (c_X1_putRule D (by omega)) ?_
    rw [w32_s (k := k) (by omega)]
    refine ih (k + 1) _ ⟨by omega, ?_, fun x hx => by rw [zup_c hx]; exact hf x hx⟩ (by omega)
    intro j h1 h2
    by_cases ej : j = (k : Int)
    · rw [ej, zup_at]
    · rw [zup_j ej]
      exact hv j h1 (by omega)
  · refine zo_neg (by omega) ?_
    have e5 : k = 5 := by omega
    subst e5
    refine j_X1_become_23 ?_
    refine zo_gr D.o D.r1 (by omega) (by omega) ?_
    refine zo_gr E.o E.r1 (by omega) (by omega) ?_
    refine zo_ob D.ag.o (by omega) ?_
    obtain ⟨μ3, e3, hn3, hf3⟩ := c_ncopy D.ag E.ag hb2.names (by omega)
    refine zo_bn e3 ?_
    refine zo_gr D.o D.r2 (by omega) (by omega) ?_
    refine zo_gr E.o E.r2 (by omega) (by omega) ?_
    refine zo_ob D.wa.o (by omega) ?_
    have hb3 : D7 S μ3 b M := hb2.keep (fun x h1 h2 => hf3 x (by omega) (by omega))
    obtain ⟨μ4, e4, hn4, hf4⟩ := c_ncopy D.wa E.wa hb3.wnames (by omega)
    refine zo_bn e4 ?_
    have hb4 : D7 S μ4 b M := hb3.keep (fun x h1 h2 => hf4 x (by omega) (by omega))
    refine zo_gr E.o E.r3 (by omega) (by omega) ?_
    refine zo_gr D.o D.r3 (by omega) (by omega) ?_
    refine zo_gr E.o E.r3 (by omega) (by omega) ?_
    refine zo_al E.tr ?_
    refine zo_gr D.o D.r3 (by omega) (by omega) ?_
    refine zo_al D.tr ?_
    rw [e_ac E.tr D.tr (by decide)]
    have hf5 : ∀ x, x ≠ d + 1 → x ≠ d + 2 → x ≠ d + 3 → x ≠ d + 4 → x ≠ d + 5 → x ≠ d + 6 → zcp μ4 (b + 6) 0 (d + 6) 0 (min 36 36) x = μ x := by
      intro x h1 h2 h3 h4 h5 h6
      have e9 : zcp μ4 (b + 6) 0 (d + 6) 0 (min 36 36) x = μ4 x := by funext j; exact zcp_b h6
      rw [e9, hf4 x h4 (by omega), hf3 x h2 (by omega), hf x h1]
    have hT5 : ∀ j, 0 ≤ j → j < 36 → zcp μ4 (b + 6) 0 (d + 6) 0 (min 36 36) (d + 6) j = μ4 (b + 6) j := by
      intro j h1 h2
      rw [zcp_in (by omega)]
      congr 1
      omega
    have hk5 : ∀ x, x ≠ d + 6 → zcp μ4 (b + 6) 0 (d + 6) 0 (min 36 36) x = μ4 x := by
      intro x h1
      funext j
      exact zcp_b h1
    generalize zcp μ4 (b + 6) 0 (d + 6) 0 (min 36 36) = μ5 at *
    refine zo_l2 (F := fun m (k : Nat) (μ2 : zM) => f_X1_become_73 m d b (k : Int) (S, μ2)) (fun k μ6 => k ≤ 6 ∧ (∀ j, 0 ≤ j → j < (k : Int) → LRp 7 μ6 (d + 13 + 2 * j) (M.li j)) ∧ ∀ x, (x < d + 13 ∨ d + 25 ≤ x) → μ6 x = μ5 x) (fun k _ => 6 - k) ?_ zFU 0 μ5 ⟨by omega, fun j h1 h2 => absurd h2 (by show ¬ j < 0; omega), fun _ _ => rfl⟩ (by show 6 - 0 < 1000000; omega)
    rintro m k μ6 ⟨hk6, hv6, hf6⟩ ih
    have hb6 : D7 S μ6 b M := h.keep (fun x h1 h2 => (hf6 x (by omega)).trans (hf5 x (by omega) (by omega) (by omega) (by omega) (by omega) (by omega)))
    refine j_X1_become_73 ?_
    refine zo_gr D.o D.r4 (by omega) (by omega) ?_
    refine zo_al D.li ?_
    by_cases e : k < 6
    · refine zo_pos (by omega) ?_
      refine zo_ob D.o (by omega) ?_
      refine zo_bn (c_X1_listOf D (i := (k : Int)) (by omega) hd) ?_
      refine zo_ob E.o (by omega) ?_
      refine zo_bn (d_listOf hb6 (i := (k : Int)) (by omega)) ?_
      have hlk := h.ll (k : Int) (by omega) (by omega)
      refine zo_ob (D.ls (k : Int) (by omega) (by omega)).o (by omega) ?_
      obtain ⟨μ7, e7, hl7, hf7⟩ := c_copyFrom (D.ls (k : Int) (by omega) (by omega)) (E.ls (k : Int) (by omega) (by omega)) (by omega) (hb6.li (k : Int) (by omega) (by omega)) (by omega) (by omega) (by decide) (by decide)
      refine zo_bn e7 ?_
      rw [w32_s (k := k) (by omega)]
      refine ih (k + 1) _ ⟨by omega, ?_, fun x hx => by rw [hf7 x (by omega) (by omega)]; exact hf6 x hx⟩ (by omega)
      intro j h1 h2
      by_cases ej : j = (k : Int)
      · rw [ej]
        exact hl7
      · exact (hv6 j h1 (by omega)).frame (fun i => by rw [hf7 _ (by omega) (by omega)]) (fun i => by rw [hf7 _ (by omega) (by omega)])
    · refine zo_neg (by omega) ?_
      have e6 : k = 6 := by omega
      subst e6
      refine j_X1_become_101 ?_
      refine zo_gr D.o D.r6 (by omega) (by omega) ?_
      refine zo_gr E.o E.r6 (by omega) (by omega) ?_
      refine zo_ob D.qu.o (by omega) ?_
      obtain ⟨μ7, e7, hl7, hf7⟩ := c_copyFrom D.qu E.qu (by omega) hb6.qu (by omega) (by omega) (by decide) (by decide)
      refine zo_bn e7 ?_
      refine zo_gr E.o E.r7 (by omega) (by omega) ?_
      refine zo_gr D.o D.r7 (by omega) (by omega) ?_
      refine zo_gr E.o E.r7 (by omega) (by omega) ?_
      refine zo_al E.ac ?_
      refine zo_gr D.o D.r7 (by omega) (by omega) ?_
      refine zo_al D.ac ?_
      rw [e_ac E.ac D.ac (by decide)]
      have hb7 : D7 S μ7 b M := hb6.keep (fun x h1 h2 => hf7 x (by omega) (by omega))
      refine zo_gf E.o (v := M.tm) (j := 8) (by rw [zcp_b (by omega)]; exact hb7.tm) (by omega) (by omega) ?_
      refine zo_pf 8 D.o (by omega) (by omega) ?_
      have g7 : ∀ x, x ≠ d → x ≠ d + 12 → zup (zcp μ7 (b + 12) 0 (d + 12) 0 (min 30 30)) d 8 M.tm x = μ7 x := fun x h1 h2 => by
        rw [zup_c h1]
        funext j
        exact zcp_b h2
      have g5 : ∀ x, x ≠ d → x ≠ d + 12 → x ≠ d + 10 → x ≠ d + 11 → (x < d + 13 ∨ d + 25 ≤ x) → zup (zcp μ7 (b + 12) 0 (d + 12) 0 (min 30 30)) d 8 M.tm x = μ5 x := fun x h1 h2 h3 h4 h5 => (g7 x h1 h2).trans ((hf7 x h3 (by omega)).trans (hf6 x h5))
      refine zo_rt ⟨_, rfl, D7.mk ⟨D, hd, hal, hwl, h.ll, hql, ?_, ?_, ?_, ?_, ?_, ?_, ?_, ?_, ?_, ?_, ?_⟩, ?_⟩
      · intro i h1 h2
        rw [g5 _ (by omega) (by omega) (by omega) (by omega) (by omega), hk5 _ (by omega), hf4 _ (by omega) (by omega), hf3 _ (by omega) (by omega)]
        exact hv i h1 h2
      · rw [g5 _ (by omega) (by omega) (by omega) (by omega) (by omega), hk5 _ (by omega), hf4 _ (by omega) (by omega)]
        exact hn3.c
      · intro i nm hi
        rw [g5 _ (by omega) (by omega) (by omega) (by omega) (by omega), hk5 _ (by omega), hf4 _ (by omega) (by omega)]
        have := hn3.v i nm hi
        rw [show d + 2 + 1 = d + 3 by omega] at this
        exact this
      · rw [g5 _ (by omega) (by omega) (by omega) (by omega) (by omega), hk5 _ (by omega)]
        exact hn4.c
      · intro i nm hi
        rw [g5 _ (by omega) (by omega) (by omega) (by omega) (by omega), hk5 _ (by omega)]
        have := hn4.v i nm hi
        rw [show d + 4 + 1 = d + 5 by omega] at this
        exact this
      · intro i j h1 h2 h3 h4
        rw [g5 _ (by omega) (by omega) (by omega) (by omega) (by omega), hT5 _ (by omega) (by omega)]
        exact hb4.T i j h1 h2 h3 h4
      · rw [g5 _ (by omega) (by omega) (by omega) (by omega) (by omega), hf5 _ (by omega) (by omega) (by omega) (by omega) (by omega) (by omega)]
        exact hem
      · intro i h1 h2
        exact (hv6 i h1 h2).frame (fun j => by rw [g7 _ (by omega) (by omega), hf7 _ (by omega) (by omega)]) (fun j => by rw [g7 _ (by omega) (by omega), hf7 _ (by omega) (by omega)])
      · exact hl7.frame (fun j => by rw [g7 _ (by omega) (by omega)]) (fun j => by rw [g7 _ (by omega) (by omega)])
      · intro i j h1 h2 h3 h4
        rw [zup_b (by omega), zcp_in (by omega)]
        have e9 : (0 : Int) + ((5 * i + j) - 0) = 5 * i + j := by omega
        rw [e9]
        exact hb7.ac i j h1 h2 h3 h4
      · exact zup_at
      · intro x hx
        rw [g5 x (by omega) (by omega) (by omega) (by omega) (by omega), hf5 x (by omega) (by omega) (by omega) (by omega) (by omega) (by omega)]
end C42
