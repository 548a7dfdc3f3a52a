/-! C 32: lists of reports: copies, removal of many -/
def zct (s i : Int) : Prop := zand (zshr s i) 1 = 1
def zctD (s i : Int) : Decidable (zct s i) := by unfold zct; infer_instance
section C32
variable {S : zG} {μ : zM} {a b n n' : Int} {w w' : Nat} {l l' : List zP}
theorem c_contains {s i : Int} {σ : zS} : f_X7_contains s i σ = some (.inl (@ite _ (zct s i) (zctD s i) 1 0), σ) := by
  unfold f_X7_contains
  by_cases h : zct s i
  · rw [if_pos (show zand (zshr s i) 1 = 1 from h), if_pos h]
  · rw [if_neg (show ¬ zand (zshr s i) 1 = 1 from h), if_neg h]
theorem c_addCopy_go {k r : Int} (A : RSh S a n) (B : RSh S b n') (hab : a ≠ b ∧ a + 1 ≠ b ∧ a ≠ b + 1) (hr : 0 ≤ r ∧ 8 * (r + 1) ≤ n) (hk : 0 ≤ k ∧ 8 * (k + 1) ≤ n') (hn : n ≤ 800 ∧ n' ≤ 800) : ∀ (j m : Nat) (μ : zM), j ≤ 8 → j < m → r < μ a 1 ∧ 8 * μ a 1 ≤ n → k < μ b 1 ∧ 8 * μ b 1 ≤ n' →
    f_X5_addCopy_8 m a b k r (8 - (j : Int)) (S, μ) = some (.inl r, (S, zcp μ (b + 1) (8 * k + (8 - (j : Int))) (a + 1) (8 * r + (8 - (j : Int))) (j : Int))) := by
  intro j
  induction j with
  | zero =>
    intro m μ h8 hm ha hb
    cases m with
    | zero => exact absurd hm (by omega)
    | succ m =>
      unfold f_X5_addCopy_8
      rw [if_neg (by omega)]
      congr 2
      congr 1
      funext x y
      rw [zcp_j (by omega)]
  | succ j ih =>
    intro m μ h8 hm ha hb
    cases m with
    | zero => exact absurd hm (by omega)
    | succ m =>
      unfold f_X5_addCopy_8
      have e1 : w32 (8 - ((j + 1 : Nat) : Int) + 1) = 8 - (j : Int) := by rw [w32_e (by omega)]; omega
      rw [if_pos (by omega), e_ob B.o, c_X5_get B (by omega) (by omega) (by omega) (by omega), e_bn, e_ob A.o, c_X5_put A (by omega) (by omega) (by omega) (by omega), e_bn, e1]
      rw [ih m (zup μ (a + 1) (8 * r + (8 - ((j + 1 : Nat) : Int))) (μ (b + 1) (8 * k + (8 - ((j + 1 : Nat) : Int))))) (by omega) (by omega) (by rw [zup_b (by omega)]; exact ha) (by rw [zup_b (by omega)]; exact hb)]
      congr 2
      congr 1
      funext x y
      by_cases hx : x = a + 1
      · subst hx
        by_cases h1 : 8 * r + (8 - (j : Int)) ≤ y ∧ y < 8 * r + (8 - (j : Int)) + (j : Int)
        · rw [zcp_in h1, zcp_in (by omega), zup_b (by omega)]
          congr 1
          omega
        · rw [zcp_j h1]
          by_cases h2 : y = 8 * r + (8 - ((j + 1 : Nat) : Int))
          · rw [h2, zup_at, zcp_in (by omega)]
            congr 1
            omega
          · rw [zup_j h2, zcp_j (by omega)]
      · rw [zcp_b hx, zcp_b hx, zup_b hx]
theorem c_addCopy {k : Nat} {p : zP} (A : RSh S a n) (B : RSh S b n') (hab : a ≠ b ∧ a + 1 ≠ b ∧ a ≠ b + 1) (ha : LRp w μ a l) (hb : LRp w' μ b l') (hn : 8 * ((l.length : Int) + 1) ≤ n) (hn' : 8 * (l'.length : Int) ≤ n') (hn2 : n ≤ 800 ∧ n' ≤ 800) (hw : w ≤ 8) (hw' : w' ≤ 8) (hk : l'[k]? = some p) :
    ∃ μ' p', f_X5_addCopy a b (k : Int) (S, μ) = some (.inl (l.length : Int), (S, μ')) ∧ LRp w μ' a (l ++ [p']) ∧ (∀ c, c < w' → p' c = p c) ∧ ∀ x, x ≠ a → x ≠ a + 1 → μ' x = μ x := by
  have hkl : k < l'.length := (List.getElem?_eq_some_iff.mp hk).1
  refine ⟨zcp (zup μ a 1 ((l.length : Int) + 1)) (b + 1) (8 * (k : Int)) (a + 1) (8 * (l.length : Int)) 8, fun c => μ (b + 1) (8 * (k : Int) + (c : Int)), ?_, ⟨?_, ?_⟩, ?_, ?_⟩
  · unfold f_X5_addCopy
    rw [e_ob A.o, c_addRow A ha hn hn2.1, e_bn]
    have h0 := c_addCopy_go (k := (k : Int)) (r := (l.length : Int)) A B hab (by omega) (by omega) hn2 8 zFU (zup μ a 1 ((l.length : Int) + 1)) (by omega) (by show 8 < 1000000; omega) (by rw [zup_at]; omega) (by rw [zup_b (by omega), hb.1]; omega)
    have e1 : (8 : Int) - ((8 : Nat) : Int) = 0 := rfl
    rw [e1, Int.add_zero, Int.add_zero] at h0
    exact h0
  · rw [zcp_b (by omega), zup_at, List.length_append, List.length_singleton]
    rfl
  · intro k9 p9 hk9 c hc
    by_cases h : k9 < l.length
    · rw [List.getElem?_append_left h] at hk9
      rw [zcp_j (by omega), zup_b (by omega)]
      exact ha.2 k9 p9 hk9 c hc
    · have h9 : k9 = l.length := by
        have := (List.getElem?_eq_some_iff.mp hk9).1
        rw [List.length_append, List.length_singleton] at this
        omega
      subst h9
      rw [List.getElem?_append_right (Nat.le_refl _), Nat.sub_self] at hk9
      have e9 : (fun c : Nat => μ (b + 1) (8 * (k : Int) + (c : Int))) = p9 := Option.some.inj hk9
      rw [← e9, zcp_in (by omega), zup_b (by omega)]
      show μ (b + 1) _ = μ (b + 1) _
      congr 1
      omega
  · intro c hc
    exact hb.2 k p hk c hc
  · intro x h1 h2
    funext y
    rw [zcp_b h2, zup_b h1]
theorem c_lowMoved {k : Nat} {p : zP} {s : Int} (A : RSh S a n) (h : LRp w μ a l) (hn : 8 * (l.length : Int) ≤ n) (hn2 : n ≤ 800) (hw : w ≤ 8) (h6 : 6 < w) (hk : l[k]? = some p) : f_X5_lowMoved a (k : Int) s (S, μ) = some (.inl (max 0 (w32 (p 5 - s))), (S, μ)) := by
  unfold f_X5_lowMoved
  rw [e_ob A.o, c_get5 A h hn hn2 hw hk (by omega), e_bn]
theorem c_highMoved {k : Nat} {p : zP} {s : Int} (A : RSh S a n) (h : LRp w μ a l) (hn : 8 * (l.length : Int) ≤ n) (hn2 : n ≤ 800) (hw : w ≤ 8) (h6 : 6 < w) (hk : l[k]? = some p) : f_X5_highMoved a (k : Int) s (S, μ) = some (.inl (min 999 (w32 (p 6 + s))), (S, μ)) := by
  unfold f_X5_highMoved
  rw [e_ob A.o, c_get6 A h hn hn2 hw hk (by omega), e_bn]
theorem c_copyFrom (A : RSh S a n) (B : RSh S b n') (hab : a ≠ b ∧ a + 1 ≠ b ∧ a ≠ b + 1) (hb : LRp w μ b l') (hn : 8 * (l'.length : Int) ≤ n) (hn' : 8 * (l'.length : Int) ≤ n') (hn2 : n ≤ 800 ∧ n' ≤ 800) (hw : w ≤ 8) :
    ∃ μ', f_X5_copyFrom a b (S, μ) = some (.inl 0, (S, μ')) ∧ LRp w μ' a l' ∧ ∀ x, x ≠ a → x ≠ a + 1 → μ' x = μ x := by
  refine ⟨zup (zcp μ (b + 1) 0 (a + 1) 0 (8 * (l'.length : Int))) a 1 (l'.length : Int), ?_, ⟨?_, ?_⟩, ?_⟩
  · unfold f_X5_copyFrom
    have e0 : min (w32 (μ b 1 * 8)) (min n' n) = 8 * (l'.length : Int) := by rw [hb.1, w32_e (by omega)]; omega
    rw [e_gf 1 B.o rfl, e_gr B.o B.r, e_al B.c, e_gr A.o A.r, e_al A.c]
    show (if 0 < min (w32 (μ b 1 * 8)) (min n' n) then _ else _) = _
    by_cases h0 : 0 < l'.length
    · rw [e0, if_pos (by omega), e_gr B.o B.r, e_gr A.o A.r]
      rw [e_ac B.c A.c (by omega), e_gf 1 B.o rfl, e_pf A.o]
      show some (Sum.inl 0, (S, zup _ a 1 (zcp μ (b + 1) 0 (a + 1) 0 (8 * (l'.length : Int)) b 1))) = _
      rw [zcp_b (by omega), hb.1]
    · rw [e0, if_neg (by omega), e_gf 1 B.o rfl, e_pf A.o]
      show some (Sum.inl 0, (S, zup μ a 1 (μ b 1))) = _
      rw [hb.1]
      congr 2
      congr 1
      funext x y
      by_cases hx : x = a ∧ y = 1
      · rw [hx.1, hx.2, zup_at, zup_at]
      · show (if x = a ∧ y = 1 then _ else μ x y) = if x = a ∧ y = 1 then _ else _
        rw [if_neg hx, if_neg hx, zcp_j (by omega)]
  · rw [zup_at]
  · intro k p hk c hc
    have hl : k < l'.length := (List.getElem?_eq_some_iff.mp hk).1
    rw [zup_b (by omega), zcp_in (by omega)]
    have := hb.2 k p hk c hc
    rw [← this]
    congr 1
    omega
  · intro x h1 h2
    funext y
    rw [zup_b h1, zcp_b h2]
end C32
