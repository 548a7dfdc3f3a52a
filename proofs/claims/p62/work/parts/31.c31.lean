/-! C 31: lists of reports: adding, removing -/
section C31
variable {S : zG} {μ : zM} {a b n n' : Int} {w w' : Nat} {l l' : List zP}
theorem LRp.frame {μ' : zM} (h : LRp w μ a l) (h1 : ∀ i, μ' a i = μ a i) (h2 : ∀ i, μ' (a + 1) i = μ (a + 1) i) : LRp w μ' a l := ⟨by rw [h1]; exact h.1, fun k p hk c hc => by rw [h2]; exact h.2 k p hk c hc⟩
theorem c_isFull (A : RSh S a n) (h : LRp w μ a l) (hn : 8 * (l.length : Int) ≤ n) (hn2 : n ≤ 800) : f_X5_isFull a (S, μ) = some (.inl (if n < 8 * ((l.length : Int) + 1) then 1 else 0), (S, μ)) := by
  unfold f_X5_isFull
  rw [e_gf 1 A.o rfl, e_gr A.o A.r, e_al A.c]
  show (if n < w32 (w32 (μ a 1 + 1) * 8) then _ else _) = _
  have e1 : w32 (w32 (μ a 1 + 1) * 8) = 8 * ((l.length : Int) + 1) := by rw [h.1, w32_e (z := (l.length : Int) + 1) (by omega), w32_e (by omega)]; omega
  rw [e1]
  split <;> rfl
theorem c_addRow (A : RSh S a n) (h : LRp w μ a l) (hn : 8 * ((l.length : Int) + 1) ≤ n) (hn2 : n ≤ 800) : f_X5_addRow a (S, μ) = some (.inl (l.length : Int), (S, zup μ a 1 ((l.length : Int) + 1))) := by
  unfold f_X5_addRow
  have e0 : (if n < 8 * ((l.length : Int) + 1) then (1 : Int) else 0) = 0 := if_neg (by omega)
  rw [e_ob A.o, c_isFull A h (by omega) hn2, e_bn, e0, if_pos rfl, e_gf 1 A.o rfl, e_pf A.o, e_gf 1 A.o rfl]
  show some (Sum.inl (w32 (zup μ a 1 (w32 (μ a 1 + 1)) a 1 - 1)), (S, zup μ a 1 (w32 (μ a 1 + 1)))) = _
  have e1 : w32 (μ a 1 + 1) = (l.length : Int) + 1 := by rw [h.1, w32_e (by omega)]
  have e2 : w32 ((l.length : Int) + 1 - 1) = (l.length : Int) := by rw [w32_e (by omega)]; omega
  rw [zup_at, e1, e2]
theorem c_closeGap {f t : Nat} (A : RSh S a n) (h : LRp w μ a l) (hw : w ≤ 8) (hn : 8 * (l.length : Int) ≤ n) (hn2 : n ≤ 800) (hft : f ≤ t) (ht : t ≤ l.length) :
    ∃ μ', f_X5_closeGap a (f : Int) (t : Int) (S, μ) = some (.inl 0, (S, μ')) ∧ LRp w μ' a (l.take f ++ l.drop t) ∧ ∀ b, b ≠ a → b ≠ a + 1 → μ' b = μ b := by
  refine ⟨zup (zcp μ (a + 1) (8 * (t : Int)) (a + 1) (8 * (f : Int)) (8 * ((l.length : Int) - t))) a 1 ((l.length : Int) - (t - f)), ?_, ⟨?_, ?_⟩, ?_⟩
  · unfold f_X5_closeGap
    have e1 : w32 ((f : Int) * 8) = 8 * (f : Int) := by rw [w32_e (by omega)]; omega
    have e2 : w32 ((t : Int) * 8) = 8 * (t : Int) := by rw [w32_e (by omega)]; omega
    have e4 : w32 (w32 (μ a 1 - (t : Int)) * 8) = 8 * ((l.length : Int) - t) := by rw [h.1, w32_e (z := (l.length : Int) - (t : Int)) (by omega), w32_e (by omega)]; omega
    have e5 : w32 (8 * (t : Int) + 8 * ((l.length : Int) - t)) = 8 * (l.length : Int) := by rw [w32_e (by omega)]; omega
    rw [e_gf 1 A.o rfl]
    show (if w32 ((f : Int) * 8) < 0 then _ else if w32 ((t : Int) * 8) < w32 ((f : Int) * 8) then _ else if w32 (w32 (μ a 1 - (t : Int)) * 8) < 0 then _ else zgr 5 0 a (S, μ) fun x2 => zal x2 (S, μ) fun x3 => if x3 < w32 (w32 ((t : Int) * 8) + w32 (w32 (μ a 1 - (t : Int)) * 8)) then _ else zgr 5 0 a (S, μ) fun x4 => zgr 5 0 a (S, μ) fun x5 => zac x4 (w32 ((t : Int) * 8)) x5 (w32 ((f : Int) * 8)) (w32 (w32 (μ a 1 - (t : Int)) * 8)) (S, μ) _) = _
    rw [e1, e2, e4, e5, if_neg (by omega), if_neg (by omega), if_neg (by omega), e_gr A.o A.r, e_al A.c, if_neg (by omega), e_gr A.o A.r, e_gr A.o A.r]
    rw [e_ac A.c A.c (by omega), e_gf 1 A.o rfl, e_pf A.o]
    have e6 : zcp μ (a + 1) (8 * (t : Int)) (a + 1) (8 * (f : Int)) (8 * ((l.length : Int) - t)) a 1 = (l.length : Int) := by
      rw [zcp_b (by omega)]; exact h.1
    show some (Sum.inl 0, (S, zup _ a 1 (w32 (zcp μ (a + 1) (8 * (t : Int)) (a + 1) (8 * (f : Int)) (8 * ((l.length : Int) - t)) a 1 - w32 ((t : Int) - (f : Int)))))) = _
    rw [e6, w32_e (z := (t : Int) - (f : Int)) (by omega), w32_e (by omega)]
  · rw [zup_at, List.length_append, List.length_take, List.length_drop, Nat.min_eq_left (by omega)]
    omega
  · intro k p hk c hc
    rw [zup_b (by omega)]
    by_cases hkf : k < f
    · rw [List.getElem?_append_left (by rw [List.length_take]; omega), List.getElem?_take_of_lt hkf] at hk
      rw [zcp_j (by omega)]
      exact h.2 k p hk c hc
    · have hl : (l.take f).length = f := by rw [List.length_take]; omega
      rw [List.getElem?_append_right (by omega), hl, List.getElem?_drop] at hk
      have hlt : t + (k - f) < l.length := (List.getElem?_eq_some_iff.mp hk).1
      rw [zcp_in (by omega)]
      have := h.2 _ p hk c hc
      rw [← this]
      congr 1
      omega
  · intro b hb hb1
    funext i
    rw [zup_b hb, zcp_b hb1]
theorem c_removeRow {k : Nat} (A : RSh S a n) (h : LRp w μ a l) (hw : w ≤ 8) (hn : 8 * (l.length : Int) ≤ n) (hn2 : n ≤ 800) (hk : k < l.length) :
    ∃ μ', f_X5_removeRow a (k : Int) (S, μ) = some (.inl 0, (S, μ')) ∧ LRp w μ' a (l.eraseIdx k) ∧ ∀ b, b ≠ a → b ≠ a + 1 → μ' b = μ b := by
  obtain ⟨μ', e1, e2, e3⟩ := c_closeGap (f := k) (t := k + 1) A h hw hn hn2 (by omega) (by omega)
  refine ⟨μ', ?_, ?_, e3⟩
  · unfold f_X5_removeRow
    rw [if_neg (by omega), e_gf 1 A.o rfl]
    show (if (k : Int) < μ a 1 then _ else _) = _
    have e4 : w32 ((k : Int) + 1) = ((k + 1 : Nat) : Int) := by rw [w32_e (by omega)]; rfl
    rw [h.1, if_pos (by omega), e_ob A.o, e4, e1]
    rfl
  · rw [List.eraseIdx_eq_take_drop_succ]
    exact e2
theorem c_removeRow_no (A : RSh S a n) : f_X5_removeRow a (-1) (S, μ) = some (.inl 0, (S, μ)) := by
  unfold f_X5_removeRow
  rw [if_pos (by omega)]
theorem c_removeFirst {k : Int} (A : RSh S a n) (h : LRp w μ a l) (hw : w ≤ 8) (hn : 8 * (l.length : Int) ≤ n) (hn2 : n ≤ 800) (hk : 0 ≤ k) :
    ∃ μ', f_X5_removeFirst a k (S, μ) = some (.inl 0, (S, μ')) ∧ LRp w μ' a (l.drop k.toNat) ∧ ∀ b, b ≠ a → b ≠ a + 1 → μ' b = μ b := by
  have e0 : max 0 (min k (l.length : Int)) = ((min k.toNat l.length : Nat) : Int) := by omega
  obtain ⟨μ', e1, e2, e3⟩ := c_closeGap (f := 0) (t := min k.toNat l.length) A h hw hn hn2 (by omega) (by omega)
  refine ⟨μ', ?_, ?_, e3⟩
  · unfold f_X5_removeFirst
    rw [e_gf 1 A.o rfl, e_ob A.o]
    show zbn (f_X5_closeGap a 0 (max 0 (min k (μ a 1))) (S, μ)) _ = _
    rw [h.1, e0]
    rw [show f_X5_closeGap a 0 ((min k.toNat l.length : Nat) : Int) (S, μ) = _ from e1]
    rfl
  · rw [List.take_zero, List.nil_append] at e2
    rcases Nat.le_total k.toNat l.length with hl | hl
    · rw [Nat.min_eq_left hl] at e2; exact e2
    · rw [Nat.min_eq_right hl, List.drop_length] at e2
      rw [List.drop_eq_nil_of_le hl]; exact e2
end C31
