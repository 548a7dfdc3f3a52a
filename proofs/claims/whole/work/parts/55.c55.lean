/-! C 55: the model: time, copies -/
section C55
variable {S : zG} {μ μ' : zM} {m A B : Int} {M X : zD} {Q : zR × zS → Prop}
theorem b_pass_in {a c0 : Int} {l : List zP} {r14 : Int → Int → Int → zS → zFn} (H : MSh S m A) (ha : 0 ≤ a ∧ a < 6) (hlen : l.length ≤ 36) (hc0 : 0 ≤ c0 ∧ c0 ≤ 1000)
    (hr : ∀ μ', D8 (μ' A) (M.wli (zup1 M.li a (M.yng l))) → FA A μ μ' → zo (r14 m (c0 + (l.length - (M.yng l).length : Int)) (w32 (a + 1)) (S, μ')) Q) : ∀ (n : Nat) (j : Nat) (c : Int) (μ2 : zM),
    (D8 (μ2 A) (M.wli (zup1 M.li a (M.yng (l.take j) ++ l.drop j))) ∧ j ≤ l.length ∧ c = c0 + (j - (M.yng (l.take j)).length : Int) ∧ FA A μ μ2) → l.length - j < n →
    zo (f_X8_doPass_25 r14 n m c a ((M.yng (l.take j)).length : Int) (S, μ2)) Q := by
  refine zo_l3 (F := fun n (j : Nat) (c : Int) (μ2 : zM) => f_X8_doPass_25 r14 n m c a ((M.yng (l.take j)).length : Int) (S, μ2)) _ (fun j _ _ => l.length - j) ?_
  rintro n j c μ2 ⟨h, hj, hc, hfr⟩ ih
  refine j_X8_doPass_25 ?_
  have hfl : (M.yng (l.take j)).length ≤ j := by
    have := List.length_filter_le (fun p : zP => decide (¬ M.ru 3 < w32 (M.tm - p 4))) (l.take j)
    rw [List.length_take] at this
    have e : (M.yng (l.take j)).length ≤ min j l.length := this
    omega
  have e1 : (M.wli (zup1 M.li a (M.yng (l.take j) ++ l.drop j))).li a = M.yng (l.take j) ++ l.drop j := zup1_at
  refine zo_ob H.o (by omega) ?_
  refine zo_bn (b_manyOf H h ha) ?_
  rw [e1, List.length_append, List.length_drop]
  by_cases e : j < l.length
  · obtain ⟨p, hp, hd, hpm⟩ := drop_cons e
    have hk : ((M.wli (zup1 M.li a (M.yng (l.take j) ++ l.drop j))).li a)[(M.yng (l.take j)).length]? = some p := by rw [e1, List.getElem?_append_right (Nat.le_refl _), Nat.sub_self, hd]; rfl
    have ets : l.take (j + 1) = l.take j ++ [p] := take_s hp
    refine zo_pos (by omega) ?_
    refine zo_ob H.o (by omega) ?_
    refine zo_bn (b_ofR4 H h ha hk) ?_
    refine zo_ob H.o (by omega) ?_
    refine zo_bn (b_ageAt H h) ?_
    refine zo_ob H.o (by omega) ?_
    refine zo_bn (b_rule H h (show 0 ≤ (3 : Int) ∧ (3 : Int) < 5 by decide)) ?_
    refine zo_ite (fun h0 => ?_) (fun h0 => ?_)
    · have h0' : M.ru 3 < w32 (M.tm - p 4) := h0
      have e4 : M.yng (l.take (j + 1)) = M.yng (l.take j) := by
        rw [ets]
        unfold zD.yng
        rw [List.filter_append, List.filter_cons, if_neg (by rw [decide_eq_true_eq]; exact fun z => z h0')]
        exact List.append_nil _
      refine j_X8_doPass_60 ?_
      refine zo_neg (by decide) ?_
      refine zo_ob H.o (by omega) ?_
      obtain ⟨μ3, e5, h3, f3⟩ := b_dropReport H h (k := (M.yng (l.take j)).length) ha (by rw [e1, List.length_append, List.length_drop]; omega)
      refine zo_bn e5 ?_
      refine j_X8_doPass_80 ?_
      refine zo_neg (by decide) ?_
      refine j_X8_doPass_91 ?_
      rw [w32_e (by omega)]
      have key := ih (j + 1) (c + 1) μ3 ⟨?_, by omega, by rw [hc, e4]; omega, FA.tr hfr f3⟩ (by omega)
      · rw [e4] at key
        exact key
      · rw [e1] at h3
        have e6 : (M.yng (l.take j) ++ l.drop j).eraseIdx (M.yng (l.take j)).length = M.yng (l.take (j + 1)) ++ l.drop (j + 1) := by
          rw [e4, List.eraseIdx_append_of_length_le (Nat.le_refl _), Nat.sub_self, hd]
          rfl
        rw [e6] at h3
        have e7 : (M.wli (zup1 M.li a (M.yng (l.take j) ++ l.drop j))).wli (zup1 (M.wli (zup1 M.li a (M.yng (l.take j) ++ l.drop j))).li a (M.yng (l.take (j + 1)) ++ l.drop (j + 1))) = M.wli (zup1 M.li a (M.yng (l.take (j + 1)) ++ l.drop (j + 1))) := by
          show M.wli (zup1 (zup1 M.li a _) a _) = _
          rw [zup1_2]
        rw [e7] at h3
        exact h3
    · have h0' : ¬ M.ru 3 < w32 (M.tm - p 4) := h0
      have e4 : M.yng (l.take (j + 1)) = M.yng (l.take j) ++ [p] := by
        rw [ets]
        unfold zD.yng
        rw [List.filter_append, List.filter_cons, if_pos (decide_eq_true h0')]
        rfl
      refine j_X8_doPass_60 ?_
      refine zo_pos rfl ?_
      refine j_X8_doPass_80 ?_
      refine zo_pos rfl ?_
      refine j_X8_doPass_91 ?_
      rw [w32_e (z := c + 0) (by omega), w32_s (by omega)]
      have key := ih (j + 1) (c + 0) μ2 ⟨?_, by omega, by rw [hc, e4, List.length_append, List.length_singleton]; omega, hfr⟩ (by omega)
      · rw [e4, List.length_append, List.length_singleton] at key
        exact key
      · rw [e4, List.append_assoc]
        rw [hd] at h
        exact h
  · have ej : j = l.length := by omega
    subst ej
    rw [List.take_length, List.drop_length, List.append_nil] at h
    rw [List.take_length] at hc ⊢
    refine zo_neg (by omega) ?_
    refine j_X8_doPass_96 ?_
    rw [hc]
    exact hr μ2 h hfr
theorem b_pass_go {N : Nat} {fin : zD × Int} (H : MSh S m A) (hN : N ≤ 6) : ∀ (n : Nat) (k : Nat) (c : Int) (μ2 : zM),
    (∃ M', D8 (μ2 A) M' ∧ M'.an.length = N ∧ k ≤ N ∧ zlp (fun i z => (z.1.wli (zup1 z.1.li (i : Int) (z.1.yng (z.1.li (i : Int)))), z.2 + ((z.1.li (i : Int)).length - (z.1.yng (z.1.li (i : Int))).length : Int))) k (N - k) (M', c) = fin ∧ FA A μ μ2 ∧ 0 ≤ c ∧ c ≤ 36 * (k : Int)) → N - k < n →
    zo (f_X8_doPass_14 n m c (k : Int) (S, μ2)) (fun r => ∃ μ', r = (.inl fin.2, (S, μ')) ∧ D8 (μ' A) fin.1 ∧ FA A μ μ') := by
  refine zo_l3 _ (fun k _ _ => N - k) ?_
  rintro n k c μ2 ⟨M', h, hA, hk, hfin, hfr, hc0, hc1⟩ ih
  refine j_X8_doPass_14 ?_
  refine zo_ob H.o (by omega) ?_
  refine zo_bn (b_agents H h) ?_
  by_cases e : k < N
  · have e9 : N - k = (N - (k + 1)) + 1 := by omega
    rw [e9] at hfin
    unfold zlp at hfin
    refine zo_pos (by omega) ?_
    have h6 : 0 ≤ (k : Int) ∧ (k : Int) < 6 := by omega
    have hll := h.ll (k : Int) h6.1 h6.2
    have hfl : (M'.yng (M'.li (k : Int))).length ≤ (M'.li (k : Int)).length := List.length_filter_le _ _
    refine b_pass_in (μ := μ2) (M := M') (c0 := c) (l := M'.li (k : Int)) H h6 hll (by omega) ?_ zFU 0 c μ2 ⟨?_, by omega, ?_, FA.rf⟩ (by show _ - 0 < 1000000; omega)
    · intro μ3 h3 f3
      rw [w32_s (k := k) (by omega)]
      exact ih (k + 1) _ μ3 ⟨_, h3, hA, by omega, hfin, FA.tr hfr f3, by omega, by omega⟩ (by omega)
    · have e8 : M'.yng ((M'.li (k : Int)).take 0) ++ (M'.li (k : Int)).drop 0 = M'.li (k : Int) := rfl
      rw [e8, wli_id]
      exact h
    · show c = c + (((0 : Nat) : Int) - ((0 : Nat) : Int))
      omega
  · have e9 : N - k = 0 := by omega
    rw [e9] at hfin
    unfold zlp at hfin
    refine zo_neg (by omega) ?_
    exact zo_rt ⟨μ2, by rw [← hfin], by rw [← hfin]; exact h, hfr⟩
theorem b_doPass (H : MSh S m A) (h : D8 (μ A) M) {t : Int} : ∃ μ', f_X8_doPass m t (S, μ) = some (.inl (M.pas t).2, (S, μ')) ∧ D8 (μ' A) (M.pas t).1 ∧ FA A μ μ' := by
  have h6 := h.al
  apply zo_ux
  refine j_X8_doPass ?_
  refine zo_gr H.o H.r3 (by omega) (by omega) ?_
  refine zo_ld H.A (by omega) h.tm ?_
  refine zo_si H.A (by omega) ?_
  exact b_pass_go (μ := μ) (N := M.an.length) (fin := M.pas t) H h6 zFU 0 0 _ ⟨M.wtm (w32 (M.tm + t)), by rw [zup_fn]; exact h.setTm, rfl, by omega, rfl, FA.up, by decide, by decide⟩ (by show M.an.length - 0 < 1000000; omega)
theorem b_keepAside (H : MSh S m A) : ∃ μ', f_X8_keepAside m (S, μ) = some (.inl 0, (S, μ')) ∧ (∀ j, 0 ≤ j → j < 2405 → μ' (m + 5) j = μ (m + 1) j) ∧ FA (m + 5) μ μ' := by
  apply zo_ux
  refine j_X8_keepAside ?_
  refine zo_l2 (F := fun n (k : Nat) (μ2 : zM) => f_X8_keepAside_2 n m (k : Int) (S, μ2)) (fun k μ2 => k ≤ 2405 ∧ (∀ j, 0 ≤ j → j < (k : Int) → μ2 (m + 5) j = μ (m + 1) j) ∧ FA (m + 5) μ μ2) (fun k _ => 2405 - k) ?_ zFU 0 μ ⟨by omega, fun j h1 h2 => absurd h2 (by show ¬ j < 0; omega), FA.rf⟩ (by show 2405 - 0 < 1000000; decide)
  rintro n k μ2 ⟨hk, hv, hf⟩ ih
  refine j_X8_keepAside_2 ?_
  by_cases e : k < 2405
  · refine zo_pos (by omega) ?_
    refine zo_gr H.o H.r9 (by omega) (by omega) ?_
    refine zo_gr H.o H.r1 (by omega) (by omega) ?_
    refine zo_ld H.a1 (by omega) (v := μ (m + 1) (k : Int)) (by rw [hf _ (by omega)]) ?_
    refine zo_si H.a5 (by omega) ?_
    rw [w32_s (k := k) (by omega)]
    refine ih (k + 1) _ ⟨by omega, ?_, FA.tr hf FA.up⟩ (by omega)
    intro j h1 h2
    by_cases ej : j = (k : Int)
    · rw [ej, zup_at]
    · rw [zup_j ej]
      exact hv j h1 (by omega)
  · refine zo_neg (by omega) ?_
    exact zo_rt ⟨μ2, rfl, fun j h1 h2 => hv j h1 (by omega), hf⟩
theorem b_layBack {r : Int} (H : MSh S m A) : ∃ μ', f_X8_layBack m r (S, μ) = some (.inl r, (S, μ')) ∧ (∀ j, 0 ≤ j → j < 2405 → μ' (m + 1) j = μ (m + 5) j) ∧ FA (m + 1) μ μ' := by
  apply zo_ux
  refine j_X8_layBack ?_
  refine zo_l2 (F := fun n (k : Nat) (μ2 : zM) => f_X8_layBack_2 n m r (k : Int) (S, μ2)) (fun k μ2 => k ≤ 2405 ∧ (∀ j, 0 ≤ j → j < (k : Int) → μ2 (m + 1) j = μ (m + 5) j) ∧ FA (m + 1) μ μ2) (fun k _ => 2405 - k) ?_ zFU 0 μ ⟨by omega, fun j h1 h2 => absurd h2 (by show ¬ j < 0; omega), FA.rf⟩ (by show 2405 - 0 < 1000000; decide)
  rintro n k μ2 ⟨hk, hv, hf⟩ ih
  refine j_X8_layBack_2 ?_
  by_cases e : k < 2405
  · refine zo_pos (by omega) ?_
    refine zo_gr H.o H.r1 (by omega) (by omega) ?_
    refine zo_gr H.o H.r9 (by omega) (by omega) ?_
    refine zo_ld H.a5 (by omega) (v := μ (m + 5) (k : Int)) (by rw [hf _ (by omega)]) ?_
    refine zo_si H.a1 (by omega) ?_
    rw [w32_s (k := k) (by omega)]
    refine ih (k + 1) _ ⟨by omega, ?_, FA.tr hf FA.up⟩ (by omega)
    intro j h1 h2
    by_cases ej : j = (k : Int)
    · rw [ej, zup_at]
    · rw [zup_j ej]
      exact hv j h1 (by omega)
  · refine zo_neg (by omega) ?_
    exact zo_rt ⟨μ2, rfl, fun j h1 h2 => hv j h1 (by omega), hf⟩
/-- the model's past -/
def HRel (μ : zM) (m : Int) (L : List zD) : Prop := (L.length ≤ 6) ∧ (μ m 25 = (L.length : Int)) ∧ (∀ (i : Nat) (X : zD), L[i]? = some X → D8 (fun j => μ (m + 10) (2405 * (i : Int) + j)) X)
theorem HRel.mk {μ : zM} {m : Int} {L : List zD} (h : (L.length ≤ 6) ∧ (μ m 25 = (L.length : Int)) ∧ (∀ (i : Nat) (X : zD), L[i]? = some X → D8 (fun j => μ (m + 10) (2405 * (i : Int) + j)) X)) : HRel μ m L := h
theorem HRel.n {μ : zM} {m : Int} {L : List zD} (h : HRel μ m L) : L.length ≤ 6 := h.1
theorem HRel.c {μ : zM} {m : Int} {L : List zD} (h : HRel μ m L) : μ m 25 = (L.length : Int) := h.2.1
theorem HRel.v {μ : zM} {m : Int} {L : List zD} (h : HRel μ m L) : ∀ (i : Nat) (X : zD), L[i]? = some X → D8 (fun j => μ (m + 10) (2405 * (i : Int) + j)) X := h.2.2
/-- what remembering adds -/
def zpush (L : List zD) (M : zD) : List zD := (if L.length = 6 then L.tail else L) ++ [M]
theorem zpush_len {L : List zD} {M : zD} (h : L.length ≤ 6) : (zpush L M).length ≤ 6 ∧ 0 < (zpush L M).length := by
  unfold zpush
  rw [List.length_append, List.length_singleton]
  split
  · rw [List.length_tail]; omega
  · omega
/-- what remembering writes -/
def FP (m : Int) (μ μ' : zM) : Prop := (∀ y, y ≠ m → y ≠ m + 10 → μ' y = μ y) ∧ (∀ k, k ≠ 25 → μ' m k = μ m k)
theorem FP.mk {m : Int} {μ μ' : zM} (h : (∀ y, y ≠ m → y ≠ m + 10 → μ' y = μ y) ∧ (∀ k, k ≠ 25 → μ' m k = μ m k)) : FP m μ μ' := h
theorem FP.x {m : Int} {μ μ' : zM} (h : FP m μ μ') : ∀ y, y ≠ m → y ≠ m + 10 → μ' y = μ y := h.1
theorem FP.f {m : Int} {μ μ' : zM} (h : FP m μ μ') : ∀ k, k ≠ 25 → μ' m k = μ m k := h.2
theorem FP.rf {m : Int} {μ : zM} : FP m μ μ := FP.mk ⟨fun _ _ _ => rfl, fun _ _ => rfl⟩
theorem FP.tr {m : Int} {μ μ1 μ2 : zM} (h : FP m μ μ1) (k : FP m μ1 μ2) : FP m μ μ2 := FP.mk ⟨fun y h1 h2 => (k.x y h1 h2).trans (h.x y h1 h2), fun i h1 => (k.f i h1).trans (h.f i h1)⟩
theorem FP.u10 {m i v : Int} {μ : zM} : FP m μ (zup μ (m + 10) i v) := FP.mk ⟨fun y _ h2 => zup_c h2, fun _ _ => zup_b (by omega)⟩
theorem FP.u25 {m v : Int} {μ : zM} : FP m μ (zup μ m 25 v) := FP.mk ⟨fun y h1 _ => zup_c h1, fun _ h1 => zup_j h1⟩
theorem b_rem52 (H : MSh S m A) (h : D8 (μ (m + 1)) M) {L : List zD} (hL : HRel μ m L) (h6 : L.length < 6) : zo (f_X8_remember_52 m (S, μ)) (fun r => ∃ μ', r = (.inl 0, (S, μ')) ∧ HRel μ' m (L ++ [M]) ∧ FP m μ μ') := by
  refine j_X8_remember_52 ?_
  refine zo_l2 (F := fun n (k : Nat) (μ2 : zM) => f_X8_remember_54 n m (k : Int) (S, μ2)) (fun k μ2 => k ≤ 2405 ∧ (∀ j, 0 ≤ j → j < (k : Int) → μ2 (m + 10) (2405 * (L.length : Int) + j) = μ (m + 1) j) ∧ (∀ j, j < 2405 * (L.length : Int) → μ2 (m + 10) j = μ (m + 10) j) ∧ FP m μ μ2 ∧ μ2 m 25 = (L.length : Int)) (fun k _ => 2405 - k) ?_ zFU 0 μ ⟨by omega, fun j h1 h2 => absurd h2 (by show ¬ j < 0; omega), fun _ _ => rfl, FP.rf, hL.c⟩ (by show 2405 - 0 < 1000000; decide)
  rintro n k μ2 ⟨hk, hv, ho, hf, hc⟩ ih
  refine j_X8_remember_54 ?_
  by_cases e : k < 2405
  · refine zo_pos (by omega) ?_
    refine zo_gr H.o H.r24 (by omega) (by omega) ?_
    refine zo_gf H.o hc (by omega) (by omega) ?_
    refine zo_gr H.o H.r1 (by omega) (by omega) ?_
    refine zo_ld H.a1 (by omega) (v := μ (m + 1) (k : Int)) (by rw [hf.x _ (by omega) (by omega)]) ?_
    have ei : w32 ((w32 (2405 * (L.length : Int))) + (k : Int)) = 2405 * (L.length : Int) + (k : Int) := by rw [w32_e (z := 2405 * (L.length : Int)) (by omega), w32_e (by omega)]
    rw [ei]
    refine zo_si H.a10 (by omega) ?_
    rw [w32_s (k := k) (by omega)]
    refine ih (k + 1) _ ⟨by omega, ?_, fun j hj => by rw [zup_j (by omega)]; exact ho j hj, FP.tr hf FP.u10, by rw [zup_b (by omega)]; exact hc⟩ (by omega)
    intro j h1 h2
    by_cases ej : j = (k : Int)
    · rw [ej, zup_at]
    · rw [zup_j (by omega)]
      exact hv j h1 (by omega)
  · refine zo_neg (by omega) ?_
    refine j_X8_remember_88 ?_
    refine zo_gf H.o hc (by omega) (by omega) ?_
    refine zo_pf 25 H.o (by omega) (by omega) ?_
    have ew : w32 ((L.length : Int) + 1) = (L.length : Int) + 1 := w32_e (by omega)
    rw [ew]
    refine zo_rt ⟨_, rfl, HRel.mk ⟨by rw [List.length_append]; exact h6, by rw [zup_at, List.length_append]; rfl, ?_⟩, FP.tr hf FP.u25⟩
    intro i X hi
    rcases snoc_get hi with ⟨h1, h2⟩ | ⟨h1, h2⟩
    · refine (hL.v i X h2).keep (fun j h3 h4 => ?_)
      show zup μ2 m 25 _ (m + 10) _ = μ (m + 10) _
      rw [zup_b (by omega)]
      exact ho _ (by omega)
    · rw [h2, h1]
      refine h.keep (fun j h3 h4 => ?_)
      show zup μ2 m 25 _ (m + 10) _ = μ (m + 1) _
      rw [zup_b (by omega)]
      exact hv j h3 (by omega)
theorem b_remember (H : MSh S m A) (h : D8 (μ (m + 1)) M) {L : List zD} (hL : HRel μ m L) : ∃ μ', f_X8_remember m (S, μ) = some (.inl 0, (S, μ')) ∧ HRel μ' m (zpush L M) ∧ FP m μ μ' := by
  have h6 := hL.n
  apply zo_ux
  refine j_X8_remember ?_
  refine zo_gf H.o hL.c (by omega) (by omega) ?_
  by_cases e6 : L.length = 6
  · have ep : zpush L M = L.tail ++ [M] := by unfold zpush; rw [if_pos e6]
    rw [ep]
    refine zo_pos (by omega) ?_
    rw [show (2405 : Int) = 2405 + ((0 : Nat) : Int) from rfl]
    refine zo_l2 (F := fun n (k : Nat) (μ2 : zM) => f_X8_remember_13 n m (2405 + (k : Int)) (S, μ2)) (fun k μ2 => k ≤ 12025 ∧ (∀ j, 0 ≤ j → j < (k : Int) → μ2 (m + 10) j = μ (m + 10) (j + 2405)) ∧ (∀ j, (k : Int) ≤ j → μ2 (m + 10) j = μ (m + 10) j) ∧ FP m μ μ2 ∧ μ2 m 25 = 6) (fun k _ => 12025 - k) ?_ zFU 0 μ ⟨by omega, fun j h1 h2 => absurd h2 (by show ¬ j < 0; omega), fun _ _ => rfl, FP.rf, by rw [hL.c, e6]; rfl⟩ (by show 12025 - 0 < 1000000; decide)
    rintro n k μ2 ⟨hk, hv, ho, hf, hc⟩ ih
    refine j_X8_remember_13 ?_
    by_cases e : k < 12025
    · refine zo_pos (by omega) ?_
      refine zo_gr H.o H.r24 (by omega) (by omega) ?_
      refine zo_gr H.o H.r24 (by omega) (by omega) ?_
      refine zo_ld H.a10 (by omega) (ho _ (by omega)) ?_
      have ei : w32 (2405 + (k : Int) - 2405) = (k : Int) := by rw [w32_e (by omega)]; omega
      have e1 : w32 (2405 + (k : Int) + 1) = 2405 + ((k + 1 : Nat) : Int) := by rw [w32_e (by omega)]; omega
      rw [ei, e1]
      refine zo_si H.a10 (by omega) ?_
      refine ih (k + 1) _ ⟨by omega, ?_, fun j hj => by rw [zup_j (by omega)]; exact ho j (by omega), FP.tr hf FP.u10, by rw [zup_b (by omega)]; exact hc⟩ (by omega)
      intro j h1 h2
      by_cases ej : j = (k : Int)
      · rw [ej, zup_at]
        exact congrArg (μ (m + 10)) (by omega)
      · rw [zup_j ej]
        exact hv j h1 (by omega)
    · refine zo_neg (by omega) ?_
      refine j_X8_remember_42 ?_
      refine zo_gf H.o hc (by omega) (by omega) ?_
      refine zo_pf 25 H.o (by omega) (by omega) ?_
      have ew : w32 ((6 : Int) - 1) = 5 := w32_e (by decide)
      rw [ew]
      have hL2 : HRel (zup μ2 m 25 5) m L.tail := by
        refine HRel.mk ⟨by rw [List.length_tail]; omega, by rw [zup_at, List.length_tail, e6]; rfl, ?_⟩
        intro i X hi
        have hil := (List.getElem?_eq_some_iff.mp hi).1
        rw [List.length_tail] at hil
        rw [List.getElem?_tail] at hi
        refine (hL.v (i + 1) X hi).keep (fun j h3 h4 => ?_)
        show zup μ2 m 25 _ (m + 10) _ = μ (m + 10) _
        rw [zup_b (by omega), hv _ (by omega) (by omega)]
        exact congrArg (μ (m + 10)) (by omega)
      have h2 : D8 (zup μ2 m 25 5 (m + 1)) M := by
        rw [zup_c (by omega), hf.x _ (by omega) (by omega)]
        exact h
      have key := b_rem52 H h2 hL2 (by rw [List.length_tail]; omega)
      refine zo_mono key ?_
      rintro r ⟨μ3, hr, h3, f3⟩
      exact ⟨μ3, hr, h3, FP.tr hf (FP.tr FP.u25 f3)⟩
  · have ep : zpush L M = L ++ [M] := by unfold zpush; rw [if_neg e6]
    rw [ep]
    refine zo_neg (by omega) ?_
    exact b_rem52 H h hL (by omega)
end C55
