/-! C 40: rounds, time, removing -/
theorem zup1_2 {α : Type} {f : Int → α} {i : Int} {v w : α} : zup1 (zup1 f i v) i w = zup1 f i w := by
  funext x
  unfold zup1
  split <;> rfl
theorem zup1_id {α : Type} {f : Int → α} {i : Int} : zup1 f i (f i) = f := by
  funext x
  unfold zup1
  split
  · rename_i e
    rw [e]
  · rfl
theorem wli_id (M : zD) (i : Int) : M.wli (zup1 M.li i (M.li i)) = M := by
  rw [zup1_id]
  rfl
theorem take_s {α : Type} {l : List α} {j : Nat} {p : α} (h : l[j]? = some p) : l.take (j + 1) = l.take j ++ [p] := by
  rw [List.take_add_one, h]
  rfl
theorem erase_mid {α : Type} {l r : List α} {j : Nat} {p : α} (h : l[j]? = some p) : (l.take (j + 1) ++ r).eraseIdx j = l.take j ++ r := by
  have hj : j < l.length := (List.getElem?_eq_some_iff.mp h).1
  rw [take_s h, List.append_assoc, List.eraseIdx_append_of_length_le (by rw [List.length_take]; omega)]
  have e : j - (l.take j).length = 0 := by rw [List.length_take]; omega
  rw [e]
  rfl
theorem get_mid {α : Type} {l r : List α} {j : Nat} {p : α} (h : l[j]? = some p) : (l.take (j + 1) ++ r)[j]? = some p := by
  have hj : j < l.length := (List.getElem?_eq_some_iff.mp h).1
  rw [List.getElem?_append_left (by rw [List.length_take]; omega), List.getElem?_take_of_lt (by omega)]
  exact h
section C40
variable {S : zG} {μ μ' μ1 : zM} {d B : Int} {M : zD} {Q : zR × zS → Prop}
theorem d_removeRow (h : D7 S μ d M) {a : Int} {k : Nat} (ha : 0 ≤ a ∧ a < 6) (hk : k < (M.li a).length) : ∃ μ', f_X5_removeRow (d + 13 + 2 * a) (k : Int) (S, μ) = some (.inl 0, (S, μ')) ∧ D7 S μ' d (M.wli (zup1 M.li a ((M.li a).eraseIdx k))) ∧ FR d μ μ' := by
  have hl := h.ll a ha.1 ha.2
  obtain ⟨μ', f1, f2, f3⟩ := c_removeRow (h.sh.ls a ha.1 ha.2) (h.li a ha.1 ha.2) (by decide) (by omega) (by decide) hk
  exact ⟨μ', f1, h.setLi ha.1 ha.2 (by rw [List.length_eraseIdx]; split <;> omega) f2 f3, fun x hx => f3 x (by omega) (by omega)⟩
theorem rcv_01 (M : zD) (p : zP) : (M.rcv p).2 = 0 ∨ (M.rcv p).2 = 1 := by
  by_cases h0 : M.ref p = 0
  · rw [rcv_pos h0]
    split <;> exact Or.inr rfl
  · rw [rcv_neg h0]
    exact Or.inl rfl
theorem dlv_rng : ∀ (l : List zP) (z : zD × Int), z.2 ≤ (zdlv l z).2 ∧ (zdlv l z).2 ≤ z.2 + l.length := by
  intro l
  induction l with
  | nil => intro z; exact ⟨Int.le_refl _, by show z.2 ≤ z.2 + ((0 : Nat) : Int); omega⟩
  | cons m r ih =>
    intro z
    have h := ih ((z.1.rcv m).1, z.2 + (z.1.rcv m).2)
    have h1 := rcv_01 z.1 m
    unfold zdlv
    rw [List.length_cons]
    generalize (z.1.rcv m).2 = v at *
    dsimp only at h
    omega
theorem rnd_rng (h : WF B M) : 0 ≤ M.rnd.2 ∧ M.rnd.2 ≤ 100 := by
  have h1 := (h.snd' M.an.length (Nat.le_refl _)).1.ql
  unfold zD.rnd zD.dlv
  generalize zlp (fun a X => zD.snd X (a : Int) (X.ru 4)) 0 M.an.length M = X at *
  have h2 := dlv_rng (X.qu.take X.qu.length) (X, 0)
  rw [List.length_take] at h2
  dsimp only at *
  omega
theorem SS.snd (M : zD) (a hp' : Int) : SS M (M.snd a hp') := SS.sns a hp' (M.li a) M
theorem d_rounds_in {R acc rn : Int} {N : Nat} {X : zD} {r4 : Int → Int → Int → Int → zS → zFn} (hN : N ≤ 6) (WX : WF B X)
    (hr : ∀ μ', D7 S μ' d (X.dlv X.qu.length).1 → FR d μ μ' → zo (r4 d R (w32 (acc + (X.dlv X.qu.length).2)) (w32 (rn + 1)) (S, μ')) Q) : ∀ (m : Nat) (k : Nat) (μ2 : zM),
    (∃ M', D7 S μ2 d M' ∧ M'.an.length = N ∧ k ≤ N ∧ zlp (fun a X => X.snd (a : Int) (X.ru 4)) k (N - k) M' = X ∧ FR d μ μ2) → N - k < m →
    zo (f_X1_makeRounds_12 r4 m d R acc rn (k : Int) (S, μ2)) Q := by
  refine zo_l2 _ (fun k _ => N - k) ?_
  rintro m k μ2 ⟨M', h, hA, hk, hfin, hfr⟩ ih
  have D := h.sh
  refine j_X1_makeRounds_12 ?_
  refine zo_gr D.o D.r1 (by omega) (by omega) ?_
  refine zo_gf D.ag.o h.an0 (by omega) (by omega) ?_
  by_cases e : k < N
  · have e9 : N - k = (N - (k + 1)) + 1 := by omega
    rw [e9] at hfin
    unfold zlp at hfin
    refine zo_pos (by omega) ?_
    refine zo_ob D.o (by omega) ?_
    refine zo_bn (d_rule h (show 0 ≤ (4 : Int) ∧ (4 : Int) < 5 by decide)) ?_
    refine zo_ob D.o (by omega) ?_
    obtain ⟨μ3, e3, h3, f3⟩ := d_sendReports h (a := (k : Int)) (hp' := M'.ru 4) (by omega)
    refine zo_bn e3 ?_
    rw [w32_s (k := k) (by omega)]
    exact ih (k + 1) μ3 ⟨_, h3, by rw [(SS.snd M' (k : Int) (M'.ru 4)).an]; exact hA, by omega, hfin, FR.tr hfr f3⟩ (by omega)
  · have e9 : N - k = 0 := by omega
    rw [e9] at hfin
    unfold zlp at hfin
    refine zo_neg (by omega) ?_
    refine j_X1_makeRounds_42 ?_
    refine zo_gr D.o D.r6 (by omega) (by omega) ?_
    refine zo_gf D.qu.o h.qu.1 (by omega) (by omega) ?_
    refine zo_ob D.o (by omega) ?_
    rw [← hfin] at WX
    obtain ⟨μ3, e3, h3, f3⟩ := d_deliverFirst h WX (a1 := (M'.qu.length : Int)) (n := M'.qu.length) (by omega)
    refine zo_bn e3 ?_
    rw [hfin] at h3 ⊢
    exact hr μ3 h3 (FR.tr hfr f3)
theorem d_rounds_go {R : Nat} {fin : zD × Int} (hR : R ≤ 6) : ∀ (m : Nat) (k : Nat) (c : Int) (μ2 : zM),
    (∃ M', D7 S μ2 d M' ∧ WF B M' ∧ k ≤ R ∧ zlp (fun _ z => (z.1.rnd.1, z.2 + z.1.rnd.2)) k (R - k) (M', c) = fin ∧ FR d μ μ2 ∧ 0 ≤ c ∧ c ≤ 100 * (k : Int)) → R - k < m →
    zo (f_X1_makeRounds_4 m d (R : Int) c (k : Int) (S, μ2)) (fun r => ∃ μ', r = (.inl fin.2, (S, μ')) ∧ D7 S μ' d fin.1 ∧ FR d μ μ') := by
  refine zo_l3 _ (fun k _ _ => R - k) ?_
  rintro m k c μ2 ⟨M', h, W, hk, hfin, hfr, hc0, hc1⟩ ih
  refine j_X1_makeRounds_4 ?_
  by_cases e : k < R
  · have e9 : R - k = (R - (k + 1)) + 1 := by omega
    rw [e9] at hfin
    unfold zlp at hfin
    refine zo_pos (by omega) ?_
    have hrng := rnd_rng W
    refine d_rounds_in (B := B) (μ := μ2) (N := M'.an.length) (X := zlp (fun a X => X.snd (a : Int) (X.ru 4)) 0 M'.an.length M') h.al (W.snd' M'.an.length (Nat.le_refl _)).1 ?_ zFU 0 μ2 ⟨M', h, rfl, by omega, rfl, FR.rf⟩ (by have := h.al; show M'.an.length - 0 < 1000000; omega)
    intro μ3 h3 f3
    have hW := W.rnd
    have er : M'.rnd = ((zlp (fun a X => zD.snd X (a : Int) (X.ru 4)) 0 M'.an.length M').dlv (zlp (fun a X => zD.snd X (a : Int) (X.ru 4)) 0 M'.an.length M').qu.length) := rfl
    rw [← er] at h3 ⊢
    generalize M'.rnd = z at *
    rw [w32_s (k := k) (by omega), w32_e (by omega)]
    exact ih (k + 1) (c + z.2) μ3 ⟨z.1, h3, hW, by omega, hfin, FR.tr hfr f3, by omega, by omega⟩ (by omega)
  · have e9 : R - k = 0 := by omega
    rw [e9] at hfin
    unfold zlp at hfin
    refine zo_neg (by omega) ?_
    exact zo_rt ⟨μ2, by rw [← hfin], by rw [← hfin]; exact h, hfr⟩
theorem d_makeRounds (h : D7 S μ d M) (W : WF B M) {R : Nat} (hR : R ≤ 6) : ∃ μ', f_X1_makeRounds d (R : Int) (S, μ) = some (.inl (M.rds R).2, (S, μ')) ∧ D7 S μ' d (M.rds R).1 ∧ FR d μ μ' := by
  apply zo_ux
  refine j_X1_makeRounds ?_
  exact d_rounds_go (μ := μ) (B := B) (R := R) (fin := M.rds R) hR zFU 0 0 μ ⟨M, h, W, by omega, rfl, FR.rf, by decide, by decide⟩ (by show R - 0 < 1000000; omega)
theorem d_pass_in {a c0 : Int} {l : List zP} {r14 : Int → Int → Int → zS → zFn} (ha : 0 ≤ a ∧ a < 6) (hl : M.li a = l) (hlen : l.length ≤ 36) (hc0 : 0 ≤ c0 ∧ c0 ≤ 1000)
    (hr : ∀ μ', D7 S μ' d (M.wli (zup1 M.li a (M.yng l))) → FR d μ μ' → zo (r14 d (c0 + (l.length - (M.yng l).length : Int)) (w32 (a + 1)) (S, μ')) Q) : ∀ (m : Nat) (j : Nat) (c : Int) (μ2 : zM),
    (D7 S μ2 d (M.wli (zup1 M.li a (l.take j ++ M.yng (l.drop j)))) ∧ j ≤ l.length ∧ c = c0 + (l.length - j - (M.yng (l.drop j)).length : Int) ∧ FR d μ μ2) → j < m →
    zo (f_X1_letPass_41 r14 m d c a (d + 13 + 2 * a) ((j : Int) - 1) (S, μ2)) Q := by
  refine zo_l3 _ (fun j _ _ => j) ?_
  rintro m j c μ2 ⟨h, hj, hc, hfr⟩ ih
  have D := h.sh
  have L := D.ls a ha.1 ha.2
  refine j_X1_letPass_41 ?_
  have hfl : ∀ j, (M.yng (l.drop j)).length ≤ l.length - j := by
    intro j
    have := List.length_filter_le (fun p : zP => decide (¬ M.ru 3 < w32 (M.tm - p 4))) (l.drop j)
    rw [List.length_drop] at this
    exact this
  cases j with
  | zero =>
    refine zo_pos (by omega) ?_
    refine j_X1_letPass_73 ?_
    rw [hc]
    have e : (l.length - ((0 : Nat) : Int) - (M.yng (l.drop 0)).length : Int) = (l.length - (M.yng l).length : Int) := by
      show (l.length - ((0 : Nat) : Int) - (M.yng l).length : Int) = _
      omega
    rw [e]
    exact hr μ2 h hfr
  | succ j =>
    have ej : ((j + 1 : Nat) : Int) - 1 = (j : Int) := by omega
    have hjl := hfl j
    have hjl1 := hfl (j + 1)
    rw [ej]
    refine zo_neg (by omega) ?_
    obtain ⟨p, hp, hd, hpm⟩ := drop_cons (l := l) (k := j) (by omega)
    have e1 : (M.wli (zup1 M.li a (l.take (j + 1) ++ M.yng (l.drop (j + 1))))).li a = l.take (j + 1) ++ M.yng (l.drop (j + 1)) := zup1_at
    have hk : ((M.wli (zup1 M.li a (l.take (j + 1) ++ M.yng (l.drop (j + 1))))).li a)[j]? = some p := by rw [e1]; exact get_mid hp
    refine zo_ob D.o (by omega) ?_
    refine zo_bn (d_isTooOld h ha hk) ?_
    have e3 : w32 ((j : Int) + (-1)) = (j : Int) - 1 := w32_e (by omega)
    refine zo_zb (fun h0 => ?_) (fun h0 => ?_)
    · refine j_X1_letPass_67 ?_
      rw [e3]
      have e4 : M.yng (l.drop j) = p :: M.yng (l.drop (j + 1)) := by
        have h0' : ¬ M.ru 3 < w32 (M.tm - p 4) := h0
        rw [hd]
        unfold zD.yng
        rw [List.filter_cons, if_pos (decide_eq_true h0')]
      refine ih j c μ2 ⟨?_, by omega, ?_, hfr⟩ (by omega)
      · rw [e4]
        rw [take_s hp, List.append_assoc] at h
        exact h
      · rw [hc, e4, List.length_cons]
        omega
    · refine zo_ob L.o (by omega) ?_
      obtain ⟨μ3, e5, h3, f3⟩ := d_removeRow h (k := j) ha (by rw [e1, List.length_append, List.length_take]; omega)
      refine zo_bn e5 ?_
      refine j_X1_letPass_67 ?_
      have e4 : M.yng (l.drop j) = M.yng (l.drop (j + 1)) := by
        rw [hd]
        unfold zD.yng
        rw [List.filter_cons, if_neg (by rw [decide_eq_true_eq]; exact fun z => z h0)]
      rw [e3, w32_e (by omega)]
      refine ih j (c + 1) μ3 ⟨?_, by omega, ?_, FR.tr hfr f3⟩ (by omega)
      · rw [e1, erase_mid hp] at h3
        rw [e4]
        have e6 : (M.wli (zup1 M.li a (l.take (j + 1) ++ M.yng (l.drop (j + 1))))).wli (zup1 (M.wli (zup1 M.li a (l.take (j + 1) ++ M.yng (l.drop (j + 1))))).li a (l.take j ++ M.yng (l.drop (j + 1)))) = M.wli (zup1 M.li a (l.take j ++ M.yng (l.drop (j + 1)))) := by
          show M.wli (zup1 (zup1 M.li a _) a _) = _
          rw [zup1_2]
        rw [e6] at h3
        exact h3
      · rw [hc, e4]
        omega
theorem d_pass_go {N : Nat} {fin : zD × Int} (hN : N ≤ 6) : ∀ (m : Nat) (k : Nat) (c : Int) (μ2 : zM),
    (∃ M', D7 S μ2 d M' ∧ M'.an.length = N ∧ k ≤ N ∧ zlp (fun i z => (z.1.wli (zup1 z.1.li (i : Int) (z.1.yng (z.1.li (i : Int)))), z.2 + ((z.1.li (i : Int)).length - (z.1.yng (z.1.li (i : Int))).length : Int))) k (N - k) (M', c) = fin ∧ FR d μ μ2 ∧ 0 ≤ c ∧ c ≤ 36 * (k : Int)) → N - k < m →
    zo (f_X1_letPass_14 m d c (k : Int) (S, μ2)) (fun r => ∃ μ', r = (.inl fin.2, (S, μ')) ∧ D7 S μ' d fin.1 ∧ FR d μ μ') := by
  refine zo_l3 _ (fun k _ _ => N - k) ?_
  rintro m k c μ2 ⟨M', h, hA, hk, hfin, hfr, hc0, hc1⟩ ih
  have D := h.sh
  refine j_X1_letPass_14 ?_
  refine zo_gr D.o D.r1 (by omega) (by omega) ?_
  refine zo_gf D.ag.o h.an0 (by omega) (by omega) ?_
  by_cases e : k < N
  · have e9 : N - k = (N - (k + 1)) + 1 := by omega
    rw [e9] at hfin
    unfold zlp at hfin
    refine zo_pos (by omega) ?_
    refine zo_ob D.o (by omega) ?_
    have h6 : 0 ≤ (k : Int) ∧ (k : Int) < 6 := by omega
    have hll := h.ll (k : Int) h6.1 h6.2
    refine zo_bn (d_listOf h h6) ?_
    refine zo_gf (D.ls _ h6.1 h6.2).o (h.li _ h6.1 h6.2).1 (by omega) (by omega) ?_
    rw [w32_e (by omega)]
    have hfl : (M'.yng (M'.li (k : Int))).length ≤ (M'.li (k : Int)).length := List.length_filter_le _ _
    refine d_pass_in (μ := μ2) (M := M') (c0 := c) (l := M'.li (k : Int)) h6 rfl hll (by omega) ?_ zFU (M'.li (k : Int)).length c μ2 ⟨?_, by omega, ?_, FR.rf⟩ (by show _ < 1000000; omega)
    · intro μ3 h3 f3
      rw [w32_s (k := k) (by omega)]
      exact ih (k + 1) _ μ3 ⟨_, h3, hA, by omega, hfin, FR.tr hfr f3, by omega, by omega⟩ (by omega)
    · rw [List.drop_length, List.take_length]
      have e8 : M'.li (k : Int) ++ M'.yng [] = M'.li (k : Int) := List.append_nil _
      rw [e8, wli_id]
      exact h
    · rw [List.drop_length]
      show c = c + (_ - _ - ((0 : Nat) : Int))
      omega
  · have e9 : N - k = 0 := by omega
    rw [e9] at hfin
    unfold zlp at hfin
    refine zo_neg (by omega) ?_
    exact zo_rt ⟨μ2, by rw [← hfin], by rw [← hfin]; exact h, hfr⟩
theorem d_letPass (h : D7 S μ d M) {t : Int} : ∃ μ', f_X1_letPass d t (S, μ) = some (.inl (M.pas t).2, (S, μ')) ∧ D7 S μ' d (M.pas t).1 ∧ FR d μ μ' := by
  have D := h.sh
  have h6 := h.al
  apply zo_ux
  refine j_X1_letPass ?_
  refine zo_gf D.o h.tm (by omega) (by omega) ?_
  refine zo_pf 8 D.o (by omega) (by omega) ?_
  exact d_pass_go (μ := μ) (N := M.an.length) (fin := M.pas t) h6 zFU 0 0 _ ⟨_, h.setTm, rfl, by omega, rfl, FR.up (by omega), by decide, by decide⟩ (by show M.an.length - 0 < 1000000; omega)
end C40
