/-! C 49: the model: a report comes, a probe, messages -/
section C49
variable {S : zG} {μ μ' : zM} {m A B : Int} {M : zD} {Q : zR × zS → Prop} {g g' : zAr}
theorem LR8.snoc {i : Int} {l : List zP} {p : zP} (h : LR8 g i l) (hc : g' (87 + 253 * i) = (l.length : Int) + 1) (hv : ∀ c : Nat, c < 7 → g' (88 + 253 * i + 7 * (l.length : Int) + (c : Int)) = p c) (hf : ∀ j, 88 + 253 * i ≤ j → j < 88 + 253 * i + 7 * (l.length : Int) → g' j = g j) : LR8 g' i (l ++ [p]) := by
  refine ⟨by rw [hc, List.length_append]; rfl, ?_⟩
  intro k q hk c hc7
  rcases snoc_get hk with ⟨h1, h2⟩ | ⟨h1, h2⟩
  · rw [hf _ (by omega) (by omega)]
    exact h.2 k q h2 c hc7
  · rw [h1, h2]
    exact hv c hc7
theorem b_comes23 (H : MSh S m A) (h : D8 (μ A) M) {a o v hh w9 t b lo hi : Int} (ha : 0 ≤ a ∧ a < 6) (hl : (M.li a).length < 36) (hb : b = 1000 * lo + hi) (hlo : 0 ≤ lo ∧ lo ≤ 999) (hhi : 0 ≤ hi ∧ hi ≤ 999) : ∃ μ', f_X8_comes_23 m a o v hh w9 t b (S, μ) = some (.inl ((M.li a).length : Int), (S, μ')) ∧ D8 (μ' A) (M.wli (zup1 M.li a (M.li a ++ [zrow o v hh w9 t lo hi]))) ∧ FA A μ μ' := by
  have hli := h.li a ha.1 ha.2
  have e0 : ∀ c : Int, 0 ≤ c → c < 7 → w32 (88 + 253 * a + 7 * ((M.li a).length : Int) + c) = 88 + 253 * a + 7 * ((M.li a).length : Int) + c := fun c h1 h2 => w32_e (by omega)
  have ed : w32 (Int.tdiv b 1000) = lo := by
    rw [Int.tdiv_eq_ediv_of_nonneg (by omega), hb, w32_e (by omega)]
    omega
  have em : Int.tmod b 1000 = hi := by
    rw [Int.tmod_eq_emod_of_nonneg (by omega), hb]
    omega
  have ew : w32 (((M.li a).length : Int) + 1) = ((M.li a).length : Int) + 1 := w32_e (by omega)
  apply zo_ux
  refine j_X8_comes_23 ?_
  refine zo_ob H.o (by omega) ?_
  refine zo_bn (b_manyOf H h ha) ?_
  refine zo_bn (b_reportAt ha (by omega)) ?_
  rw [e0 0 (by decide) (by decide), e0 1 (by decide) (by decide), e0 2 (by decide) (by decide), e0 3 (by decide) (by decide), e0 4 (by decide) (by decide), e0 5 (by decide) (by decide), e0 6 (by decide) (by decide), ed, em]
  refine zo_gr H.o H.r3 (by omega) (by omega) ?_
  refine zo_bn (b_listAt ha) ?_
  refine zo_ld H.A (by omega) hli.1 ?_
  rw [ew]
  refine zo_si H.A (by omega) ?_
  refine zo_gr H.o H.r3 (by omega) (by omega) ?_
  refine zo_si H.A (by omega) ?_
  refine zo_gr H.o H.r3 (by omega) (by omega) ?_
  refine zo_si H.A (by omega) ?_
  refine zo_gr H.o H.r3 (by omega) (by omega) ?_
  refine zo_si H.A (by omega) ?_
  refine zo_gr H.o H.r3 (by omega) (by omega) ?_
  refine zo_si H.A (by omega) ?_
  refine zo_gr H.o H.r3 (by omega) (by omega) ?_
  refine zo_si H.A (by omega) ?_
  refine zo_gr H.o H.r3 (by omega) (by omega) ?_
  refine zo_neg (by decide) ?_
  refine zo_si H.A (by omega) ?_
  refine zo_gr H.o H.r3 (by omega) (by omega) ?_
  refine zo_neg (by decide) ?_
  refine zo_si H.A (by omega) ?_
  refine zo_rt ⟨_, rfl, ?_, ?_⟩
  · refine h.setLi ha.1 ha.2 (by rw [List.length_append]; exact hl) (hli.snoc ?_ (c7 ?_ ?_ ?_ ?_ ?_ ?_ ?_) ?_) ?_
    · rw [zup_j (by omega), zup_j (by omega), zup_j (by omega), zup_j (by omega), zup_j (by omega), zup_j (by omega), zup_j (by omega), zup_at]
    · rw [zup_j (by omega), zup_j (by omega), zup_j (by omega), zup_j (by omega), zup_j (by omega), zup_j (by omega)]
      exact zup_at
    · rw [zup_j (by omega), zup_j (by omega), zup_j (by omega), zup_j (by omega), zup_j (by omega)]
      exact zup_at
    · rw [zup_j (by omega), zup_j (by omega), zup_j (by omega), zup_j (by omega)]
      exact zup_at
    · rw [zup_j (by omega), zup_j (by omega), zup_j (by omega)]
      exact zup_at
    · rw [zup_j (by omega), zup_j (by omega)]
      exact zup_at
    · rw [zup_j (by omega)]
      exact zup_at
    · exact zup_at
    · intro j h1 h2
      rw [zup_j (by omega), zup_j (by omega), zup_j (by omega), zup_j (by omega), zup_j (by omega), zup_j (by omega), zup_j (by omega), zup_j (by omega)]
    · intro j h1 h2 h3
      rw [zup_j (by omega), zup_j (by omega), zup_j (by omega), zup_j (by omega), zup_j (by omega), zup_j (by omega), zup_j (by omega), zup_j (by omega)]
  · exact FA.tr FA.up (FA.tr FA.up (FA.tr FA.up (FA.tr FA.up (FA.tr FA.up (FA.tr FA.up (FA.tr FA.up FA.up))))))
theorem b_comes (H : MSh S m A) (h : D8 (μ A) M) {a o v hh w9 t b lo hi : Int} (ha : 0 ≤ a ∧ a < 6) (hl : ((M.li a).eraseP (zqb o w9)).length + 1 ≤ 36) (hb : b = 1000 * lo + hi) (hlo : 0 ≤ lo ∧ lo ≤ 999) (hhi : 0 ≤ hi ∧ hi ≤ 999) : ∃ μ', f_X8_comes m a o v hh w9 t b (S, μ) = some (.inl (((M.li a).eraseP (zqb o w9)).length : Int), (S, μ')) ∧ D8 (μ' A) (M.come a (zrow o v hh w9 t lo hi)) ∧ FA A μ μ' := by
  have hcome : M.come a (zrow o v hh w9 t lo hi) = M.wli (zup1 M.li a ((M.li a).eraseP (zqb o w9) ++ [zrow o v hh w9 t lo hi])) := rfl
  apply zo_ux
  refine j_X8_comes ?_
  refine zo_ob H.o (by omega) ?_
  refine zo_bn (b_reportOf H h ha) ?_
  rcases zfi_cs o w9 (M.li a) with ⟨e1, -, e3⟩ | ⟨k, p, e1, e2, -, -, e5⟩
  · rw [e3] at hl hcome ⊢
    refine zo_pos e1 ?_
    obtain ⟨μ1, f1, h1, k1⟩ := b_comes23 H h (o := o) (v := v) (hh := hh) (w9 := w9) (t := t) ha (by omega) hb hlo hhi
    exact zo_eq f1 ⟨μ1, rfl, by rw [hcome]; exact h1, k1⟩
  · rw [e5] at hl hcome ⊢
    have hk := (List.getElem?_eq_some_iff.mp e2).1
    refine zo_neg (by omega) ?_
    refine zo_ob H.o (by omega) ?_
    rw [e1]
    obtain ⟨μ1, f1, h1, k1⟩ := b_dropReport H h ha hk
    refine zo_bn f1 ?_
    have e6 : (M.wli (zup1 M.li a ((M.li a).eraseIdx k))).li a = (M.li a).eraseIdx k := zup1_at
    obtain ⟨μ2, f2, h2, k2⟩ := b_comes23 H h1 (o := o) (v := v) (hh := hh) (w9 := w9) (t := t) ha (by rw [e6]; omega) hb hlo hhi
    rw [e6] at f2 h2
    refine zo_eq f2 ⟨μ2, rfl, ?_, FA.tr k1 k2⟩
    rw [hcome]
    have e7 : (M.wli (zup1 M.li a ((M.li a).eraseIdx k))).wli (zup1 (M.wli (zup1 M.li a ((M.li a).eraseIdx k))).li a ((M.li a).eraseIdx k ++ [zrow o v hh w9 t lo hi])) = M.wli (zup1 M.li a ((M.li a).eraseIdx k ++ [zrow o v hh w9 t lo hi])) := by
      show M.wli (zup1 (zup1 M.li a _) a _) = _
      rw [zup1_2]
    rw [e7] at h2
    exact h2
theorem b_probe_go {a w9 : Int} {q : zP} {l : List zP} {fin : zD × Int} (H : MSh S m A) (ha : 0 ≤ a ∧ a < 6) (hv : ∀ p, p ∈ l → 0 ≤ p 1 ∧ p 1 < 6) (hlen : l.length ≤ 36) : ∀ (n : Nat) (k : Nat) (c : Int) (μ2 : zM),
    (∃ M', D8 (μ2 A) M' ∧ WF B M' ∧ M'.li a = l ++ [q] ∧ k ≤ l.length ∧ zjds a w9 q (l.drop k) (M', c) = fin ∧ FA A μ μ2 ∧ 0 ≤ c ∧ c ≤ (k : Int)) → l.length - k < n →
    zo (f_X8_doProbe_37 n m a w9 (l.length : Int) c (k : Int) (S, μ2)) (fun r => ∃ μ', r = (.inl fin.2, (S, μ')) ∧ D8 (μ' A) fin.1 ∧ FA A μ μ') := by
  refine zo_l3 _ (fun k _ _ => l.length - k) ?_
  rintro n k c μ2 ⟨M', h, W, hli, hk, hfin, hfr, hc0, hck⟩ ih
  refine j_X8_doProbe_37 ?_
  by_cases e : k < l.length
  · obtain ⟨p, hp, hd, hm⟩ := drop_cons e
    have hkp : (M'.li a)[k]? = some p := by rw [hli, List.getElem?_append_left e]; exact hp
    have hkq : (M'.li a)[l.length]? = some q := by rw [hli, List.getElem?_append_right (Nat.le_refl _), Nat.sub_self]; rfl
    have hpv := hv p hm
    rw [hd] at hfin
    unfold zjds at hfin
    refine zo_pos (by omega) ?_
    refine zo_ob H.o (by omega) ?_
    refine zo_bn (b_ofR3 H h ha hkp) ?_
    by_cases hw : p 3 = w9
    · rw [if_pos hw] at hfin
      refine zo_pos hw ?_
      refine zo_ob H.o (by omega) ?_
      have h01 := jud_01 M' a p q
      have hjl := jud_li M' a p q
      have hW := W.jud a p q
      obtain ⟨μ3, e3, h3, f3⟩ := b_judges H h ha hkp hkq hpv (W.Tr a (p 1))
      refine zo_bn e3 ?_
      dsimp only at hfin
      generalize M'.jud a p q = z at *
      obtain ⟨M2, v⟩ := z
      dsimp only at *
      rcases h01 with h1 | h1
      · subst h1
        refine zo_pos rfl ?_
        refine j_X8_doProbe_75 ?_
        refine j_X8_doProbe_78 ?_
        rw [w32_s (k := k) (by omega), w32_e (by omega)]
        exact ih (k + 1) (c + 0) _ ⟨M2, h3, hW, by rw [hjl]; exact hli, by omega, hfin, FA.tr hfr f3, by omega, by omega⟩ (by omega)
      · subst h1
        refine zo_neg (by decide) ?_
        refine j_X8_doProbe_75 ?_
        refine j_X8_doProbe_78 ?_
        rw [w32_s (k := k) (by omega), w32_e (by omega)]
        exact ih (k + 1) (c + 1) _ ⟨M2, h3, hW, by rw [hjl]; exact hli, by omega, hfin, FA.tr hfr f3, by omega, by omega⟩ (by omega)
    · rw [if_neg hw] at hfin
      refine zo_neg hw ?_
      refine j_X8_doProbe_78 ?_
      rw [w32_s (k := k) (by omega)]
      exact ih (k + 1) c μ2 ⟨M', h, W, hli, by omega, hfin, hfr, hc0, by omega⟩ (by omega)
  · have e1 : k = l.length := by omega
    rw [e1, List.drop_length] at hfin
    refine zo_neg (by omega) ?_
    refine zo_rt ?_
    unfold zjds at hfin
    exact ⟨μ2, by rw [← hfin], by rw [← hfin]; exact h, hfr⟩
theorem b_doProbe (H : MSh S m A) (h : D8 (μ A) M) (W : WF B M) {a w9 lo hi : Int} (ha : 0 ≤ a ∧ a < (M.an.length : Int)) (hw : 0 ≤ w9 ∧ w9 < (M.wn.length : Int)) (hb : 0 ≤ lo ∧ lo ≤ hi ∧ hi ≤ 999) :
    ∃ μ', f_X8_doProbe m a w9 lo hi (S, μ) = some (.inl (M.prb a w9 lo hi).2, (S, μ')) ∧ D8 (μ' A) (M.prb a w9 lo hi).1 ∧ FA A μ μ' := by
  have h60 := h.al
  have h6 : 0 ≤ a ∧ a < 6 := by omega
  have hown := ROk.own ha hw W.tm.1 hb
  have hlen : ((M.li a).eraseP (zqb a w9)).length + 1 ≤ 36 := come_len W ha hown
  have hvv : ∀ p, p ∈ (M.li a).eraseP (zqb a w9) → 0 ≤ p 1 ∧ p 1 < 6 := by
    intro p hp
    have h1 := (W.li a p (List.mem_of_mem_eraseP hp)).v
    omega
  have ew : w32 ((w32 (1000 * lo)) + hi) = 1000 * lo + hi := by rw [w32_e (z := 1000 * lo) (by omega), w32_e (by omega)]
  apply zo_ux
  refine j_X8_doProbe ?_
  rw [ew]
  refine zo_gr H.o H.r3 (by omega) (by omega) ?_
  refine zo_ld H.A (by omega) h.tm ?_
  refine zo_ob H.o (by omega) ?_
  obtain ⟨μ1, e1, h1, f1⟩ := b_comes H h (o := a) (v := a) (hh := 0) (w9 := w9) (t := M.tm) (lo := lo) (hi := hi) h6 hlen rfl (by omega) (by omega)
  have W1 := W.come ha hown
  refine zo_bn e1 ?_
  refine zo_ob H.o (by omega) ?_
  obtain ⟨μ2, e2, h2, f2⟩ := b_count H h1 (i := 0) h6 (by decide)
  refine zo_bn e2 ?_
  exact b_probe_go (B := B) (μ := μ) (q := zrow a a 0 w9 M.tm lo hi) (l := (M.li a).eraseP (zqb a w9)) (fin := M.prb a w9 lo hi) H h6 hvv (by omega) zFU 0 0 μ2 ⟨_, h2, W1.tal a 0, zup1_at, by omega, rfl, FA.tr f1 f2, by decide, by decide⟩ (by show _ - 0 < 1000000; omega)
theorem QR8.snoc {l : List zP} {p : zP} (h : QR8 g l) (hc : g' 8 = (l.length : Int) + 1) (hv : ∀ c : Nat, c < 8 → g' (1605 + 8 * (l.length : Int) + (c : Int)) = p c) (hf : ∀ j, 1605 ≤ j → j < 1605 + 8 * (l.length : Int) → g' j = g j) : QR8 g' (l ++ [p]) := by
  refine ⟨by rw [hc, List.length_append]; rfl, ?_⟩
  intro k q hk c hc7
  rcases snoc_get hk with ⟨h1, h2⟩ | ⟨h1, h2⟩
  · rw [hf _ (by omega) (by omega)]
    exact h.2 k q h2 c hc7
  · rw [h1, h2]
    exact hv c hc7
theorem b_sends (H : MSh S m A) (h : D8 (μ A) M) {a o : Int} {k : Nat} {p : zP} (ha : 0 ≤ a ∧ a < 6) (hk : (M.li a)[k]? = some p) (hq : M.qu.length < 100) : ∃ μ', f_X8_sends m a (k : Int) o (S, μ) = some (.inl 1, (S, μ')) ∧ D8 (μ' A) (M.wqu (M.qu ++ [zmsg p a o])) ∧ FA A μ μ' := by
  have e0 : ∀ c : Int, 0 ≤ c → c < 8 → w32 (1605 + 8 * (M.qu.length : Int) + c) = 1605 + 8 * (M.qu.length : Int) + c := fun c h1 h2 => w32_e (by omega)
  have hqu := h.qu
  apply zo_ux
  refine j_X8_sends ?_
  refine zo_ob H.o (by omega) ?_
  refine zo_bn (b_queued H h) ?_
  refine zo_neg (by omega) ?_
  refine zo_ob H.o (by omega) ?_
  refine zo_bn (b_queued H h) ?_
  refine zo_bn (b_messageAt (by omega)) ?_
  refine zo_l2 (F := fun n (j : Nat) (μ2 : zM) => f_X8_sends_23 n m a (k : Int) o (1605 + 8 * (M.qu.length : Int)) (j : Int) (S, μ2)) (fun j μ2 => j ≤ 7 ∧ (∀ c : Nat, c < j → μ2 A (1605 + 8 * (M.qu.length : Int) + (c : Int)) = p c) ∧ (∀ i, i < 1605 + 8 * (M.qu.length : Int) → μ2 A i = μ A i) ∧ FA A μ μ2) (fun j _ => 7 - j) ?_ zFU 0 μ ⟨by omega, fun c hc => absurd hc (by omega), fun _ _ => rfl, FA.rf⟩ (by show 7 - 0 < 1000000; decide)
  rintro n j μ2 ⟨hj, hv, hf, hA⟩ ih
  refine j_X8_sends_23 ?_
  by_cases e : j < 7
  · refine zo_pos (by omega) ?_
    refine zo_gr H.o H.r3 (by omega) (by omega) ?_
    refine zo_ob H.o (by omega) ?_
    have h36 := h.ll a ha.1 ha.2
    have hkl := (List.getElem?_eq_some_iff.mp hk).1
    have er : f_X8_ofReport m a (k : Int) (j : Int) (S, μ2) = some (.inl (p j), (S, μ2)) := by
      apply zo_un
      refine j_X8_ofReport ?_
      refine zo_gr H.o H.r3 (by omega) (by omega) ?_
      refine zo_bn (b_reportAt ha (by omega)) ?_
      have ei : w32 (88 + 253 * a + 7 * (k : Int) + (j : Int)) = 88 + 253 * a + 7 * (k : Int) + (j : Int) := w32_e (by omega)
      rw [ei]
      refine zo_ld H.A (by omega) (v := p j) (by rw [hf _ (by omega)]; exact (h.li a ha.1 ha.2).2 k p hk j e) ?_
      exact zo_rt rfl
    refine zo_bn er ?_
    rw [e0 (j : Int) (by omega) (by omega), w32_s (k := j) (by omega)]
    refine zo_si H.A (by omega) ?_
    refine ih (j + 1) _ ⟨by omega, ?_, fun i hi => by rw [zup_j (by omega)]; exact hf i hi, FA.tr hA FA.up⟩ (by omega)
    intro c hc
    by_cases ec : c = j
    · rw [ec, zup_at]
    · rw [zup_j (by omega)]
      exact hv c (by omega)
  · refine zo_neg (by omega) ?_
    have ej : j = 7 := by omega
    subst ej
    refine j_X8_sends_54 ?_
    rw [e0 1 (by decide) (by decide), e0 2 (by decide) (by decide), e0 7 (by decide) (by decide)]
    refine zo_gr H.o H.r3 (by omega) (by omega) ?_
    refine zo_si H.A (by omega) ?_
    refine zo_gr H.o H.r3 (by omega) (by omega) ?_
    refine zo_ld H.A (by omega) (v := p 2) (by rw [zup_j (by omega)]; exact hv 2 (by decide)) ?_
    refine zo_si H.A (by omega) ?_
    refine zo_gr H.o H.r3 (by omega) (by omega) ?_
    refine zo_si H.A (by omega) ?_
    refine zo_gr H.o H.r3 (by omega) (by omega) ?_
    refine zo_ld H.A (by omega) (v := (M.qu.length : Int)) (by rw [zup_j (by omega), zup_j (by omega), zup_j (by omega), hf _ (by omega)]; exact hqu.1) ?_
    have ew : w32 ((M.qu.length : Int) + 1) = (M.qu.length : Int) + 1 := w32_e (by omega)
    rw [ew]
    refine zo_si H.A (by omega) ?_
    refine zo_rt ⟨_, rfl, ?_, FA.tr hA (FA.tr FA.up (FA.tr FA.up (FA.tr FA.up FA.up)))⟩
    refine h.setQu (by rw [List.length_append]; exact hq) (hqu.snoc zup_at (c8 ?_ ?_ ?_ ?_ ?_ ?_ ?_ ?_) ?_) ?_
    · rw [zup_j (by omega), zup_j (by omega), zup_j (by omega), zup_j (by omega)]; exact hv 0 (by decide)
    · rw [zup_j (by omega), zup_j (by omega), zup_j (by omega)]; exact zup_at
    · rw [zup_j (by omega), zup_j (by omega)]; exact zup_at
    · rw [zup_j (by omega), zup_j (by omega), zup_j (by omega), zup_j (by omega)]; exact hv 3 (by decide)
    · rw [zup_j (by omega), zup_j (by omega), zup_j (by omega), zup_j (by omega)]; exact hv 4 (by decide)
    · rw [zup_j (by omega), zup_j (by omega), zup_j (by omega), zup_j (by omega)]; exact hv 5 (by decide)
    · rw [zup_j (by omega), zup_j (by omega), zup_j (by omega), zup_j (by omega)]; exact hv 6 (by decide)
    · rw [zup_j (by omega)]; exact zup_at
    · intro i h1 h2
      rw [zup_j (by omega), zup_j (by omega), zup_j (by omega), zup_j (by omega)]; exact hf i h2
    · intro i h1 h2 h3
      rw [zup_j (by omega), zup_j (by omega), zup_j (by omega), zup_j (by omega)]; exact hf i (by omega)
end C49
