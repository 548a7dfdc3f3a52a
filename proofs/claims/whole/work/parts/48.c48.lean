/-! C 48: the model's reports -/
section C48
variable {S : zG} {μ μ' : zM} {m A B : Int} {M : zD} {Q : zR × zS → Prop} {g g' : zAr}
theorem b_count (H : MSh S m A) (h : D8 (μ A) M) {a i : Int} (ha : 0 ≤ a ∧ a < 6) (hi : 0 ≤ i ∧ i < 5) : ∃ μ', f_X8_count m a i (S, μ) = some (.inl 0, (S, μ')) ∧ D8 (μ' A) (M.tal a i) ∧ FA A μ μ' := by
  apply zo_ux
  refine j_X8_count ?_
  rw [i_ac ha hi]
  refine zo_gr H.o H.r3 (by omega) (by omega) ?_
  refine zo_ld H.A (by omega) (h.ac a i ha.1 ha.2 hi.1 hi.2) ?_
  refine zo_si H.A (by omega) ?_
  exact zo_rt ⟨_, rfl, by rw [zup_fn]; exact h.setAc ha hi, FA.up⟩
theorem zfi_c (o w : Int) (p : zP) (r : List zP) (k : Int) : zfi (zq o w) (zqD o w) (p :: r) k = @ite _ (zq o w p) (zqD o w p) k (zfi (zq o w) (zqD o w) r (k + 1)) := rfl
theorem b_reportOf (H : MSh S m A) (h : D8 (μ A) M) {a o w9 : Int} (ha : 0 ≤ a ∧ a < 6) : f_X8_reportOf m a o w9 (S, μ) = some (.inl (zfi (zq o w9) (zqD o w9) (M.li a) 0), (S, μ)) := by
  have h36 := h.ll a ha.1 ha.2
  apply zo_un
  refine j_X8_reportOf ?_
  refine zo_l1 (F := fun n (k : Nat) => f_X8_reportOf_3 n m a o w9 (k : Int) (S, μ)) (fun k => k ≤ (M.li a).length ∧ zfi (zq o w9) (zqD o w9) ((M.li a).drop k) (k : Int) = zfi (zq o w9) (zqD o w9) (M.li a) 0) (fun k => (M.li a).length - k) ?_ zFU 0 ⟨by omega, rfl⟩ (by show (M.li a).length - 0 < 1000000; omega)
  rintro n k ⟨hk, hz⟩ ih
  refine j_X8_reportOf_3 ?_
  refine zo_ob H.o (by omega) ?_
  refine zo_bn (b_manyOf H h ha) ?_
  by_cases e : k < (M.li a).length
  · obtain ⟨p, hp, hd, hpm⟩ := drop_cons e
    rw [hd, zfi_c] at hz
    have next : ¬ zq o w9 p → zo (f_X8_reportOf_40 (f_X8_reportOf_3 n) m a o w9 (k : Int) (S, μ)) (fun r => r = (.inl (zfi (zq o w9) (zqD o w9) (M.li a) 0), (S, μ))) := by
      intro hn
      rw [if_neg hn] at hz
      refine j_X8_reportOf_40 ?_
      rw [w32_s (k := k) (by omega)]
      exact ih (k + 1) ⟨by omega, hz⟩ (by omega)
    refine zo_pos (by omega) ?_
    refine zo_ob H.o (by omega) ?_
    refine zo_bn (b_ofR0 H h ha hp) ?_
    refine zo_ite (fun h0 => ?_) (fun h0 => next (fun z => h0 z.1))
    refine zo_ob H.o (by omega) ?_
    refine zo_bn (b_ofR3 H h ha hp) ?_
    refine zo_ite (fun h3 => ?_) (fun h3 => next (fun z => h3 z.2))
    rw [if_pos ⟨h0, h3⟩] at hz
    exact zo_rt (by rw [hz])
  · refine zo_neg (by omega) ?_
    have e1 : k = (M.li a).length := by omega
    rw [e1, List.drop_length] at hz
    exact zo_rt (by rw [← hz]; rfl)
theorem b_ownOf (H : MSh S m A) (h : D8 (μ A) M) {a w9 : Int} (ha : 0 ≤ a ∧ a < 6) : f_X8_ownOf m a w9 (S, μ) = some (.inl (zfi (zq a w9) (zqD a w9) (M.li a) 0), (S, μ)) := by
  apply zo_un
  refine j_X8_ownOf ?_
  refine zo_ob H.o (by omega) ?_
  refine zo_bn (b_reportOf H h ha) ?_
  exact zo_rt rfl
theorem b_isOwn (H : MSh S m A) (h : D8 (μ A) M) {a : Int} {k : Nat} {p : zP} (ha : 0 ≤ a ∧ a < 6) (hk : (M.li a)[k]? = some p) : f_X8_isOwn m a (k : Int) (S, μ) = some (.inl (zbl (p 0 = a)), (S, μ)) := by
  apply zo_un
  refine j_X8_isOwn ?_
  refine zo_ob H.o (by omega) ?_
  refine zo_bn (b_ofR0 H h ha hk) ?_
  refine zo_ite (fun e => ?_) (fun e => ?_)
  · exact zo_rt (by rw [zbl_p e])
  · exact zo_rt (by rw [zbl_n e])
theorem b_ageAt (H : MSh S m A) (h : D8 (μ A) M) {t : Int} : f_X8_ageAt m t (S, μ) = some (.inl (w32 (M.tm - t)), (S, μ)) := by
  apply zo_un
  refine j_X8_ageAt ?_
  refine zo_gr H.o H.r3 (by omega) (by omega) ?_
  refine zo_ld H.A (by omega) h.tm ?_
  exact zo_rt rfl
theorem b_driftOf (H : MSh S m A) (h : D8 (μ A) M) {a : Int} {k : Nat} {p : zP} (ha : 0 ≤ a ∧ a < 6) (hk : (M.li a)[k]? = some p) : f_X8_driftOf m a (k : Int) (S, μ) = some (.inl (M.dr p), (S, μ)) := by
  apply zo_un
  refine j_X8_driftOf ?_
  refine zo_ob H.o (by omega) ?_
  refine zo_bn (b_rule H h (by decide)) ?_
  refine zo_ob H.o (by omega) ?_
  refine zo_bn (b_ofR4 H h ha hk) ?_
  refine zo_ob H.o (by omega) ?_
  refine zo_bn (b_ageAt H h) ?_
  exact zo_rt rfl
theorem b_lowBy (H : MSh S m A) (h : D8 (μ A) M) {a s : Int} {k : Nat} {p : zP} (ha : 0 ≤ a ∧ a < 6) (hk : (M.li a)[k]? = some p) : f_X8_lowBy m a (k : Int) s (S, μ) = some (.inl (zlo p s), (S, μ)) := by
  apply zo_un
  refine j_X8_lowBy ?_
  refine zo_ob H.o (by omega) ?_
  refine zo_bn (b_ofR5 H h ha hk) ?_
  have e : f_X8_lower (p 5) s (S, μ) = some (.inl (zlo p s), (S, μ)) := rfl
  refine zo_bn e ?_
  exact zo_rt rfl
theorem b_topBy (H : MSh S m A) (h : D8 (μ A) M) {a s : Int} {k : Nat} {p : zP} (ha : 0 ≤ a ∧ a < 6) (hk : (M.li a)[k]? = some p) : f_X8_topBy m a (k : Int) s (S, μ) = some (.inl (zhi p s), (S, μ)) := by
  apply zo_un
  refine j_X8_topBy ?_
  refine zo_ob H.o (by omega) ?_
  refine zo_bn (b_ofR6 H h ha hk) ?_
  have e : f_X8_higher (p 6) s (S, μ) = some (.inl (zhi p s), (S, μ)) := rfl
  refine zo_bn e ?_
  exact zo_rt rfl
theorem b_doMeet (H : MSh S m A) (h : D8 (μ A) M) {a : Int} {k j : Nat} {p q : zP} (ha : 0 ≤ a ∧ a < 6) (hk : (M.li a)[k]? = some p) (hj : (M.li a)[j]? = some q) : f_X8_doMeet m a (k : Int) (j : Int) (S, μ) = some (.inl (zbl (¬ M.ctr p q)), (S, μ)) := by
  apply zo_un
  refine j_X8_doMeet ?_
  refine zo_ob H.o (by omega) ?_
  refine zo_bn (b_driftOf H h ha hk) ?_
  refine zo_ob H.o (by omega) ?_
  refine zo_bn (b_lowBy H h ha hk) ?_
  refine zo_ob H.o (by omega) ?_
  refine zo_bn (b_driftOf H h ha hj) ?_
  refine zo_ob H.o (by omega) ?_
  refine zo_bn (b_lowBy H h ha hj) ?_
  refine zo_ob H.o (by omega) ?_
  refine zo_bn (b_driftOf H h ha hk) ?_
  refine zo_ob H.o (by omega) ?_
  refine zo_bn (b_topBy H h ha hk) ?_
  refine zo_ob H.o (by omega) ?_
  refine zo_bn (b_driftOf H h ha hj) ?_
  refine zo_ob H.o (by omega) ?_
  refine zo_bn (b_topBy H h ha hj) ?_
  refine zo_ite (fun e => ?_) (fun e => ?_)
  · exact zo_rt (by rw [zbl_n (fun z => z e)])
  · exact zo_rt (by rw [zbl_p (show ¬ M.ctr p q from e)])
theorem jud_neg {a : Int} {p q : zP} (h : ¬ M.T a (p 1) = -1) : M.jud a p q = ((M.wT (zup2 M.T a (p 1) (max 0 (min 10 (w32 (M.T a (p 1) + (1 - 3 * zbl (M.ctr p q)))))))).tal a (3 + zbl (M.ctr p q)), zbl (M.ctr p q)) := if_neg h
theorem jud_pos {a : Int} {p q : zP} (h : M.T a (p 1) = -1) : M.jud a p q = (M, 0) := if_pos h
theorem b_judges (H : MSh S m A) (h : D8 (μ A) M) {a : Int} {k j : Nat} {p q : zP} (ha : 0 ≤ a ∧ a < 6) (hk : (M.li a)[k]? = some p) (hj : (M.li a)[j]? = some q) (hv : 0 ≤ p 1 ∧ p 1 < 6) (hT : -1 ≤ M.T a (p 1) ∧ M.T a (p 1) ≤ 10) : ∃ μ', f_X8_judges m a (k : Int) (j : Int) (S, μ) = some (.inl (M.jud a p q).2, (S, μ')) ∧ D8 (μ' A) (M.jud a p q).1 ∧ FA A μ μ' := by
  apply zo_ux
  refine j_X8_judges ?_
  refine zo_ob H.o (by omega) ?_
  refine zo_bn (b_ofR1 H h ha hk) ?_
  refine zo_ob H.o (by omega) ?_
  refine zo_bn (b_areLinked H h ha hv) ?_
  refine zo_zb (fun e => ?_) (fun e => ?_)
  · have e' : M.T a (p 1) = -1 := by omega
    rw [jud_pos e']
    exact zo_rt ⟨μ, rfl, h, FA.rf⟩
  · rw [jud_neg e]
    refine zo_ob H.o (by omega) ?_
    refine zo_bn (b_doMeet H h ha hk hj) ?_
    by_cases hc : M.ctr p q
    · rw [zbl_p hc, zbl_n (fun z => z hc)]
      refine zo_pos rfl ?_
      refine zo_ob H.o (by omega) ?_
      refine zo_bn (b_trustOf H h ha hv) ?_
      refine j_X8_judges_69 ?_
      refine zo_ob H.o (by omega) ?_
      obtain ⟨μ1, e1, h1, f1⟩ := b_putTrust H h (v := max 0 (w32 (M.T a (p 1) - 2))) ha hv
      refine zo_bn e1 ?_
      refine zo_pos rfl ?_
      refine j_X8_judges_84 ?_
      refine zo_ob H.o (by omega) ?_
      obtain ⟨μ2, e2, h2, f2⟩ := b_count H h1 (i := 4) ha (by decide)
      refine zo_bn e2 ?_
      refine zo_pos rfl ?_
      have ev : max 0 (w32 (M.T a (p 1) - 2)) = max 0 (min 10 (w32 (M.T a (p 1) + (1 - 3 * 1)))) := by
        rw [w32_e (z := M.T a (p 1) - 2) (by omega), w32_e (z := M.T a (p 1) + (1 - 3 * 1)) (by omega)]
        omega
      rw [ev] at h2
      exact zo_rt ⟨μ2, rfl, h2, FA.tr f1 f2⟩
    · rw [zbl_n hc, zbl_p hc]
      refine zo_neg (by decide) ?_
      refine zo_ob H.o (by omega) ?_
      refine zo_bn (b_trustOf H h ha hv) ?_
      refine j_X8_judges_69 ?_
      refine zo_ob H.o (by omega) ?_
      obtain ⟨μ1, e1, h1, f1⟩ := b_putTrust H h (v := min 10 (w32 (M.T a (p 1) + 1))) ha hv
      refine zo_bn e1 ?_
      refine zo_neg (by decide) ?_
      refine j_X8_judges_84 ?_
      refine zo_ob H.o (by omega) ?_
      obtain ⟨μ2, e2, h2, f2⟩ := b_count H h1 (i := 3) ha (by decide)
      refine zo_bn e2 ?_
      refine zo_neg (by decide) ?_
      have ev : min 10 (w32 (M.T a (p 1) + 1)) = max 0 (min 10 (w32 (M.T a (p 1) + (1 - 3 * 0)))) := by
        rw [w32_e (z := M.T a (p 1) + 1) (by omega), w32_e (z := M.T a (p 1) + (1 - 3 * 0)) (by omega)]
        omega
      rw [ev] at h2
      exact zo_rt ⟨μ2, rfl, h2, FA.tr f1 f2⟩
theorem LR8.erase {i : Int} {l : List zP} {k : Nat} (h : LR8 g i l) (hk : k < l.length) (hc : g' (87 + 253 * i) = (l.length : Int) - 1) (hv : ∀ j, 88 + 253 * i + 7 * (k : Int) ≤ j → j < 88 + 253 * i + 7 * ((l.length : Int) - 1) → g' j = g (j + 7)) (hf : ∀ j, 88 + 253 * i ≤ j → j < 88 + 253 * i + 7 * (k : Int) → g' j = g j) : LR8 g' i (l.eraseIdx k) := by
  have hlen : (l.eraseIdx k).length = l.length - 1 := by rw [List.length_eraseIdx, if_pos hk]
  refine ⟨by rw [hc, hlen]; omega, ?_⟩
  intro r p hr c hc7
  have hrl := (List.getElem?_eq_some_iff.mp hr).1
  rw [hlen] at hrl
  rw [List.getElem?_eraseIdx] at hr
  by_cases e : r < k
  · rw [if_pos e] at hr
    rw [hf _ (by omega) (by omega)]
    exact h.2 r p hr c hc7
  · rw [if_neg e] at hr
    rw [hv _ (by omega) (by omega)]
    have := h.2 (r + 1) p hr c hc7
    rw [← this]
    congr 1
    omega
theorem b_dropReport (H : MSh S m A) (h : D8 (μ A) M) {a : Int} {k : Nat} (ha : 0 ≤ a ∧ a < 6) (hk : k < (M.li a).length) : ∃ μ', f_X8_dropReport m a (k : Int) (S, μ) = some (.inl 0, (S, μ')) ∧ D8 (μ' A) (M.wli (zup1 M.li a ((M.li a).eraseIdx k))) ∧ FA A μ μ' := by
  have h36 := h.ll a ha.1 ha.2
  have hlen : ((M.li a).eraseIdx k).length = (M.li a).length - 1 := by rw [List.length_eraseIdx, if_pos hk]
  have hli := h.li a ha.1 ha.2
  apply zo_ux
  refine j_X8_dropReport ?_
  refine zo_gr H.o H.r3 (by omega) (by omega) ?_
  refine zo_bn (b_listAt ha) ?_
  refine zo_ld H.A (by omega) hli.1 ?_
  refine zo_si H.A (by omega) ?_
  refine zo_bn (b_reportAt ha (by omega)) ?_
  have ew : w32 (((M.li a).length : Int) - 1) = ((M.li a).length : Int) - 1 := w32_e (by omega)
  rw [ew]
  rw [show 88 + 253 * a + 7 * (k : Int) = 88 + 253 * a + 7 * (k : Int) + ((0 : Nat) : Int) by omega]
  refine zo_l2 (F := fun n (j : Nat) (μ2 : zM) => f_X8_dropReport_19 n m a (88 + 253 * a + 7 * (k : Int) + (j : Int)) (S, μ2)) (fun j μ2 => (j : Int) ≤ 7 * ((M.li a).length - 1 - k : Int) ∧ μ2 A (87 + 253 * a) = ((M.li a).length : Int) - 1 ∧ (∀ i, 88 + 253 * a + 7 * (k : Int) ≤ i → i < 88 + 253 * a + 7 * (k : Int) + (j : Int) → μ2 A i = μ A (i + 7)) ∧ (∀ i, i ≠ 87 + 253 * a → ¬ (88 + 253 * a + 7 * (k : Int) ≤ i ∧ i < 88 + 253 * a + 7 * (k : Int) + (j : Int)) → μ2 A i = μ A i) ∧ FA A μ μ2) (fun j _ => 252 - j) ?_ zFU 0 _ ⟨by show (0 : Int) ≤ _; omega, zup_at, fun i h1 h2 => absurd h2 (by show ¬ i < _ + 0; omega), fun i h1 _ => zup_j h1, FA.up⟩ (by show 252 - 0 < 1000000; decide)
  rintro n j μ2 ⟨hj, hc, hv, hf, hA⟩ ih
  refine j_X8_dropReport_19 ?_
  refine zo_ob H.o (by omega) ?_
  have em : f_X8_manyOf m a (S, μ2) = some (.inl (((M.li a).length : Int) - 1), (S, μ2)) := by
    apply zo_un
    refine j_X8_manyOf ?_
    refine zo_gr H.o H.r3 (by omega) (by omega) ?_
    refine zo_bn (b_listAt ha) ?_
    refine zo_ld H.A (by omega) hc ?_
    exact zo_rt rfl
  refine zo_bn em ?_
  refine zo_bn (b_reportAt ha (by omega)) ?_
  by_cases e : (j : Int) < 7 * ((M.li a).length - 1 - k : Int)
  · refine zo_pos (by omega) ?_
    refine zo_gr H.o H.r3 (by omega) (by omega) ?_
    refine zo_gr H.o H.r3 (by omega) (by omega) ?_
    have e7 : w32 (88 + 253 * a + 7 * (k : Int) + (j : Int) + 7) = 88 + 253 * a + 7 * (k : Int) + (j : Int) + 7 := w32_e (by omega)
    have e1 : w32 (88 + 253 * a + 7 * (k : Int) + (j : Int) + 1) = 88 + 253 * a + 7 * (k : Int) + ((j + 1 : Nat) : Int) := by rw [w32_e (by omega)]; omega
    rw [e7, e1]
    refine zo_ld H.A (by omega) (hf _ (by omega) (by omega)) ?_
    refine zo_si H.A (by omega) ?_
    refine ih (j + 1) _ ⟨by omega, by rw [zup_j (by omega)]; exact hc, ?_, ?_, FA.tr hA FA.up⟩ (by omega)
    · intro i h1 h2
      by_cases ei : i = 88 + 253 * a + 7 * (k : Int) + (j : Int)
      · rw [ei, zup_at]
      · rw [zup_j ei]
        exact hv i h1 (by omega)
    · intro i h1 h2
      rw [zup_j (by omega)]
      exact hf i h1 (by omega)
  · refine zo_neg (by omega) ?_
    have hj' : (j : Int) = 7 * ((M.li a).length - 1 - k : Int) := by omega
    refine zo_rt ⟨μ2, rfl, h.setLi ha.1 ha.2 (by omega) (hli.erase hk hc (fun i h1 h2 => hv i h1 (by omega)) (fun i h1 h2 => hf i (by omega) (by omega))) (fun i h1 h2 h3 => hf i (by omega) (by omega)), hA⟩
end C48
