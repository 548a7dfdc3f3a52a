/-! C 53: the model lays a belief -/
theorem zent_has {w x : Int} : ∀ (l : List zP) (k j : Nat) (p : zP), l[j]? = some p → (p 3 = w ∧ ¬ p 1 = x) → (k + j, p) ∈ zent w x l k := by
  intro l
  induction l with
  | nil => intro k j p h; cases h
  | cons q s ih =>
    intro k j p h hr
    rw [zent_c]
    cases j with
    | zero =>
      have e : q = p := Option.some.inj h
      rw [e, if_pos hr]
      exact List.mem_cons_self ..
    | succ j =>
      have h1 := ih (k + 1) j p h hr
      have e : k + 1 + j = k + (j + 1) := by omega
      rw [e] at h1
      split
      · exact List.mem_cons_of_mem _ h1
      · exact h1
theorem rel_dis {B : Int} {M : zD} (W : WF B M) {a : Int} {i j : Nat} {p q : zP} (hi : (M.li a)[i]? = some p) (hj : (M.li a)[j]? = some q) (hw : p 3 = q 3) (hij : i ≠ j) : p 0 ≠ q 0 := by
  have hnd := List.pairwise_iff_getElem.mp (W.nd a)
  obtain ⟨j1, j2⟩ := List.getElem?_eq_some_iff.mp hj
  obtain ⟨i1, i2⟩ := List.getElem?_eq_some_iff.mp hi
  rcases Nat.lt_or_gt_of_ne hij with hlt | hlt
  · have h5 := hnd i j i1 j1 hlt
    rw [j2, i2] at h5
    exact fun z => h5 ⟨z, hw⟩
  · have h5 := hnd j i j1 i1 hlt
    rw [j2, i2] at h5
    exact fun z => h5 ⟨z.symm, hw.symm⟩
theorem zlp_fix {α : Type} {f : Nat → α → α} {s : α} (h : ∀ k, f k s = s) : ∀ (n k : Nat), zlp f k n s = s := by
  intro n
  induction n with
  | zero => intro k; rfl
  | succ n ih =>
    intro k
    show zlp f (k + 1) n (f k s) = s
    rw [h]
    exact ih (k + 1)
theorem zwc_len (st : Int → Int) : ∀ X : zEn, zwc st X ≤ X.length := by
  intro X
  induction X with
  | nil => exact Nat.le_refl _
  | cons e r ih =>
    unfold zwc
    rw [List.length_cons]
    split <;> omega
section C53
variable {S : zG} {μ μ' : zM} {m A B a w x : Int} {M X : zD} {Q : zR × zS → Prop} {s : zBs}
theorem zst0_row (W : WF B M) {k : Nat} {p : zP} (hk : (M.li a)[k]? = some p) (hr : p 3 = w ∧ ¬ p 1 = x) : zst0 M a (zent w x (M.li a) 0) (p 0) = 3 - zbl (M.out a p) := by
  have h1 := zent_has (M.li a) 0 k p hk hr
  obtain ⟨i, hi⟩ := List.getElem?_of_mem h1
  exact zst0_mem (zent_dis W a w x) hi
theorem b_lay1 (H : MSh S m A) (h : D8 (μ A) M) (W : WF B M) (ha : 0 ≤ a ∧ a < 6) (hx : μ m 4 = x) {Q : zR × zS → Prop} (hQ : ∀ μ2, BRel M a w x μ2 m (zst0 M a (zent w x (M.li a) 0), 0, 999) → FN m μ μ2 → zo (f_X8_layBelief_110 m a (S, μ2)) Q) : zo (f_X8_layBelief m a w (S, μ)) Q := by
  have h36 := h.ll a ha.1 ha.2
  have hA0 := H.A0
  refine j_X8_layBelief ?_
  refine zo_pf 5 H.o (by omega) (by omega) ?_
  refine zo_pf 6 H.o (by omega) (by omega) ?_
  have f0 : FN m μ (zup (zup μ m 5 0) m 6 999) := FN.tr FN.u5 FN.u6
  refine zo_l2 (F := fun n (k : Nat) (μ2 : zM) => f_X8_layBelief_14 n m a w (k : Int) (S, μ2)) (fun k μ2 => k ≤ (M.li a).length ∧ (∀ (j : Nat) (p : zP), j < k → (M.li a)[j]? = some p → ((p 3 = w ∧ ¬ p 1 = x) → μ2 (m + 3) (j : Int) = 2 * zbl (M.out a p) ∧ μ2 (m + 4) (j : Int) = zbl (M.out a p)) ∧ (¬ (p 3 = w ∧ ¬ p 1 = x) → μ2 (m + 3) (j : Int) = -1 ∧ μ2 (m + 4) (j : Int) = 1)) ∧ μ2 m 5 = 0 ∧ μ2 m 6 = 999 ∧ FN m μ μ2) (fun k _ => (M.li a).length - k) ?_ zFU 0 _ ⟨by omega, fun j p hj => absurd hj (by omega), by rw [zup_j (by decide), zup_at], zup_at, f0⟩ (by show (M.li a).length - 0 < 1000000; omega)
  rintro n k μ2 ⟨hk, hv, hl, ht, hf⟩ ih
  have h2 : D8 (μ2 A) M := by rw [hf.x A (by omega) (by omega) (by omega)]; exact h
  refine j_X8_layBelief_14 ?_
  refine zo_ob H.o (by omega) ?_
  refine zo_bn (b_manyOf H h2 ha) ?_
  by_cases e : k < (M.li a).length
  · obtain ⟨p, hp, hd, hpm⟩ := drop_cons e
    have next : ∀ u v : Int, (v = 0 ∨ v = 1) → (u = 0 → v = 0) → (¬ u = 0 → v = 1) → ((p 3 = w ∧ ¬ p 1 = x) → u = 2 * zbl (M.out a p) ∧ v = zbl (M.out a p)) → (¬ (p 3 = w ∧ ¬ p 1 = x) → u = -1 ∧ v = 1) → zo (f_X8_layBelief_83 (f_X8_layBelief_14 n) m a w (k : Int) (m + 3) (k : Int) u (S, μ2)) Q := by
      intro u v hv01 hu0 hu1 hc1 hc2
      have fin : zo (f_X8_layBelief_103 (f_X8_layBelief_14 n) m a w (k : Int) (m + 4) (k : Int) v (S, zup μ2 (m + 3) (k : Int) u)) Q := by
        refine j_X8_layBelief_103 ?_
        refine zo_pos hv01 ?_
        refine zo_si H.a4 (by omega) ?_
        rw [w32_s (k := k) (by omega)]
        refine ih (k + 1) _ ⟨by omega, ?_, by rw [zup_b (by omega), zup_b (by omega)]; exact hl, by rw [zup_b (by omega), zup_b (by omega)]; exact ht, FN.tr hf (FN.tr FN.u3 FN.u4)⟩ (by omega)
        intro j q hj hq
        by_cases ej : j = k
        · subst ej
          have e1 : p = q := Option.some.inj (hp.symm.trans hq)
          subst e1
          rw [zup_b (by omega), zup_at, zup_at]
          exact ⟨hc1, hc2⟩
        · rw [zup_b (by omega), zup_j (by omega), zup_j (by omega), zup_b (by omega)]
          exact hv j q (by omega) hq
      refine j_X8_layBelief_83 ?_
      refine zo_si H.a3 (by omega) ?_
      refine zo_gr H.o H.r8 (by omega) (by omega) ?_
      refine zo_gr H.o H.r7 (by omega) (by omega) ?_
      refine zo_ld H.a3 (by omega) zup_at ?_
      refine zo_ite (fun h0 => ?_) (fun h0 => ?_)
      · rw [hu0 h0] at fin
        exact fin
      · rw [hu1 h0] at fin
        exact fin
    have no : ¬ (p 3 = w ∧ ¬ p 1 = x) → zo (f_X8_layBelief_52 (f_X8_layBelief_14 n) m a w (k : Int) (S, μ2)) Q := by
      intro hn
      refine j_X8_layBelief_52 ?_
      refine j_X8_layBelief_53 ?_
      refine zo_gr H.o H.r7 (by omega) (by omega) ?_
      refine zo_pos rfl ?_
      exact next (-1) 1 (Or.inr rfl) (fun z => absurd z (by decide)) (fun _ => rfl) (fun z => absurd z hn) (fun _ => ⟨rfl, rfl⟩)
    refine zo_pos (by omega) ?_
    refine zo_ob H.o (by omega) ?_
    refine zo_bn (b_ofR3 H h2 ha hp) ?_
    refine zo_ite (fun h3 => ?_) (fun h3 => no (fun z => h3 z.1))
    refine zo_ob H.o (by omega) ?_
    refine zo_bn (b_ofR1 H h2 ha hp) ?_
    refine zo_gf H.o (v := x) (j := 4) (by rw [hf.f 4 (by decide) (by decide)]; exact hx) (by omega) (by omega) ?_
    refine zo_ite (fun h4 => no (fun z => z.2 h4)) (fun h4 => ?_)
    refine j_X8_layBelief_53 ?_
    refine zo_gr H.o H.r7 (by omega) (by omega) ?_
    refine zo_neg (by decide) ?_
    refine zo_ob H.o (by omega) ?_
    refine zo_bn (b_isOut H h2 W ha hp) ?_
    refine zo_zb (fun ho => ?_) (fun ho => ?_)
    · exact next 0 0 (Or.inl rfl) (fun _ => rfl) (fun z => absurd rfl z) (fun _ => by rw [zbl_n ho]; exact ⟨rfl, rfl⟩) (fun z => absurd ⟨h3, h4⟩ z)
    · exact next 2 1 (Or.inr rfl) (fun z => absurd z (by decide)) (fun _ => rfl) (fun _ => by rw [zbl_p ho]; exact ⟨rfl, rfl⟩) (fun z => absurd ⟨h3, h4⟩ z)
  · refine zo_neg (by omega) ?_
    refine hQ μ2 (BRel.mk ⟨?_, ?_, ?_, ?_, hl, ht⟩) hf
    · intro j p hj hr
      have hjl := (List.getElem?_eq_some_iff.mp hj).1
      rw [((hv j p (by omega) hj).1 hr).1]
      show _ = if zst0 M a (zent w x (M.li a) 0) (p 0) = 3 then 0 else zst0 M a (zent w x (M.li a) 0) (p 0)
      rw [zst0_row W hj hr]
      rcases zbl_01 (M.out a p) with h5 | h5 <;> rw [h5] <;> rfl
    · intro j p hj hr
      have hjl := (List.getElem?_eq_some_iff.mp hj).1
      rw [((hv j p (by omega) hj).1 hr).2]
      show _ = zbl (¬ zst0 M a (zent w x (M.li a) 0) (p 0) = 3)
      rw [zst0_row W hj hr]
      by_cases ho : M.out a p
      · rw [zbl_p ho, zbl_p (by omega)]
      · rw [zbl_n ho, zbl_n (by omega)]
    · intro j p hj hr
      have hjl := (List.getElem?_eq_some_iff.mp hj).1
      exact ((hv j p (by omega) hj).2 hr).1
    · intro j p hj hr
      have hjl := (List.getElem?_eq_some_iff.mp hj).1
      exact ((hv j p (by omega) hj).2 hr).2
theorem BRel.step (W : WF B M) (hb : BRel M a w x μ m s) {j : Nat} {p : zP} {t lo hi : Int} (hj : (M.li a)[j]? = some p) (hr : p 3 = w ∧ ¬ p 1 = x) (ht : t = 0 ∨ t = 1) (h3 : ∀ i, μ' (m + 3) i = zup μ (m + 3) (j : Int) t (m + 3) i) (h4 : ∀ i, μ' (m + 4) i = zup μ (m + 4) (j : Int) 1 (m + 4) i) (h5 : μ' m 5 = lo) (h6 : μ' m 6 = hi) : BRel M a w x μ' m (zup1 s.1 (p 0) t, lo, hi) := by
  refine BRel.mk ⟨?_, ?_, ?_, ?_, h5, h6⟩
  · intro k q hk hq
    rw [h3]
    show _ = if zup1 s.1 (p 0) t (q 0) = 3 then 0 else zup1 s.1 (p 0) t (q 0)
    by_cases e : k = j
    · subst e
      have e1 : p = q := Option.some.inj (hj.symm.trans hk)
      subst e1
      rw [zup_at, zup1_at, if_neg (by omega)]
    · rw [zup_j (by omega), zup1_b (rel_dis W hk hj (hq.1.trans hr.1.symm) e)]
      exact hb.s1 k q hk hq
  · intro k q hk hq
    rw [h4]
    show _ = zbl (¬ zup1 s.1 (p 0) t (q 0) = 3)
    by_cases e : k = j
    · subst e
      have e1 : p = q := Option.some.inj (hj.symm.trans hk)
      subst e1
      rw [zup_at, zup1_at, zbl_p (by omega)]
    · rw [zup_j (by omega), zup1_b (rel_dis W hk hj (hq.1.trans hr.1.symm) e)]
      exact hb.d1 k q hk hq
  · intro k q hk hq
    have e : k ≠ j := by
      intro z
      subst z
      have e1 : p = q := Option.some.inj (hj.symm.trans hk)
      subst e1
      exact hq hr
    rw [h3, zup_j (by omega)]
    exact hb.s2 k q hk hq
  · intro k q hk hq
    have e : k ≠ j := by
      intro z
      subst z
      have e1 : p = q := Option.some.inj (hj.symm.trans hk)
      subst e1
      exact hq hr
    rw [h4, zup_j (by omega)]
    exact hb.d2 k q hk hq
set_option maxHeartbeats 1000000 in
theorem b_lay (H : MSh S m A) (h : D8 (μ A) M) (W : WF B M) (ha : 0 ≤ a ∧ a < 6) (hx : μ m 4 = x) : ∃ μ', f_X8_layBelief m a w (S, μ) = some (.inl 0, (S, μ')) ∧ (BRel M a w x μ' m (M.bel a w x) ∧ FN m μ μ') := by
  have hA0 := H.A0
  have h36 := h.ll a ha.1 ha.2
  apply zo_ux
  refine b_lay1 H h W ha hx ?_
  intro μ1 hb1 f1
  refine j_X8_layBelief_110 ?_
  refine zo_ob H.o (by omega) ?_
  have hD : ∀ μ2, FN m μ μ2 → D8 (μ2 A) M := by
    intro μ2 hf
    rw [hf.x A (by omega) (by omega) (by omega)]
    exact h
  have hw1 : zwo M a w x (zst0 M a (zent w x (M.li a) 0), 0, 999) := by
    intro k p hk hr h3 ho
    replace h3 : zst0 M a (zent w x (M.li a) 0) (p 0) = 3 := h3
    rw [zst0_row W hk hr, zbl_p ho] at h3
    exact absurd h3 (by decide)
  obtain ⟨i1, e1, n1⟩ := b_next H (hD μ1 f1) W ha hb1 hw1
  refine zo_bn e1 ?_
  refine zo_l3 (F := fun n (_ : Nat) (i : Int) (μ2 : zM) => f_X8_layBelief_116 n m a i (S, μ2)) (fun k i μ2 => k ≤ (zent w x (M.li a) 0).length ∧ ∃ s2 : zBs, BRel M a w x μ2 m s2 ∧ zwo M a w x s2 ∧ zwc s2.1 (zent w x (M.li a) 0) ≤ (zent w x (M.li a) 0).length - k ∧ zlp (fun _ s => zbs M a (zent w x (M.li a) 0) s) k ((zent w x (M.li a) 0).length - k) s2 = M.bel a w x ∧ FN m μ μ2 ∧ ((znx (M.rk a) s2.1 (zent w x (M.li a) 0) none = none ∧ i = -1) ∨ ∃ (j : Nat) (p : zP), znx (M.rk a) s2.1 (zent w x (M.li a) 0) none = some p ∧ i = (j : Int) ∧ (M.li a)[j]? = some p ∧ (p 3 = w ∧ ¬ p 1 = x) ∧ s2.1 (p 0) = 3)) (fun k _ _ => (zent w x (M.li a) 0).length - k) ?_ zFU 0 i1 μ1 ⟨by omega, _, hb1, hw1, zwc_len _ _, rfl, f1, n1⟩ (by have := zent_len W a w x; show _ - 0 < 1000000; omega)
  rintro n k i μ2 ⟨hk, s2, hb, hw, hc, hz, hf, hn⟩ ih
  refine j_X8_layBelief_116 ?_
  have h2 := hD μ2 hf
  rcases hn with ⟨hn, hi⟩ | ⟨j, p, hn, hi, hj, hr, h3⟩
  · refine zo_pos hi ?_
    have hfix : ∀ k : Nat, (fun _ s => zbs M a (zent w x (M.li a) 0) s) k s2 = s2 := by
      intro k
      show zbs M a (zent w x (M.li a) 0) s2 = s2
      unfold zbs
      rw [hn]
    rw [zlp_fix hfix] at hz
    exact zo_rt ⟨μ2, rfl, by rw [← hz]; exact hb, hf⟩
  · subst hi
    have hjl := (List.getElem?_eq_some_iff.mp hj).1
    have hmem : (j, p) ∈ zent w x (M.li a) 0 := by
      have := zent_has (M.li a) 0 j p hj hr
      rw [Nat.zero_add] at this
      exact this
    have hlt : ∀ t, ¬ t = 3 → zwc (zup1 s2.1 (p 0) t) (zent w x (M.li a) 0) < zwc s2.1 (zent w x (M.li a) 0) := fun t ht => zwc_lt ht _ j p hmem h3 rfl
    have h0 := hlt 0 (by decide)
    have hwn : ∀ t lo hi, ¬ t = 3 → zwo M a w x (zup1 s2.1 (p 0) t, lo, hi) := by
      intro t lo hi ht k' q hk' hq h3'
      replace h3' : zup1 s2.1 (p 0) t (q 0) = 3 := h3'
      by_cases e : q 0 = p 0
      · rw [e, zup1_at] at h3'
        exact absurd h3' ht
      · rw [zup1_b e] at h3'
        exact hw k' q hk' hq h3'
    have e9 : (zent w x (M.li a) 0).length - k = ((zent w x (M.li a) 0).length - (k + 1)) + 1 := by omega
    rw [e9] at hz
    have hz' : zlp (fun _ s => zbs M a (zent w x (M.li a) 0) s) (k + 1) ((zent w x (M.li a) 0).length - (k + 1)) (zbs M a (zent w x (M.li a) 0) s2) = M.bel a w x := hz
    have again : ∀ (t lo hi : Int) (μ3 : zM), (t = 0 ∨ t = 1) → zbs M a (zent w x (M.li a) 0) s2 = (zup1 s2.1 (p 0) t, lo, hi) → BRel M a w x μ3 m (zup1 s2.1 (p 0) t, lo, hi) → FN m μ μ3 → zo (zob 8 m (S, μ3) (zbn (f_X8_nextReport m a (S, μ3)) fun x2 τ3 => f_X8_layBelief_116 n m a x2 τ3)) (fun r => ∃ μ', r = (.inl 0, (S, μ')) ∧ (BRel M a w x μ' m (M.bel a w x) ∧ FN m μ μ')) := by
      intro t lo hi μ3 ht hs hb3 hf3
      rw [hs] at hz'
      have ht3 : ¬ t = 3 := by omega
      have hwt := hwn t lo hi ht3
      have hc3 := hlt t ht3
      obtain ⟨i3, e3, n3⟩ := b_next H (hD μ3 hf3) W ha hb3 hwt
      refine zo_ob H.o (by omega) ?_
      refine zo_bn e3 ?_
      exact ih (k + 1) i3 μ3 ⟨by omega, _, hb3, hwt, by show zwc (zup1 s2.1 (p 0) t) _ ≤ _; omega, hz', hf3, n3⟩ (by omega)
    refine zo_neg (by omega) ?_
    refine zo_gr H.o H.r8 (by omega) (by omega) ?_
    refine zo_pos (by decide) ?_
    refine zo_si H.a4 (by omega) ?_
    have hf3 : FN m μ (zup μ2 (m + 4) (j : Int) 1) := FN.tr hf FN.u4
    have h3' := hD _ hf3
    refine zo_gf H.o (v := s2.2.1) (j := 5) (by rw [zup_b (by omega)]; exact hb.lo) (by omega) (by omega) ?_
    refine zo_ob H.o (by omega) ?_
    refine zo_bn (b_movedBy H h3' W ha hj) ?_
    refine zo_ob H.o (by omega) ?_
    refine zo_bn (b_lowBy H h3' ha hj) ?_
    refine zo_gf H.o (v := s2.2.2) (j := 6) (by rw [zup_b (by omega)]; exact hb.hi) (by omega) (by omega) ?_
    refine zo_ob H.o (by omega) ?_
    refine zo_bn (b_movedBy H h3' W ha hj) ?_
    refine zo_ob H.o (by omega) ?_
    refine zo_bn (b_topBy H h3' ha hj) ?_
    refine zo_gr H.o H.r7 (by omega) (by omega) ?_
    have elo : zlo p (M.sp a p) = M.lo a p := rfl
    have ehi : zhi p (M.sp a p) = M.hi a p := rfl
    rw [elo, ehi]
    by_cases hcc : min s2.2.2 (M.hi a p) < max s2.2.1 (M.lo a p)
    · have ez : zbs M a (zent w x (M.li a) 0) s2 = (zup1 s2.1 (p 0) 1, s2.2.1, s2.2.2) := by
        unfold zbs
        rw [hn]
        exact if_pos hcc
      refine zo_pos hcc ?_
      refine j_X8_layBelief_187 ?_
      refine zo_si H.a3 (by omega) ?_
      refine zo_pos hcc ?_
      refine zo_gf H.o (v := s2.2.1) (j := 5) (by rw [zup_b (by omega), zup_b (by omega)]; exact hb.lo) (by omega) (by omega) ?_
      refine j_X8_layBelief_205 ?_
      refine zo_pf 5 H.o (by omega) (by omega) ?_
      refine zo_pos hcc ?_
      refine zo_gf H.o (v := s2.2.2) (j := 6) (by rw [zup_j (by decide), zup_b (by omega), zup_b (by omega)]; exact hb.hi) (by omega) (by omega) ?_
      refine j_X8_layBelief_225 ?_
      refine zo_pf 6 H.o (by omega) (by omega) ?_
      refine again 1 s2.2.1 s2.2.2 _ (Or.inr rfl) ez (hb.step W hj hr (Or.inr rfl) (fun i => ?_) (fun i => ?_) ?_ ?_) (FN.tr hf3 (FN.tr FN.u3 (FN.tr FN.u5 FN.u6)))
      · rw [zup_b (by omega), zup_b (by omega)]
        show zup (zup μ2 (m + 4) (j : Int) 1) (m + 3) (j : Int) 1 (m + 3) i = _
        by_cases ei : i = (j : Int)
        · rw [ei, zup_at, zup_at]
        · rw [zup_j ei, zup_j ei, zup_j ei]
      · rw [zup_b (by omega), zup_b (by omega), zup_b (by omega)]
      · rw [zup_j (by decide), zup_at]
      · exact zup_at
    · have ez : zbs M a (zent w x (M.li a) 0) s2 = (zup1 s2.1 (p 0) 0, max s2.2.1 (M.lo a p), min s2.2.2 (M.hi a p)) := by
        unfold zbs
        rw [hn]
        exact if_neg hcc
      refine zo_neg hcc ?_
      refine j_X8_layBelief_187 ?_
      refine zo_si H.a3 (by omega) ?_
      refine zo_neg hcc ?_
      refine j_X8_layBelief_205 ?_
      refine zo_pf 5 H.o (by omega) (by omega) ?_
      refine zo_neg hcc ?_
      refine j_X8_layBelief_225 ?_
      refine zo_pf 6 H.o (by omega) (by omega) ?_
      refine again 0 _ _ _ (Or.inl rfl) ez (hb.step W hj hr (Or.inl rfl) (fun i => ?_) (fun i => ?_) ?_ ?_) (FN.tr hf3 (FN.tr FN.u3 (FN.tr FN.u5 FN.u6)))
      · rw [zup_b (by omega), zup_b (by omega)]
        show zup (zup μ2 (m + 4) (j : Int) 1) (m + 3) (j : Int) 0 (m + 3) i = _
        by_cases ei : i = (j : Int)
        · rw [ei, zup_at, zup_at]
        · rw [zup_j ei, zup_j ei, zup_j ei]
      · rw [zup_b (by omega), zup_b (by omega), zup_b (by omega)]
      · rw [zup_j (by decide), zup_at]
      · exact zup_at
end C53
