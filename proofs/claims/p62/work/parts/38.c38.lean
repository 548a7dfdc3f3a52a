/-! C 38: probing, refusals, receiving -/
theorem LRp.cong {w : Nat} {μ : zM} {a : Int} {l : List zP} {p q : zP} (h : LRp w μ a (l ++ [p])) (hpq : ∀ c, c < w → q c = p c) : LRp w μ a (l ++ [q]) := by
  refine ⟨by rw [h.1, List.length_append, List.length_append]; rfl, ?_⟩
  intro k r hk c hc
  by_cases e : k < l.length
  · rw [List.getElem?_append_left e] at hk
    exact h.2 k r (by rw [List.getElem?_append_left e]; exact hk) c hc
  · have e9 : k = l.length := by
      have := (List.getElem?_eq_some_iff.mp hk).1
      rw [List.length_append, List.length_singleton] at this
      omega
    subst e9
    rw [List.getElem?_append_right (Nat.le_refl _), Nat.sub_self] at hk
    have e8 : q = r := Option.some.inj hk
    rw [h.2 l.length p (by rw [List.getElem?_append_right (Nat.le_refl _), Nat.sub_self]; rfl) c hc, ← e8, hpq c hc]
section C38
variable {S : zG} {μ μ' μ1 : zM} {d B : Int} {M : zD} {Q : zR × zS → Prop}
theorem d_drop0 (h : D7 S μ d M) {a o w9 : Int} (ha : 0 ≤ a ∧ a < 6) : ∃ μ', f_X5_removeRow (d + 13 + 2 * a) (zfi (zq o w9) (zqD o w9) (M.li a) 0) (S, μ) = some (.inl 0, (S, μ')) ∧ LRp 7 μ' (d + 13 + 2 * a) ((M.li a).eraseP (zqb o w9)) ∧ ∀ x, x ≠ d + 13 + 2 * a → x ≠ d + 13 + 2 * a + 1 → μ' x = μ x := by
  have L := h.sh.ls a ha.1 ha.2
  have hl := h.ll a ha.1 ha.2
  rcases zfi_cs o w9 (M.li a) with ⟨e1, e2, e3⟩ | ⟨k, p, e1, e2, e3, e4, e5⟩
  · rw [e1, e3]
    exact ⟨μ, c_removeRow_no L, h.li a ha.1 ha.2, fun _ _ _ => rfl⟩
  · rw [e1, e5]
    have hk := (List.getElem?_eq_some_iff.mp e2).1
    obtain ⟨μ', f1, f2, f3⟩ := c_removeRow L (h.li a ha.1 ha.2) (by decide) (by omega) (by decide) hk
    exact ⟨μ', f1, f2, f3⟩
set_option maxHeartbeats 1000000 in
theorem d_makeProbe (h : D7 S μ d M) (W : WF B M) {a w9 lo hi : Int} (ha : 0 ≤ a ∧ a < (M.an.length : Int)) (hw : 0 ≤ w9 ∧ w9 < (M.wn.length : Int)) (hb : 0 ≤ lo ∧ lo ≤ hi ∧ hi ≤ 999) :
    ∃ μ', f_X1_makeProbe d a w9 lo hi (S, μ) = some (.inl (M.prb a w9 lo hi).2, (S, μ')) ∧ D7 S μ' d (M.prb a w9 lo hi).1 ∧ FR d μ μ' := by
  have D := h.sh
  have h60 := h.al
  have h6 : 0 ≤ a ∧ a < 6 := by omega
  have L := D.ls a h6.1 h6.2
  have hlen : ((M.li a).eraseP (zqb a w9)).length + 1 ≤ 36 := come_len W ha (ROk.own ha hw W.tm.1 hb)
  have hvv : ∀ p, p ∈ (M.li a).eraseP (zqb a w9) → 0 ≤ p 1 ∧ p 1 < 6 := by
    intro p hp
    have h1 := (W.li a p (List.mem_of_mem_eraseP hp)).v
    omega
  apply zo_ux
  refine j_X1_makeProbe ?_
  refine zo_ob D.o (by omega) ?_
  refine zo_bn (d_listOf h h6) ?_
  refine zo_ob L.o (by omega) ?_
  refine zo_bn (d_find h h6) ?_
  refine zo_ob L.o (by omega) ?_
  obtain ⟨μ1, e1, hl1, f1⟩ := d_drop0 h h6 (o := a) (w9 := w9)
  refine zo_bn e1 ?_
  refine zo_ob L.o (by omega) ?_
  have hfin : M.prb a w9 lo hi = zjds a w9 (zrow a a 0 w9 M.tm lo hi) ((M.li a).eraseP (zqb a w9)) ((M.come a (zrow a a 0 w9 M.tm lo hi)).tal a 0, 0) := rfl
  have hcome : M.come a (zrow a a 0 w9 M.tm lo hi) = M.wli (zup1 M.li a ((M.li a).eraseP (zqb a w9) ++ [zrow a a 0 w9 M.tm lo hi])) := rfl
  generalize (M.li a).eraseP (zqb a w9) = l at *
  refine zo_bn (c_addRow L hl1 (by omega) (by decide)) ?_
  have p0 : PRow μ1 (zup μ1 (d + 13 + 2 * a) 1 ((l.length : Int) + 1)) (d + 13 + 2 * a) (l.length : Int) _ := PRow.start
  refine zo_ob L.o (by omega) ?_
  obtain ⟨μ2, e2, p1⟩ := p0.put L (c := 0) (v := a) ⟨by omega, by decide⟩ (by omega) (by decide)
  refine zo_bn e2 ?_
  refine zo_ob L.o (by omega) ?_
  obtain ⟨μ3, e3, p2⟩ := p1.put L (c := 1) (v := a) ⟨by omega, by decide⟩ (by omega) (by decide)
  refine zo_bn e3 ?_
  refine zo_ob L.o (by omega) ?_
  obtain ⟨μ4, e4, p3⟩ := p2.put L (c := 2) (v := 0) ⟨by omega, by decide⟩ (by omega) (by decide)
  refine zo_bn e4 ?_
  refine zo_ob L.o (by omega) ?_
  obtain ⟨μ5, e5, p4⟩ := p3.put L (c := 3) (v := w9) ⟨by omega, by decide⟩ (by omega) (by decide)
  refine zo_bn e5 ?_
  refine zo_gf D.o (v := M.tm) (j := 8) (by rw [p4.fr d (by omega) (by omega), f1 d (by omega) (by omega)]; exact h.tm) (by omega) (by omega) ?_
  refine zo_ob L.o (by omega) ?_
  obtain ⟨μ6, e6, p5⟩ := p4.put L (c := 4) (v := M.tm) ⟨by omega, by decide⟩ (by omega) (by decide)
  refine zo_bn e6 ?_
  refine zo_ob L.o (by omega) ?_
  obtain ⟨μ7, e7, p6⟩ := p5.put L (c := 5) (v := lo) ⟨by omega, by decide⟩ (by omega) (by decide)
  refine zo_bn e7 ?_
  refine zo_ob L.o (by omega) ?_
  obtain ⟨μ8, e8, p7⟩ := p6.put L (c := 6) (v := hi) ⟨by omega, by decide⟩ (by omega) (by decide)
  refine zo_bn e8 ?_
  have hl2 := p7.fin hl1 (p := zrow a a 0 w9 M.tm lo hi) (c7 rfl rfl rfl rfl rfl rfl rfl)
  have h8 := h.setLi (μ' := μ8) (l := l ++ [zrow a a 0 w9 M.tm lo hi]) h6.1 h6.2 (by rw [List.length_append]; exact hlen) hl2 (fun x hx hy => (p7.fr x hx hy).trans (f1 x hx hy))
  rw [← hcome] at h8
  refine zo_ob D.o (by omega) ?_
  obtain ⟨μ9, e9, h9, f9⟩ := d_tally h8 h6 (show 0 ≤ (0 : Int) ∧ (0 : Int) < 5 by decide)
  refine zo_bn e9 ?_
  have hf9 : FR d μ μ9 := FR.tr (fun x hx => (p7.fr x (by omega) (by omega)).trans (f1 x (by omega) (by omega))) f9
  exact d_judges (μ := μ) (q := zrow a a 0 w9 M.tm lo hi) h6 hvv (by omega) zFU 0 0 μ9 ⟨(M.come a (zrow a a 0 w9 M.tm lo hi)).tal a 0, h9, (by rw [hcome]; exact zup1_at), by omega, by rw [hfin]; rfl, hf9, by decide, by decide⟩ (by show l.length - 0 < 1000000; omega)
theorem d_refusal (h : D7 S μ d M) (W : WF B M) {k : Nat} {m : zP} (hk : M.qu[k]? = some m) : f_X1_reasonToRefuse d (k : Int) (S, μ) = some (.inl (M.ref m), (S, μ)) := by
  have D := h.sh
  have hm := W.qu m (List.mem_of_getElem? hk)
  have h60 := h.al
  have hg := hm.g
  have hv := hm.v
  have ht := hm.t
  have htm := W.tm
  have hB := W.B0
  apply zo_un
  unfold zD.ref
  by_cases h0 : M.T (m 7) (m 1) = -1
  · rw [if_pos h0]
    refine j_X1_reasonToRefuse ?_
    repeat' (first
      | with_reducible refine zo_ob D.o (by omega) ?_
      | with_reducible refine zo_ob (DSh.o (D7.sh (by assumption))) (by omega) ?_
      | with_reducible refine zo_ob (D.ls _ (by omega) (by omega)).o (by omega) ?_
      | with_reducible refine zo_ob D.qu.o (by omega) ?_
      | with_reducible refine zo_gr D.o D.r0 (by omega) (by omega) ?_
      | with_reducible refine zo_gr D.o D.r1 (by omega) (by omega) ?_
      | with_reducible refine zo_gr D.o D.r2 (by omega) (by omega) ?_
      | with_reducible refine zo_gr D.o D.r3 (by omega) (by omega) ?_
      | with_reducible refine zo_gr D.o D.r4 (by omega) (by omega) ?_
      | with_reducible refine zo_gr D.o D.r5 (by omega) (by omega) ?_
      | with_reducible refine zo_gr D.o D.r6 (by omega) (by omega) ?_
      | with_reducible refine zo_gr D.o D.r7 (by omega) (by omega) ?_
      | refine zo_bn (by with_reducible exact d_get0 (by assumption) (by omega) (by assumption)) ?_
      | refine zo_bn (by with_reducible exact d_get1 (by assumption) (by omega) (by assumption)) ?_
      | refine zo_bn (by with_reducible exact d_get2 (by assumption) (by omega) (by assumption)) ?_
      | refine zo_bn (by with_reducible exact d_get3 (by assumption) (by omega) (by assumption)) ?_
      | refine zo_bn (by with_reducible exact d_get4 (by assumption) (by omega) (by assumption)) ?_
      | refine zo_bn (by with_reducible exact d_get5 (by assumption) (by omega) (by assumption)) ?_
      | refine zo_bn (by with_reducible exact d_get6 (by assumption) (by omega) (by assumption)) ?_
      | refine zo_bn (by with_reducible exact d_qget0 (by assumption) (by assumption)) ?_
      | refine zo_bn (by with_reducible exact d_qget1 (by assumption) (by assumption)) ?_
      | refine zo_bn (by with_reducible exact d_qget2 (by assumption) (by assumption)) ?_
      | refine zo_bn (by with_reducible exact d_qget3 (by assumption) (by assumption)) ?_
      | refine zo_bn (by with_reducible exact d_qget4 (by assumption) (by assumption)) ?_
      | refine zo_bn (by with_reducible exact d_qget5 (by assumption) (by assumption)) ?_
      | refine zo_bn (by with_reducible exact d_qget6 (by assumption) (by assumption)) ?_
      | refine zo_bn (by with_reducible exact d_qget7 (by assumption) (by assumption)) ?_
      | refine zo_bn (by with_reducible exact d_isLinked (by assumption) (by omega) (by omega)) ?_
      | refine zo_bn (by with_reducible exact d_isTooOld (by assumption) (by omega) (by assumption)) ?_
      | refine zo_bn (by with_reducible exact d_isTooOldQ (by assumption) (by assumption)) ?_
      | refine zo_bn (by with_reducible exact d_listOf (by assumption) (by omega)) ?_
      | refine zo_bn (by with_reducible exact d_find2 (by assumption) (by omega) (by assumption)) ?_
      | with_reducible refine j_X1_reasonToRefuse ?_
      | with_reducible refine j_X1_reasonToRefuse_125 ?_
      | with_reducible refine zo_zp (by assumption) ?_
      | with_reducible refine zo_zn (by assumption) ?_
      | with_reducible refine zo_zm (by assumption) ?_
      | with_reducible refine zo_zb (fun zhc => ?_) (fun zhc => ?_)
      | with_reducible refine zo_pos (by omega) ?_
      | with_reducible refine zo_neg (by omega) ?_
      | with_reducible refine zo_rt ?_
      | exact absurd (by with_reducible assumption) zhc
      | fail)
    rfl
  · rw [if_neg h0]
    by_cases ho : M.ru 3 < w32 (M.tm - m 4)
    · rw [if_pos ho]
      refine j_X1_reasonToRefuse ?_
      repeat' (first
        | with_reducible refine zo_ob D.o (by omega) ?_
        | with_reducible refine zo_ob (DSh.o (D7.sh (by assumption))) (by omega) ?_
        | with_reducible refine zo_ob (D.ls _ (by omega) (by omega)).o (by omega) ?_
        | with_reducible refine zo_ob D.qu.o (by omega) ?_
        | with_reducible refine zo_gr D.o D.r0 (by omega) (by omega) ?_
        | with_reducible refine zo_gr D.o D.r1 (by omega) (by omega) ?_
        | with_reducible refine zo_gr D.o D.r2 (by omega) (by omega) ?_
        | with_reducible refine zo_gr D.o D.r3 (by omega) (by omega) ?_
        | with_reducible refine zo_gr D.o D.r4 (by omega) (by omega) ?_
        | with_reducible refine zo_gr D.o D.r5 (by omega) (by omega) ?_
        | with_reducible refine zo_gr D.o D.r6 (by omega) (by omega) ?_
        | with_reducible refine zo_gr D.o D.r7 (by omega) (by omega) ?_
        | refine zo_bn (by with_reducible exact d_get0 (by assumption) (by omega) (by assumption)) ?_
        | refine zo_bn (by with_reducible exact d_get1 (by assumption) (by omega) (by assumption)) ?_
        | refine zo_bn (by with_reducible exact d_get2 (by assumption) (by omega) (by assumption)) ?_
        | refine zo_bn (by with_reducible exact d_get3 (by assumption) (by omega) (by assumption)) ?_
        | refine zo_bn (by with_reducible exact d_get4 (by assumption) (by omega) (by assumption)) ?_
        | refine zo_bn (by with_reducible exact d_get5 (by assumption) (by omega) (by assumption)) ?_
        | refine zo_bn (by with_reducible exact d_get6 (by assumption) (by omega) (by assumption)) ?_
        | refine zo_bn (by with_reducible exact d_qget0 (by assumption) (by assumption)) ?_
        | refine zo_bn (by with_reducible exact d_qget1 (by assumption) (by assumption)) ?_
        | refine zo_bn (by with_reducible exact d_qget2 (by assumption) (by assumption)) ?_
        | refine zo_bn (by with_reducible exact d_qget3 (by assumption) (by assumption)) ?_
        | refine zo_bn (by with_reducible exact d_qget4 (by assumption) (by assumption)) ?_
        | refine zo_bn (by with_reducible exact d_qget5 (by assumption) (by assumption)) ?_
        | refine zo_bn (by with_reducible exact d_qget6 (by assumption) (by assumption)) ?_
        | refine zo_bn (by with_reducible exact d_qget7 (by assumption) (by assumption)) ?_
        | refine zo_bn (by with_reducible exact d_isLinked (by assumption) (by omega) (by omega)) ?_
        | refine zo_bn (by with_reducible exact d_isTooOld (by assumption) (by omega) (by assumption)) ?_
        | refine zo_bn (by with_reducible exact d_isTooOldQ (by assumption) (by assumption)) ?_
        | refine zo_bn (by with_reducible exact d_listOf (by assumption) (by omega)) ?_
        | refine zo_bn (by with_reducible exact d_find2 (by assumption) (by omega) (by assumption)) ?_
        | with_reducible refine j_X1_reasonToRefuse ?_
        | with_reducible refine j_X1_reasonToRefuse_125 ?_
        | with_reducible refine zo_zp (by assumption) ?_
        | with_reducible refine zo_zn (by assumption) ?_
        | with_reducible refine zo_zm (by assumption) ?_
        | with_reducible refine zo_zb (fun zhc => ?_) (fun zhc => ?_)
        | with_reducible refine zo_pos (by omega) ?_
        | with_reducible refine zo_neg (by omega) ?_
        | with_reducible refine zo_rt ?_
        | exact absurd (by with_reducible assumption) zhc
        | fail)
      rfl
    · rw [if_neg ho]
      rcases zfi_cs (m 0) (m 3) (M.li (m 7)) with ⟨e1, e2, e3⟩ | ⟨j, q, e1, e2, e3, e4, e5⟩
      · rw [e2]
        refine j_X1_reasonToRefuse ?_
        repeat' (first
          | with_reducible refine zo_ob D.o (by omega) ?_
          | with_reducible refine zo_ob (DSh.o (D7.sh (by assumption))) (by omega) ?_
          | with_reducible refine zo_ob (D.ls _ (by omega) (by omega)).o (by omega) ?_
          | with_reducible refine zo_ob D.qu.o (by omega) ?_
          | with_reducible refine zo_gr D.o D.r0 (by omega) (by omega) ?_
          | with_reducible refine zo_gr D.o D.r1 (by omega) (by omega) ?_
          | with_reducible refine zo_gr D.o D.r2 (by omega) (by omega) ?_
          | with_reducible refine zo_gr D.o D.r3 (by omega) (by omega) ?_
          | with_reducible refine zo_gr D.o D.r4 (by omega) (by omega) ?_
          | with_reducible refine zo_gr D.o D.r5 (by omega) (by omega) ?_
          | with_reducible refine zo_gr D.o D.r6 (by omega) (by omega) ?_
          | with_reducible refine zo_gr D.o D.r7 (by omega) (by omega) ?_
          | refine zo_bn (by with_reducible exact d_get0 (by assumption) (by omega) (by assumption)) ?_
          | refine zo_bn (by with_reducible exact d_get1 (by assumption) (by omega) (by assumption)) ?_
          | refine zo_bn (by with_reducible exact d_get2 (by assumption) (by omega) (by assumption)) ?_
          | refine zo_bn (by with_reducible exact d_get3 (by assumption) (by omega) (by assumption)) ?_
          | refine zo_bn (by with_reducible exact d_get4 (by assumption) (by omega) (by assumption)) ?_
          | refine zo_bn (by with_reducible exact d_get5 (by assumption) (by omega) (by assumption)) ?_
          | refine zo_bn (by with_reducible exact d_get6 (by assumption) (by omega) (by assumption)) ?_
          | refine zo_bn (by with_reducible exact d_qget0 (by assumption) (by assumption)) ?_
          | refine zo_bn (by with_reducible exact d_qget1 (by assumption) (by assumption)) ?_
          | refine zo_bn (by with_reducible exact d_qget2 (by assumption) (by assumption)) ?_
          | refine zo_bn (by with_reducible exact d_qget3 (by assumption) (by assumption)) ?_
          | refine zo_bn (by with_reducible exact d_qget4 (by assumption) (by assumption)) ?_
          | refine zo_bn (by with_reducible exact d_qget5 (by assumption) (by assumption)) ?_
          | refine zo_bn (by with_reducible exact d_qget6 (by assumption) (by assumption)) ?_
          | refine zo_bn (by with_reducible exact d_qget7 (by assumption) (by assumption)) ?_
          | refine zo_bn (by with_reducible exact d_isLinked (by assumption) (by omega) (by omega)) ?_
          | refine zo_bn (by with_reducible exact d_isTooOld (by assumption) (by omega) (by assumption)) ?_
          | refine zo_bn (by with_reducible exact d_isTooOldQ (by assumption) (by assumption)) ?_
          | refine zo_bn (by with_reducible exact d_listOf (by assumption) (by omega)) ?_
          | refine zo_bn (by with_reducible exact d_find2 (by assumption) (by omega) (by assumption)) ?_
          | with_reducible refine j_X1_reasonToRefuse ?_
          | with_reducible refine j_X1_reasonToRefuse_125 ?_
          | with_reducible refine zo_zp (by assumption) ?_
          | with_reducible refine zo_zn (by assumption) ?_
          | with_reducible refine zo_zm (by assumption) ?_
          | with_reducible refine zo_zb (fun zhc => ?_) (fun zhc => ?_)
          | with_reducible refine zo_pos (by omega) ?_
          | with_reducible refine zo_neg (by omega) ?_
          | with_reducible refine zo_rt ?_
          | exact absurd (by with_reducible assumption) zhc
          | fail)
        rfl
      · rw [e3]
        have hq := (W.li (m 7) q (List.mem_of_getElem? e2)).t
        have ew : w32 (q 4 - m 4) = q 4 - m 4 := w32_e (by omega)
        dsimp only
        by_cases hs : m 4 < q 4 ∨ q 4 = m 4 ∧ q 2 ≤ m 2
        · rw [if_pos hs]
          refine j_X1_reasonToRefuse ?_
          repeat' (first
            | with_reducible refine zo_ob D.o (by omega) ?_
            | with_reducible refine zo_ob (DSh.o (D7.sh (by assumption))) (by omega) ?_
            | with_reducible refine zo_ob (D.ls _ (by omega) (by omega)).o (by omega) ?_
            | with_reducible refine zo_ob D.qu.o (by omega) ?_
            | with_reducible refine zo_gr D.o D.r0 (by omega) (by omega) ?_
            | with_reducible refine zo_gr D.o D.r1 (by omega) (by omega) ?_
            | with_reducible refine zo_gr D.o D.r2 (by omega) (by omega) ?_
            | with_reducible refine zo_gr D.o D.r3 (by omega) (by omega) ?_
            | with_reducible refine zo_gr D.o D.r4 (by omega) (by omega) ?_
            | with_reducible refine zo_gr D.o D.r5 (by omega) (by omega) ?_
            | with_reducible refine zo_gr D.o D.r6 (by omega) (by omega) ?_
            | with_reducible refine zo_gr D.o D.r7 (by omega) (by omega) ?_
            | refine zo_bn (by with_reducible exact d_get0 (by assumption) (by omega) (by assumption)) ?_
            | refine zo_bn (by with_reducible exact d_get1 (by assumption) (by omega) (by assumption)) ?_
            | refine zo_bn (by with_reducible exact d_get2 (by assumption) (by omega) (by assumption)) ?_
            | refine zo_bn (by with_reducible exact d_get3 (by assumption) (by omega) (by assumption)) ?_
            | refine zo_bn (by with_reducible exact d_get4 (by assumption) (by omega) (by assumption)) ?_
            | refine zo_bn (by with_reducible exact d_get5 (by assumption) (by omega) (by assumption)) ?_
            | refine zo_bn (by with_reducible exact d_get6 (by assumption) (by omega) (by assumption)) ?_
            | refine zo_bn (by with_reducible exact d_qget0 (by assumption) (by assumption)) ?_
            | refine zo_bn (by with_reducible exact d_qget1 (by assumption) (by assumption)) ?_
            | refine zo_bn (by with_reducible exact d_qget2 (by assumption) (by assumption)) ?_
            | refine zo_bn (by with_reducible exact d_qget3 (by assumption) (by assumption)) ?_
            | refine zo_bn (by with_reducible exact d_qget4 (by assumption) (by assumption)) ?_
            | refine zo_bn (by with_reducible exact d_qget5 (by assumption) (by assumption)) ?_
            | refine zo_bn (by with_reducible exact d_qget6 (by assumption) (by assumption)) ?_
            | refine zo_bn (by with_reducible exact d_qget7 (by assumption) (by assumption)) ?_
            | refine zo_bn (by with_reducible exact d_isLinked (by assumption) (by omega) (by omega)) ?_
            | refine zo_bn (by with_reducible exact d_isTooOld (by assumption) (by omega) (by assumption)) ?_
            | refine zo_bn (by with_reducible exact d_isTooOldQ (by assumption) (by assumption)) ?_
            | refine zo_bn (by with_reducible exact d_listOf (by assumption) (by omega)) ?_
            | refine zo_bn (by with_reducible exact d_find2 (by assumption) (by omega) (by assumption)) ?_
            | with_reducible refine j_X1_reasonToRefuse ?_
            | with_reducible refine zo_zp (by assumption) ?_
            | with_reducible refine zo_zn (by assumption) ?_
            | with_reducible refine zo_zm (by assumption) ?_
            | with_reducible refine zo_zb (fun zhc => ?_) (fun zhc => ?_)
            | with_reducible refine zo_pos (by omega) ?_
            | with_reducible refine zo_neg (by omega) ?_
            | with_reducible refine zo_ite (fun zhc => ?_) (fun zhc => ?_)
            | with_reducible refine zo_rt ?_
            | exact absurd (by with_reducible assumption) zhc
            | fail)
          all_goals rw [ew]
          all_goals refine j_X1_reasonToRefuse_125 ?_
          all_goals repeat' (first | refine zo_pos (by omega) ?_ | refine zo_neg (by omega) ?_ | refine zo_ite (fun _ => ?_) (fun _ => ?_) | refine zo_rt ?_)
          all_goals first | rfl | (exfalso; omega)
        · rw [if_neg hs]
          refine j_X1_reasonToRefuse ?_
          repeat' (first
            | with_reducible refine zo_ob D.o (by omega) ?_
            | with_reducible refine zo_ob (DSh.o (D7.sh (by assumption))) (by omega) ?_
            | with_reducible refine zo_ob (D.ls _ (by omega) (by omega)).o (by omega) ?_
            | with_reducible refine zo_ob D.qu.o (by omega) ?_
            | with_reducible refine zo_gr D.o D.r0 (by omega) (by omega) ?_
            | with_reducible refine zo_gr D.o D.r1 (by omega) (by omega) ?_
            | with_reducible refine zo_gr D.o D.r2 (by omega) (by omega) ?_
            | with_reducible refine zo_gr D.o D.r3 (by omega) (by omega) ?_
            | with_reducible refine zo_gr D.o D.r4 (by omega) (by omega) ?_
            | with_reducible refine zo_gr D.o D.r5 (by omega) (by omega) ?_
            | with_reducible refine zo_gr D.o D.r6 (by omega) (by omega) ?_
            | with_reducible refine zo_gr D.o D.r7 (by omega) (by omega) ?_
            | refine zo_bn (by with_reducible exact d_get0 (by assumption) (by omega) (by assumption)) ?_
            | refine zo_bn (by with_reducible exact d_get1 (by assumption) (by omega) (by assumption)) ?_
            | refine zo_bn (by with_reducible exact d_get2 (by assumption) (by omega) (by assumption)) ?_
            | refine zo_bn (by with_reducible exact d_get3 (by assumption) (by omega) (by assumption)) ?_
            | refine zo_bn (by with_reducible exact d_get4 (by assumption) (by omega) (by assumption)) ?_
            | refine zo_bn (by with_reducible exact d_get5 (by assumption) (by omega) (by assumption)) ?_
            | refine zo_bn (by with_reducible exact d_get6 (by assumption) (by omega) (by assumption)) ?_
            | refine zo_bn (by with_reducible exact d_qget0 (by assumption) (by assumption)) ?_
            | refine zo_bn (by with_reducible exact d_qget1 (by assumption) (by assumption)) ?_
            | refine zo_bn (by with_reducible exact d_qget2 (by assumption) (by assumption)) ?_
            | refine zo_bn (by with_reducible exact d_qget3 (by assumption) (by assumption)) ?_
            | refine zo_bn (by with_reducible exact d_qget4 (by assumption) (by assumption)) ?_
            | refine zo_bn (by with_reducible exact d_qget5 (by assumption) (by assumption)) ?_
            | refine zo_bn (by with_reducible exact d_qget6 (by assumption) (by assumption)) ?_
            | refine zo_bn (by with_reducible exact d_qget7 (by assumption) (by assumption)) ?_
            | refine zo_bn (by with_reducible exact d_isLinked (by assumption) (by omega) (by omega)) ?_
            | refine zo_bn (by with_reducible exact d_isTooOld (by assumption) (by omega) (by assumption)) ?_
            | refine zo_bn (by with_reducible exact d_isTooOldQ (by assumption) (by assumption)) ?_
            | refine zo_bn (by with_reducible exact d_listOf (by assumption) (by omega)) ?_
            | refine zo_bn (by with_reducible exact d_find2 (by assumption) (by omega) (by assumption)) ?_
            | with_reducible refine j_X1_reasonToRefuse ?_
            | with_reducible refine zo_zp (by assumption) ?_
            | with_reducible refine zo_zn (by assumption) ?_
            | with_reducible refine zo_zm (by assumption) ?_
            | with_reducible refine zo_zb (fun zhc => ?_) (fun zhc => ?_)
            | with_reducible refine zo_pos (by omega) ?_
            | with_reducible refine zo_neg (by omega) ?_
            | with_reducible refine zo_ite (fun zhc => ?_) (fun zhc => ?_)
            | with_reducible refine zo_rt ?_
            | exact absurd (by with_reducible assumption) zhc
            | fail)
          all_goals rw [ew]
          all_goals refine j_X1_reasonToRefuse_125 ?_
          all_goals repeat' (first | refine zo_pos (by omega) ?_ | refine zo_neg (by omega) ?_ | refine zo_ite (fun _ => ?_) (fun _ => ?_) | refine zo_rt ?_)
          all_goals first | rfl | (exfalso; omega)
theorem rcv_pos {m : zP} (h : M.ref m = 0) : M.rcv m = match (((M.tal (m 7) 1).come (m 7) (zcut m)).li (m 7)).find? (zqb (m 7) (m 3)) with
    | none => ((M.tal (m 7) 1).come (m 7) (zcut m), 1)
    | some q => ((((M.tal (m 7) 1).come (m 7) (zcut m)).jud (m 7) (zcut m) q).1, 1) := if_pos h
theorem rcv_neg {m : zP} (h : ¬ M.ref m = 0) : M.rcv m = (M.tal (m 7) 2, 0) := if_neg h
set_option maxHeartbeats 1000000 in
theorem d_receive (h : D7 S μ d M) (W : WF B M) {k : Nat} {m : zP} (hk : M.qu[k]? = some m) : ∃ μ', f_X1_receive d (k : Int) (S, μ) = some (.inl (M.rcv m).2, (S, μ')) ∧ D7 S μ' d (M.rcv m).1 ∧ FR d μ μ' := by
  have D := h.sh
  have hm := W.qu m (List.mem_of_getElem? hk)
  have h60 := h.al
  have hg := hm.g
  have hv := hm.v
  have hg6 : 0 ≤ m 7 ∧ m 7 < 6 := by omega
  have L := D.ls (m 7) hg6.1 hg6.2
  apply zo_ux
  refine j_X1_receive ?_
  refine zo_gr D.o D.r6 (by omega) (by omega) ?_
  refine zo_ob D.qu.o (by omega) ?_
  refine zo_bn (d_qget7 h hk) ?_
  refine zo_ob D.o (by omega) ?_
  refine zo_bn (d_refusal h W hk) ?_
  by_cases h0 : M.ref m = 0
  · rw [rcv_pos h0]
    refine zo_pos h0 ?_
    refine zo_ob D.o (by omega) ?_
    obtain ⟨μ1, e1, h1, f1⟩ := d_tally h hg6 (show 0 ≤ (1 : Int) ∧ (1 : Int) < 5 by decide)
    have W1 := W.tal (m 7) 1
    refine zo_bn e1 ?_
    have hk1 : (M.tal (m 7) 1).qu[k]? = some m := hk
    have hlen : (((M.tal (m 7) 1).li (m 7)).eraseP (zqb (m 0) (m 3))).length + 1 ≤ 36 := come_len W1 (i := m 7) (p := zcut m) hg hm.cut
    have hcome : (M.tal (m 7) 1).come (m 7) (zcut m) = (M.tal (m 7) 1).wli (zup1 (M.tal (m 7) 1).li (m 7) (((M.tal (m 7) 1).li (m 7)).eraseP (zqb (m 0) (m 3)) ++ [zcut m])) := rfl
    have hWc : WF B ((M.tal (m 7) 1).come (m 7) (zcut m)) := WF.come (M := M.tal (m 7) 1) W1 hg hm.cut
    generalize M.tal (m 7) 1 = M1 at *
    refine zo_gr D.o D.r6 (by omega) (by omega) ?_
    refine zo_ob D.qu.o (by omega) ?_
    refine zo_bn (d_qget3 h1 hk1) ?_
    refine zo_ob D.o (by omega) ?_
    refine zo_bn (d_listOf h1 hg6) ?_
    refine zo_gr D.o D.r6 (by omega) (by omega) ?_
    refine zo_ob D.qu.o (by omega) ?_
    refine zo_bn (d_qget0 h1 hk1) ?_
    refine zo_ob L.o (by omega) ?_
    refine zo_bn (d_find h1 hg6) ?_
    refine zo_ob L.o (by omega) ?_
    obtain ⟨μ2, e2, hl2, f2⟩ := d_drop0 h1 hg6 (o := m 0) (w9 := m 3)
    refine zo_bn e2 ?_
    generalize (M1.li (m 7)).eraseP (zqb (m 0) (m 3)) = l at *
    refine zo_gr D.o D.r6 (by omega) (by omega) ?_
    refine zo_ob L.o (by omega) ?_
    have hq2 : LRp 8 μ2 (d + 10) M1.qu := h1.qu.frame (fun j => by rw [f2 _ (by omega) (by omega)]) (fun j => by rw [f2 _ (by omega) (by omega)])
    have hql := h1.ql
    obtain ⟨μ3, p', e3, hl3, hp3, f3⟩ := c_addCopy L D.qu (by omega) hl2 hq2 (by omega) (by omega) (by decide) (by decide) (by decide) hk1
    refine zo_bn e3 ?_
    have hl4 := hl3.cong (q := zcut m) (c7 (hp3 0 (by decide)).symm (hp3 1 (by decide)).symm (hp3 2 (by decide)).symm (hp3 3 (by decide)).symm (hp3 4 (by decide)).symm (hp3 5 (by decide)).symm (hp3 6 (by decide)).symm)
    have h3 := h1.setLi (μ' := μ3) (l := l ++ [zcut m]) hg6.1 hg6.2 (by rw [List.length_append]; exact hlen) hl4 (fun x hx hy => (f3 x hx hy).trans (f2 x hx hy))
    have hf3 : FR d μ μ3 := FR.tr f1 (fun x hx => (f3 x (by omega) (by omega)).trans (f2 x (by omega) (by omega)))
    rw [← hcome] at h3
    have hli : (M1.come (m 7) (zcut m)).li (m 7) = l ++ [zcut m] := by rw [hcome]; exact zup1_at
    have hkl : ((M1.come (m 7) (zcut m)).li (m 7))[l.length]? = some (zcut m) := by rw [hli, List.getElem?_append_right (Nat.le_refl _), Nat.sub_self]; rfl
    generalize M1.come (m 7) (zcut m) = M2 at *
    refine zo_ob L.o (by omega) ?_
    rcases zfi_cs (m 7) (m 3) (M2.li (m 7)) with ⟨e4, e5, -⟩ | ⟨j, q, e4, e5, e6, e7, -⟩
    · rw [e5]
      refine zo_bn (d_find2 h3 hg6 e4) ?_
      refine zo_pos rfl ?_
      exact zo_rt ⟨μ3, rfl, h3, hf3⟩
    · rw [e6]
      refine zo_bn (d_find2 h3 hg6 e4) ?_
      refine zo_neg (by omega) ?_
      refine zo_ob D.o (by omega) ?_
      obtain ⟨μ4, e8, h4, f4⟩ := d_judge h3 hg6 hkl e5 (show 0 ≤ m 1 ∧ m 1 < 6 by omega)
      refine zo_bn e8 ?_
      exact zo_rt ⟨μ4, rfl, h4, FR.tr hf3 f4⟩
  · rw [rcv_neg h0]
    refine zo_neg h0 ?_
    refine zo_ob D.o (by omega) ?_
    obtain ⟨μ1, e1, h1, f1⟩ := d_tally h hg6 (show 0 ≤ (2 : Int) ∧ (2 : Int) < 5 by decide)
    refine zo_bn e1 ?_
    exact zo_rt ⟨μ1, rfl, h1, f1⟩
theorem d_deliver_go {n : Nat} {fin : zD × Int} (hn : n ≤ M.qu.length) (h100 : M.qu.length ≤ 100) (hm : ∀ m, m ∈ M.qu → QOk (M.an.length : Int) (M.wn.length : Int) M.tm m) : ∀ (m : Nat) (k : Nat) (c : Int) (μ2 : zM),
    (∃ M', D7 S μ2 d M' ∧ WF B M' ∧ M'.qu = M.qu ∧ M'.an = M.an ∧ M'.wn = M.wn ∧ M'.tm = M.tm ∧ k ≤ n ∧ zdlv ((M.qu.take n).drop k) (M', c) = fin ∧ FR d μ μ2 ∧ 0 ≤ c ∧ c ≤ (k : Int)) → n - k < m →
    zo (f_X1_deliverFirst_17 m d (n : Int) c (k : Int) (S, μ2)) (fun r => ∃ μ', r = (.inl fin.2, (S, μ')) ∧ D7 S μ' d (fin.1.wqu (M.qu.drop n)) ∧ FR d μ μ') := by
  refine zo_l3 _ (fun k _ _ => n - k) ?_
  rintro m k c μ2 ⟨M', h, W, hqu, han, hwn, htm, hk, hfin, hfr, hc0, hck⟩ ih
  have D := h.sh
  refine j_X1_deliverFirst_17 ?_
  by_cases e : k < n
  · refine zo_pos (by omega) ?_
    refine zo_ob D.o (by omega) ?_
    obtain ⟨p, hp, hd, hpm⟩ := drop_cons (l := M.qu.take n) (k := k) (by rw [List.length_take]; omega)
    have hkp : M'.qu[k]? = some p := by rw [hqu]; rw [List.getElem?_take_of_lt e] at hp; exact hp
    rw [hd] at hfin
    unfold zdlv at hfin
    obtain ⟨t1, t2, t3, t4, t5⟩ := rcv_T M' p
    obtain ⟨μ3, e3, h3, f3⟩ := d_receive h W hkp
    have W3 := W.rcv (m := p) (by rw [han, hwn, htm]; exact hm p (List.mem_of_mem_take hpm))
    have h01 : (M'.rcv p).2 = 0 ∨ (M'.rcv p).2 = 1 := by
      by_cases h0 : M'.ref p = 0
      · rw [rcv_pos h0]
        split <;> exact Or.inr rfl
      · rw [rcv_neg h0]
        exact Or.inl rfl
    refine zo_bn e3 ?_
    generalize M'.rcv p = z at *
    obtain ⟨M2, v⟩ := z
    dsimp only at *
    rcases h01 with h1 | h1
    · subst h1
      refine zo_pos rfl ?_
      refine j_X1_deliverFirst_35 ?_
      rw [w32_s (k := k) (by omega)]
      refine ih (k + 1) c _ ⟨M2, h3, W3, t4.trans hqu, t1.trans han, t2.trans hwn, t3.trans htm, by omega, ?_, FR.tr hfr f3, hc0, by omega⟩ (by omega)
      rw [← hfin]
      congr 2
      omega
    · subst h1
      refine zo_neg (by decide) ?_
      refine j_X1_deliverFirst_35 ?_
      rw [w32_s (k := k) (by omega), w32_e (by omega)]
      exact ih (k + 1) (c + 1) _ ⟨M2, h3, W3, t4.trans hqu, t1.trans han, t2.trans hwn, t3.trans htm, by omega, hfin, FR.tr hfr f3, by omega, by omega⟩ (by omega)
  · have e1 : k = n := by omega
    subst e1
    have e2 : (M.qu.take k).drop k = [] := by rw [List.drop_eq_nil_iff, List.length_take]; omega
    rw [e2] at hfin
    refine zo_neg (by omega) ?_
    refine j_X1_deliverFirst_41 ?_
    refine zo_gr D.o D.r6 (by omega) (by omega) ?_
    refine zo_ob D.qu.o (by omega) ?_
    have hql := h.ql
    obtain ⟨μ3, e3, h3, f3⟩ := c_removeFirst (k := (k : Int)) D.qu h.qu (by decide) (by omega) (by decide) (by omega)
    refine zo_bn e3 ?_
    rw [Int.toNat_natCast, hqu] at h3
    have h4 := h.setQu (μ' := μ3) (l := M.qu.drop k) (by rw [List.length_drop]; omega) h3 (fun x hx hy => f3 x hx hy)
    refine zo_rt ⟨μ3, by rw [← hfin]; rfl, by rw [← hfin]; exact h4, FR.tr hfr (fun x hx => f3 x (by omega) (by omega))⟩
theorem d_deliverFirst (h : D7 S μ d M) (W : WF B M) {a1 : Int} {n : Nat} (hn : min a1 (M.qu.length : Int) = (n : Int)) : ∃ μ', f_X1_deliverFirst d a1 (S, μ) = some (.inl (M.dlv n).2, (S, μ')) ∧ D7 S μ' d (M.dlv n).1 ∧ FR d μ μ' := by
  have D := h.sh
  apply zo_ux
  refine j_X1_deliverFirst ?_
  refine zo_gr D.o D.r6 (by omega) (by omega) ?_
  refine zo_gf D.qu.o h.qu.1 (by omega) (by omega) ?_
  rw [hn]
  exact d_deliver_go (μ := μ) (B := B) (n := n) (fin := zdlv (M.qu.take n) (M, 0)) (by omega) W.ql W.qu zFU 0 0 μ ⟨M, h, W, rfl, rfl, rfl, rfl, by omega, rfl, FR.rf, by decide, by decide⟩ (by have := W.ql; show n - 0 < 1000000; omega)
end C38
