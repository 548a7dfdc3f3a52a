/-! C 67: operations: keeping, restoring, undoing, the input -/
section C67
variable {S S' : zG} {μ μ' μ1 : zM} {x m B A Z : Int} {M M' X : zD} {L L' : List zD} {K : zKs} {inp out inp' out' : List Int} {c p : Int} {r : Nat → Int} {P : zG → zM → Prop} {Q : zR × zS → Prop}
theorem WF.tmI (h : WF B M) : zI M.tm := by
  have h1 := h.tm
  have h2 := h.B0
  unfold zI
  omega
theorem zfour_len (v : Int) : (zfour v).length = 4 := rfl
theorem W7.pop (h : W7 S μ x M L K inp out c p) (hh : HR7 S μ' x (x + 80) r L' K) (hd : D7 S μ' (x + 12) X) (f : ∀ y, y < x + 80 → ¬ (x + 12 ≤ y ∧ y < x + 37) → y ≠ x + 63 → μ' y = μ y) : W7 S μ' x X L' K inp out c p := by
  have hx := h.C.x0
  exact W7.mk ⟨h.C, hd, h.ts, by rw [f _ (by omega) (by omega) (by omega)]; exact h.te, ⟨r, hh⟩, h.bi, h.li.keep (by rw [f _ (by omega) (by omega) (by omega)]) (fun k => by rw [f _ (by omega) (by omega) (by omega)]), h.bo, h.lo.keep (by rw [f _ (by omega) (by omega) (by omega)]) (fun k => by rw [f _ (by omega) (by omega) (by omega)]), h.po, h.p0, h.p1, by rw [f _ (by omega) (by omega) (by omega)]; exact h.pc, by rw [f _ (by omega) (by omega) (by omega)]; exact h.pp, h.il, h.ol⟩
theorem W8.pop (h : W8 S μ m M (L' ++ [X]) K inp out c p) (hd : D8 (μ' (m + 1)) X) (hc : μ' m 25 = (L'.length : Int)) (f : ∀ y, y ≠ m → y ≠ m + 1 → μ' y = μ y) (f2 : ∀ k, k ≠ 0 → k ≠ 25 → μ' m k = μ m k) : W8 S μ' m X L' K inp out c p := by
  have hn := h.R.n
  rw [List.length_append, List.length_singleton] at hn
  refine W8.mk ⟨h.H, hd, HRel.mk ⟨by omega, hc, fun i Y hi => ?_⟩, fun i hi hk => by rw [f _ (by omega) (by omega)]; exact h.K0 i hi hk, fun i Y hi hk => by rw [f _ (by omega) (by omega), f _ (by omega) (by omega)]; exact h.K1 i Y hi hk, h.li.keep (f2 _ (by decide) (by decide)) (fun k => by rw [f _ (by omega) (by omega)]), h.lo.keep (f2 _ (by decide) (by decide)) (fun k => by rw [f _ (by omega) (by omega)]), by rw [f2 _ (by decide) (by decide)]; exact h.w, by rw [f2 _ (by decide) (by decide)]; exact h.ec, by rw [f2 _ (by decide) (by decide)]; exact h.ep⟩
  rw [f _ (by omega) (by omega)]
  exact h.R.v i Y (by rw [List.getElem?_append_left (List.getElem?_eq_some_iff.mp hi).1]; exact hi)
theorem snoc_ex {α : Type} {l : List α} (h : ¬ l.length = 0) : ∃ l1 y, l = l1 ++ [y] := by
  refine ⟨l.dropLast, l.getLast (by intro z; rw [z] at h; exact h rfl), ?_⟩
  exact (List.dropLast_concat_getLast _).symm
end C67
theorem o_undo {B x : Int} {S : zG} {μ : zM} {M : zD} {L : List zD} {K : zKs} {inp out : List Int} {c p : Int} {P : zG → zM → Prop} (h : Wd B x S μ M L K inp out c p) (hB : B + 99 ≤ 1000000) (hP : zPP B x P) : zOp x P (f_X7_undo x) (f_X8_undo (x + 66)) [(0, 1)] S μ := by
  have hx := h.o.x0
  obtain ⟨r, hH⟩ := h.a.H
  have C := h.a.C
  by_cases h0 : L.length = 0
  · refine op_t 0 1 h ?_ (by decide) (by decide) ?_ (hP.q hB)
    · apply zo_un
      refine j_X7_undo ?_
      refine zo_gr C.o C.r6 (by omega) (by omega) ?_
      refine zo_gf hH.o hH.c (by omega) (by omega) ?_
      exact zo_pos (by omega) (zo_rt rfl)
    · intro S1 m2 h8
      refine zo_xt ?_
      refine j_X8_undo ?_
      refine zo_gf h8.H.o h8.R.c (by omega) (by omega) ?_
      refine zo_neg (by omega) ?_
      refine j_X8_undo_13 ?_
      refine m_f1 h8.H rfl ?_
      exact ⟨_, _, rfl, FM.u0, zup_at⟩
  · obtain ⟨L1, X, eL⟩ := snoc_ex h0
    subst eL
    have hlen : ((L1 ++ [X]).length : Int) = (L1.length : Int) + 1 := by rw [List.length_append]; rfl
    have hn := hH.n
    rw [List.length_append, List.length_singleton] at hn
    obtain ⟨μ1, e1, h1, d1, f1⟩ := c_pop hH h.a.D rfl
    refine op_val (v := (L1.length : Int)) (S1 := S) (μ1 := μ1) (M' := X) (L' := L1) (K' := K) (inp' := inp) (out' := out) (c' := c) (p' := p) h ?_ (by unfold zI; omega) (h.a.pop h1 d1 f1) (FX.mem (fun y h2 h3 => f1 y (by omega) (by omega) (by omega))) (WB.mk ⟨h.w.L X (by simp), fun Y hY => h.w.L Y (List.mem_append_left _ hY), h.w.K⟩) ?_ (fun μ3 h3 => hP.q hB S μ3 h3)
    · apply zo_un
      refine j_X7_undo ?_
      refine zo_gr C.o C.r6 (by omega) (by omega) ?_
      refine zo_gf hH.o hH.c (by omega) (by omega) ?_
      refine zo_neg (by omega) ?_
      refine zo_gr C.o C.r6 (by omega) (by omega) ?_
      refine zo_gr C.o C.r3 (by omega) (by omega) ?_
      refine zo_ob hH.o (by omega) ?_
      refine zo_bn e1 ?_
      refine zo_gr C.o C.r6 (by omega) (by omega) ?_
      refine zo_gf hH.o h1.c (by omega) (by omega) ?_
      exact zo_rt rfl
    · intro m2 h8
      refine zo_x7 ?_
      refine j_X8_undo ?_
      refine zo_gf h8.H.o h8.R.c (by omega) (by omega) ?_
      refine zo_pos (by omega) ?_
      refine j_X8_undo_13 ?_
      refine m_p1 h8.H (by decide) ?_
      have g0 : W8 S (zup m2 (x + 66) 0 0) (x + 66) M (L1 ++ [X]) K inp out c p := FM.u0.w8 h8
      refine zo_gf g0.H.o g0.R.c (by omega) (by omega) ?_
      refine zo_pf 25 g0.H.o (by omega) (by omega) ?_
      have ew : w32 (((L1 ++ [X]).length : Int) - 1) = (L1.length : Int) := by rw [w32_e (by omega)]; omega
      rw [ew]
      have hX := g0.R.v L1.length X (by rw [List.getElem?_append_right (Nat.le_refl _), Nat.sub_self]; rfl)
      refine zo_mono (b_undo33 (l := (L1.length : Int)) g0.H (by omega) zup_at) ?_
      rintro y ⟨m4, hy, hv, hf⟩
      have hb : ∀ z, z ≠ x + 66 → z ≠ x + 66 + 1 → m4 z = m2 z := fun z hz1 hz2 => by rw [hf z hz2, zup_c hz1, zup_c hz1]
      have hk : ∀ k, k ≠ 0 → k ≠ 25 → m4 (x + 66) k = m2 (x + 66) k := fun k hk1 hk2 => by rw [hf _ (by omega), zup_j hk2, zup_j hk1]
      refine ⟨m4, hy, h8.pop ?_ (by rw [hf _ (by omega)]; exact zup_at) hb hk, by rw [hf _ (by omega), zup_j (by decide)]; exact zup_at, fun y hy2 => hb y (by omega) (by omega)⟩
      refine hX.keep (fun j h2 h3 => ?_)
      rw [hv j h2 h3, zup_b (by omega)]
theorem o_append {B x : Int} {S : zG} {μ : zM} {M : zD} {L : List zD} {K : zKs} {inp out : List Int} {c p : Int} {P : zG → zM → Prop} {a1 a2 a3 a4 a5 : Int} (h : Wd B x S μ M L K inp out c p) (hB : B + 99 ≤ 1000000) (hP : zPP B x P) : zOp x P (f_X7_append x a1 a2 a3 a4 a5) (f_X8_append (x + 66) a1 a2 a3 a4 a5) [(0, 1)] S μ := by
  have hx := h.o.x0
  have hil := h.a.il
  have C := h.a.C
  by_cases h1 : inp.length + 20 ≤ 600
  · obtain ⟨μ1, e1, l1, f1⟩ := c_addFour (v := a1) h.a.bi (by rw [show x + 1 + 1 = x + 2 by omega]; exact h.a.li) (by omega) (by decide)
    obtain ⟨μ2, e2, l2, f2⟩ := c_addFour (v := a2) h.a.bi l1 (by rw [List.length_append, zfour_len]; omega) (by decide)
    obtain ⟨μ3, e3, l3, f3⟩ := c_addFour (v := a3) h.a.bi l2 (by rw [List.length_append, List.length_append, zfour_len, zfour_len]; omega) (by decide)
    obtain ⟨μ4, e4, l4, f4⟩ := c_addFour (v := a4) h.a.bi l3 (by rw [List.length_append, List.length_append, List.length_append, zfour_len, zfour_len, zfour_len]; omega) (by decide)
    obtain ⟨μ5, e5, l5, f5⟩ := c_addFour (v := a5) h.a.bi l4 (by rw [List.length_append, List.length_append, List.length_append, List.length_append, zfour_len, zfour_len, zfour_len, zfour_len]; omega) (by decide)
    have hf := FB.tr (FB.tr (FB.tr (FB.tr f1 f2) f3) f4) f5
    have hlen : (inp ++ zfour a1 ++ zfour a2 ++ zfour a3 ++ zfour a4 ++ zfour a5).length = inp.length + 20 := by
      rw [List.length_append, List.length_append, List.length_append, List.length_append, List.length_append, zfour_len, zfour_len, zfour_len, zfour_len, zfour_len]
    have hlI : ((inp ++ zfour a1 ++ zfour a2 ++ zfour a3 ++ zfour a4 ++ zfour a5).length : Int) = (inp.length : Int) + 20 := by rw [hlen]; rfl
    have e12 : x + 1 + 1 = x + 2 := by omega
    rw [e12] at l5
    have ew : w32 ((inp.length : Int) + 20) = (inp.length : Int) + 20 := w32_e (by omega)
    refine op_val (v := (inp.length : Int) + 20) (S1 := S) (μ1 := μ5) (M' := M) (L' := L) (K' := K) (inp' := inp ++ zfour a1 ++ zfour a2 ++ zfour a3 ++ zfour a4 ++ zfour a5) (out' := out) (c' := c) (p' := p) h ?_ (by unfold zI; omega) (h.a.inpu l5 hf (by omega)) (FX.mem (fun y h1 h2 => hf y (by omega) (by omega))) h.w ?_ (fun μ3 h3 => hP.q hB S μ3 h3)
    · apply zo_un
      refine j_X7_append ?_
      refine zo_gr C.o C.r0 (by omega) (by omega) ?_
      refine zo_gf h.a.bi.o h.a.li.n (by omega) (by omega) ?_
      rw [ew]
      refine zo_neg (by omega) ?_
      refine zo_gr C.o C.r0 (by omega) (by omega) ?_
      refine zo_ob h.a.bi.o (by omega) ?_
      refine zo_bn e1 ?_
      refine zo_gr C.o C.r0 (by omega) (by omega) ?_
      refine zo_ob h.a.bi.o (by omega) ?_
      refine zo_bn e2 ?_
      refine zo_gr C.o C.r0 (by omega) (by omega) ?_
      refine zo_ob h.a.bi.o (by omega) ?_
      refine zo_bn e3 ?_
      refine zo_gr C.o C.r0 (by omega) (by omega) ?_
      refine zo_ob h.a.bi.o (by omega) ?_
      refine zo_bn e4 ?_
      refine zo_gr C.o C.r0 (by omega) (by omega) ?_
      refine zo_ob h.a.bi.o (by omega) ?_
      refine zo_bn e5 ?_
      refine zo_gr C.o C.r0 (by omega) (by omega) ?_
      refine zo_gf h.a.bi.o l5.n (by omega) (by omega) ?_
      exact zo_rt (by rw [hlI])
    · intro m2 h8
      have g0 : W8 S (zup m2 (x + 66) 0 0) (x + 66) M L K inp out c p := FM.u0.w8 h8
      have n0 : zup m2 (x + 66) 0 0 (x + 66) 0 = 0 := zup_at
      obtain ⟨m3, d1, k1, q1⟩ := b_appendFour (v := a1) g0.H g0.li (by omega)
      obtain ⟨m4, d2, k2, q2⟩ := b_appendFour (v := a2) g0.H k1 (by rw [List.length_append, zfour_len]; omega)
      obtain ⟨m5, d3, k3, q3⟩ := b_appendFour (v := a3) g0.H k2 (by rw [List.length_append, List.length_append, zfour_len, zfour_len]; omega)
      obtain ⟨m6, d4, k4, q4⟩ := b_appendFour (v := a4) g0.H k3 (by rw [List.length_append, List.length_append, List.length_append, zfour_len, zfour_len, zfour_len]; omega)
      obtain ⟨m7, d5, k5, q5⟩ := b_appendFour (v := a5) g0.H k4 (by rw [List.length_append, List.length_append, List.length_append, List.length_append, zfour_len, zfour_len, zfour_len, zfour_len]; omega)
      have q := FI.tr (FI.tr (FI.tr (FI.tr q1 q2) q3) q4) q5
      refine zo_x7 ?_
      refine j_X8_append ?_
      refine zo_gf h8.H.o h8.li.n (by omega) (by omega) ?_
      rw [ew]
      refine zo_neg (by omega) ?_
      refine j_X8_append_19 ?_
      refine m_p1 h8.H (by decide) ?_
      refine zo_ob g0.H.o (by omega) ?_
      refine zo_bn d1 ?_
      refine zo_ob g0.H.o (by omega) ?_
      refine zo_bn d2 ?_
      refine zo_ob g0.H.o (by omega) ?_
      refine zo_bn d3 ?_
      refine zo_ob g0.H.o (by omega) ?_
      refine zo_bn d4 ?_
      refine zo_ob g0.H.o (by omega) ?_
      refine zo_bn d5 ?_
      refine zo_gf g0.H.o k5.n (by omega) (by omega) ?_
      refine zo_rt ⟨m7, by rw [hlI], g0.inpu k5 q, by rw [q.f _ (by decide)]; exact n0, fun y hy => by rw [q.x y (by omega) (by omega), zup_c (by omega)]⟩
  · have ew : w32 ((inp.length : Int) + 20) = (inp.length : Int) + 20 := w32_e (by omega)
    refine op_t 0 1 h ?_ (by decide) (by decide) ?_ (hP.q hB)
    · apply zo_un
      refine j_X7_append ?_
      refine zo_gr C.o C.r0 (by omega) (by omega) ?_
      refine zo_gf h.a.bi.o h.a.li.n (by omega) (by omega) ?_
      rw [ew]
      exact zo_pos (by omega) (zo_rt rfl)
    · intro S1 m2 h8
      refine zo_xt ?_
      refine j_X8_append ?_
      refine zo_gf h8.H.o h8.li.n (by omega) (by omega) ?_
      rw [ew]
      refine zo_pos (by omega) ?_
      refine j_X8_append_19 ?_
      refine m_f1 h8.H rfl ?_
      exact ⟨_, _, rfl, FM.u0, zup_at⟩
theorem o_truncate {B x : Int} {S : zG} {μ : zM} {M : zD} {L : List zD} {K : zKs} {inp out : List Int} {c p : Int} {P : zG → zM → Prop} {n : Int} (h : Wd B x S μ M L K inp out c p) (hB : B + 99 ≤ 1000000) (hP : zPP B x P) : zOp x P (f_X7_truncate x n) (f_X8_truncate (x + 66) n) [(1, 1)] S μ := by
  have hx := h.o.x0
  have hil := h.a.il
  have C := h.a.C
  by_cases h1 : 0 ≤ n ∧ n ≤ (inp.length : Int)
  · obtain ⟨k, rfl⟩ : ∃ k : Nat, n = (k : Int) := ⟨n.toNat, by omega⟩
    have l1 := h.a.li.tk (by omega) k (by omega)
    have f1 : FB (x + 1) μ (zup μ (x + 1) 1 (k : Int)) := fun y h1 h2 => zup_c h1
    refine op_val (v := 0) (S1 := S) (μ1 := zup μ (x + 1) 1 (k : Int)) (M' := M) (L' := L) (K' := K) (inp' := inp.take k) (out' := out) (c' := c) (p' := p) h ?_ (by unfold zI; decide) (h.a.inpu l1 f1 (by rw [List.length_take]; omega)) (FX.mem (fun y h1 h2 => f1 y (by omega) (by omega))) h.w ?_ (fun μ3 h3 => hP.q hB S μ3 h3)
    · apply zo_un
      refine j_X7_truncate ?_
      refine zo_gr C.o C.r0 (by omega) (by omega) ?_
      refine zo_gf h.a.bi.o h.a.li.n (by omega) (by omega) ?_
      refine zo_bn (k_R h1) ?_
      refine zo_gr C.o C.r0 (by omega) (by omega) ?_
      refine zo_pf 1 h.a.bi.o (by omega) (by omega) ?_
      exact zo_rt rfl
    · intro m2 h8
      have g0 : W8 S (zup m2 (x + 66) 0 0) (x + 66) M L K inp out c p := FM.u0.w8 h8
      have n0 : zup m2 (x + 66) 0 0 (x + 66) 0 = 0 := zup_at
      have k1 := g0.li.tk (by omega) k (by omega)
      have q : FI (x + 66) (zup m2 (x + 66) 0 0) (zup (zup m2 (x + 66) 0 0) (x + 66) 11 (k : Int)) := FI.mk ⟨fun y h1 h2 => zup_c h1, fun k h1 => zup_j h1⟩
      refine zo_x7 ?_
      refine j_X8_truncate ?_
      refine zo_gf h8.H.o h8.li.n (by omega) (by omega) ?_
      refine zo_bn b_in ?_
      refine m_p1 h8.H (zbl_nz h1) ?_
      refine zo_pf 11 g0.H.o (by omega) (by omega) ?_
      exact zo_rt ⟨_, rfl, g0.inpu k1 q, by rw [q.f _ (by decide)]; exact n0, fun y hy => by rw [q.x y (by omega) (by omega), zup_c (by omega)]⟩
  · refine op_t 1 1 h ?_ (by decide) (by decide) ?_ (hP.q hB)
    · apply zo_un
      refine j_X7_truncate ?_
      refine zo_gr C.o C.r0 (by omega) (by omega) ?_
      refine zo_gf h.a.bi.o h.a.li.n (by omega) (by omega) ?_
      exact zo_be (k_R_no h1) rfl
    · intro S1 m2 h8
      refine zo_xt ?_
      refine j_X8_truncate ?_
      refine zo_gf h8.H.o h8.li.n (by omega) (by omega) ?_
      refine zo_bn b_in ?_
      refine m_f1 h8.H (zbl_n h1) ?_
      exact ⟨_, _, rfl, FM.u0, zup_at⟩
theorem o_keep {B x : Int} {S : zG} {μ : zM} {M : zD} {L : List zD} {K : zKs} {inp out : List Int} {c p : Int} {P : zG → zM → Prop} {s : Int} (h : Wd B x S μ M L K inp out c p) (hB : B + 99 ≤ 1000000) (hP : zPP B x P) : zOp x P (f_X7_keep x s) (f_X8_keep (x + 66) s) [(2, 1)] S μ := by
  have hx := h.o.x0
  obtain ⟨r, hH⟩ := h.a.H
  by_cases h1 : 0 ≤ s ∧ s ≤ 1
  · obtain ⟨i, rfl⟩ : ∃ i : Nat, s = (i : Int) := ⟨s.toNat, by omega⟩
    obtain ⟨S1, μ1, r1, e1, g1, f1⟩ := c_keep (i := i) hH h.a.D h.a.C (by omega)
    refine op_val (v := M.tm) (S1 := S1) (μ1 := μ1) (M' := M) (L' := L) (K' := zkp K i M) (inp' := inp) (out' := out) (c' := c) (p' := p) h e1 h.w.M.tmI (h.a.hist f1 g1) f1.fx (WB.mk ⟨h.w.M, h.w.L, fun j X hj hk => ?_⟩) ?_ (fun μ3 h3 => hP.q hB S1 μ3 h3)
    · unfold zkp at hk
      by_cases e : j = i
      · rw [if_pos e] at hk
        rw [← Option.some.inj hk]
        exact h.w.M
      · rw [if_neg e] at hk
        exact h.w.K j X hj hk
    · intro m2 h8
      refine zo_x7 ?_
      refine j_X8_keep ?_
      refine zo_bn b_isSlot ?_
      refine m_p1 h8.H (zbl_nz h1) ?_
      have g0 : W8 S1 (zup m2 (x + 66) 0 0) (x + 66) M L K inp out c p := FM.u0.w8 h8
      refine zo_mono (b_keep15 (i := i) g0 (by omega)) ?_
      rintro y ⟨m4, hy, hw, hf⟩
      exact ⟨m4, hy, hw, by rw [hf _ (by omega) (by omega)]; exact zup_at, fun y hy => by rw [hf y (by omega) (by omega), zup_c (by omega)]⟩
  · refine op_t 2 1 h ?_ (by decide) (by decide) ?_ (hP.q hB)
    · apply zo_un
      refine j_X7_keep ?_
      refine zo_ob h.a.C.o (by omega) ?_
      exact zo_be (k_S_no h.a.C hH.s2 h1) rfl
    · intro S1 m2 h8
      refine zo_xt ?_
      refine j_X8_keep ?_
      refine zo_bn b_isSlot ?_
      refine m_f1 h8.H (zbl_n h1) ?_
      exact ⟨_, _, rfl, FM.u0, zup_at⟩
theorem o_restore {B x : Int} {S : zG} {μ : zM} {M : zD} {L : List zD} {K : zKs} {inp out : List Int} {c p : Int} {P : zG → zM → Prop} {s : Int} (h : Wd B x S μ M L K inp out c p) (hB : B + 99 ≤ 1000000) (hP : zPP B x P) : zOp x P (f_X7_restore x s) (f_X8_restore (x + 66) s) [(2, 1), (0, 2)] S μ := by
  have hx := h.o.x0
  have C := h.a.C
  obtain ⟨r, hH⟩ := h.a.H
  by_cases h1 : 0 ≤ s ∧ s ≤ 1
  · obtain ⟨i, rfl⟩ : ∃ i : Nat, s = (i : Int) := ⟨s.toNat, by omega⟩
    have hi : i < 2 := by omega
    cases hk : K i with
    | none =>
      have er := hH.K0 i hi hk
      refine op_t 0 2 h ?_ (by decide) (by decide) ?_ (hP.q hB)
      · apply zo_un
        refine j_X7_restore ?_
        refine zo_ob h.a.C.o (by omega) ?_
        refine zo_bn (k_S h.a.C hH.s2 h1) ?_
        refine zo_gr C.o C.r7 (by omega) (by omega) ?_
        refine zo_lr hH.s2 (by omega) (hH.r2 i hi) ?_
        exact zo_pos (by omega) (zo_rt rfl)
      · intro S1 m2 h8
        refine zo_xt ?_
        refine j_X8_restore ?_
        refine zo_bn b_isSlot ?_
        refine zo_bn b_isSlot ?_
        refine zo_zp h1 ?_
        refine zo_gr h8.H.o h8.H.r23 (by omega) (by omega) ?_
        refine zo_ld h8.H.a9 (by omega) (h8.K0 i hi hk) ?_
        refine zo_pos rfl ?_
        refine j_X8_restore_26 ?_
        refine m_f2b h8.H (zbl_nz h1) rfl ?_
        exact ⟨_, _, rfl, FM.u0, zup_at⟩
    | some X =>
      obtain ⟨S1, μ1, e, he, he0, he8, e1, g1, f1, d1⟩ := w7_push2 h.a hi hk
      obtain ⟨μ5, e5, h5, f5⟩ := d_become g1.D.sh (by omega) g1.D.em d1 (by omega)
      have hWX := h.w.K i X hi hk
      refine op_val (v := X.tm) (S1 := S1) (μ1 := μ5) (M' := X) (L' := zpush L M) (K' := K) (inp' := inp) (out' := out) (c' := c) (p' := p) h ?_ hWX.tmI (g1.desk h5 f5) (FX.mk ⟨f1.sh, f1.rf, fun y h2 h3 => (f5 y (by omega)).trans (f1.m y h2 h3), f1.nx⟩) (h.w.psh (hWX.up hB) hB) ?_ (fun μ3 h3 => hP S1 μ3 _ _ _ _ _ _ _ h3)
      · apply zo_un
        refine j_X7_restore ?_
        refine zo_ob h.a.C.o (by omega) ?_
        refine zo_bn (k_S h.a.C hH.s2 h1) ?_
        refine zo_gr C.o C.r7 (by omega) (by omega) ?_
        refine zo_lr hH.s2 (by omega) he ?_
        refine zo_neg (by omega) ?_
        refine zo_gr C.o C.r6 (by omega) (by omega) ?_
        refine zo_gr C.o C.r3 (by omega) (by omega) ?_
        refine zo_ob hH.o (by omega) ?_
        refine zo_bn e1 ?_
        refine zo_gr g1.C.o g1.C.r3 (by omega) (by omega) ?_
        refine zo_ob g1.D.sh.o (by omega) ?_
        refine zo_bn e5 ?_
        refine zo_gr g1.C.o g1.C.r3 (by omega) (by omega) ?_
        refine zo_gf g1.D.sh.o h5.tm (by omega) (by omega) ?_
        exact zo_rt rfl
      · intro m2 h8
        refine zo_x7 ?_
        refine j_X8_restore ?_
        refine zo_bn b_isSlot ?_
        refine zo_bn b_isSlot ?_
        refine zo_zp h1 ?_
        refine zo_gr h8.H.o h8.H.r23 (by omega) (by omega) ?_
        refine zo_ld h8.H.a9 (by omega) (h8.K1 i X hi hk).1 ?_
        refine zo_neg (by decide) ?_
        refine j_X8_restore_21 ?_
        refine j_X8_restore_26 ?_
        refine m_p2 h8.H (zbl_nz h1) (by decide) ?_
        have g0 : W8 S1 (zup m2 (x + 66) 0 0) (x + 66) M L K inp out c p := FM.u0.w8 h8
        obtain ⟨m4, d4, g8, q4⟩ := g0.rem
        have gt : m4 (x + 66) 0 = 0 := by rw [q4.f _ (by decide)]; exact zup_at
        have gf : ∀ y, y < x + 66 ∨ x + 78 ≤ y → m4 y = m2 y := fun y hy => by rw [q4.x y (by omega) (by omega), zup_c (by omega)]
        refine zo_ob g0.H.o (by omega) ?_
        refine zo_bn d4 ?_
        refine zo_mono (b_rest40 g8.H hi (g8.K1 i X hi hk).2) ?_
        rintro y ⟨m5, hy, k5, q5⟩
        exact ⟨m5, hy, g8.desk k5 q5, by rw [q5 _ (by omega)]; exact gt, fun y hy => by rw [q5 y (by omega)]; exact gf y hy⟩
  · refine op_t 2 1 h ?_ (by decide) (by decide) ?_ (hP.q hB)
    · apply zo_un
      refine j_X7_restore ?_
      refine zo_ob h.a.C.o (by omega) ?_
      exact zo_be (k_S_no h.a.C hH.s2 h1) rfl
    · intro S1 m2 h8
      refine zo_xt ?_
      refine j_X8_restore ?_
      refine zo_bn b_isSlot ?_
      refine zo_bn b_isSlot ?_
      refine zo_zn h1 ?_
      refine j_X8_restore_21 ?_
      refine j_X8_restore_26 ?_
      refine m_f2a h8.H (zbl_n h1) ?_
      exact ⟨_, _, rfl, FM.u0, zup_at⟩
