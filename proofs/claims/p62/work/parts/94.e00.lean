/-! R4: the law's walk through the order -/
section R4
variable {B x : Int} {S S1 : zG} {μ μ' μ0 μ1 μ2 : zM} {M : zD} {L : List zD} {K : zKs} {inp out : List Int} {c p a w r : Int} {H : Int → zS → zFn} {Q : zR × zS → Prop} {k i : Nat} {q : zP} {X Y Z : zEn} {e f : Nat × zP} {A : zFn}

theorem sn_cs {α : Type} : ∀ l : List α, l = [] ∨ ∃ (r : List α) (y : α), l = r ++ [y] := by
  intro l
  induction l with
  | nil => exact Or.inl rfl
  | cons y l ih =>
    rcases ih with h | ⟨r, z, h⟩
    · exact Or.inr ⟨[], y, by rw [h]; rfl⟩
    · exact Or.inr ⟨y :: r, z, by rw [h]; rfl⟩
theorem ors_perm (W : WF B M) {t : Int} {s : zBs} (hp : Y.Perm (zent w (-1) (M.li a) 0)) : zws s t (zent w (-1) (M.li a) 0) 0 = zws s t Y 0 := by
  have hX : ∀ e, e ∈ zent w (-1) (M.li a) 0 → 0 ≤ e.2 0 ∧ e.2 0 < 6 := by
    rintro ⟨i, q⟩ he
    exact li_or W q (List.mem_of_getElem? (zent_get he).1)
  have h1 := zws_mb (z := s) (t := t) _ 0 hX (by decide)
  have h2 := zws_mb (z := s) (t := t) Y 0 (fun e he => hX e (hp.mem_iff.mp he)) (by decide)
  refine mask_ext h1.1 h2.1 (fun k hk hk6 => ?_)
  rw [h1.2 k hk hk6, h2.2 k hk hk6]
  exact ⟨fun z => z.imp id (fun ⟨e, z1, z2⟩ => ⟨e, hp.mem_iff.mpr z1, z2⟩), fun z => z.imp id (fun ⟨e, z1, z2⟩ => ⟨e, hp.mem_iff.mp z1, z2⟩)⟩
theorem zm_or0 : ∀ s : Fin 64, zor ((s : Nat) : Int) 0 = ((s : Nat) : Int) := by decide +kernel
theorem or_0 {s : Int} (hs : 0 ≤ s ∧ s < 64) : zor s 0 = s := by
  have h := zm_or0 ⟨s.toNat, by omega⟩
  dsimp only at h
  rw [Int.toNat_of_nonneg hs.1] at h
  exact h
theorem zws_rng (W : WF B M) {t : Int} {s : zBs} (hY : ∀ e, e ∈ Y → e ∈ zent w (-1) (M.li a) 0) : 0 ≤ zws s t Y 0 ∧ zws s t Y 0 < 64 :=
  (zws_mb (z := s) (t := t) Y 0 (fun e he => li_or W e.2 (List.mem_of_getElem? (zent_get (i := e.1) (q := e.2) (hY e he)).1)) (by decide)).1
theorem mvd_ln (h : q 1 = a ∨ ¬ M.T a (q 1) = -1) : M.mvd a 0 q = zlo q (M.sp a q) ∧ M.mvd a 1 q = zhi q (M.sp a q) := ⟨(if_pos h).trans (if_pos rfl), (if_pos h).trans (if_neg (by decide))⟩
theorem mvd_un (h : ¬ (q 1 = a ∨ ¬ M.T a (q 1) = -1)) : M.mvd a 0 q = -1 ∧ M.mvd a 1 q = -1 := ⟨if_neg h, if_neg h⟩
theorem bl_walk (h0 : Wd B x S μ0 M L K inp out c p) (ha : 0 ≤ a ∧ a < (M.an.length : Int)) (hw : 0 ≤ w ∧ w < (M.wn.length : Int)) {rn : Int} (hr : r = S.2.2) (hr1 : S1.1 r = some (1, rn)) (hrn : (Y.length : Int) ≤ rn) (hp : Y.Perm (zent w (-1) (M.li a) 0)) (hs : Y.Pairwise (fun e f => M.rk a e.2 < M.rk a f.2)) (R0 : Rw x S S1 μ0 r Y μ) : zo (f_L_believes_92 x a w r (Y.length : Int) (S1, μ)) (Dn B x M L K inp out c p) := by
  have W := h0.w.M
  have hx := h0.nn
  have hrx : x + 12 ≤ r := by omega
  have hYl : Y.length ≤ 6 := by
    rw [hp.length_eq]
    exact zent_len W a w (-1)
  have hbf := bel_fold W hp hs
  refine j_L_believes_92 ?_
  refine zo_lk (F := fun m (b : Int × Int × Int × Int × Int × zM) => f_L_believes_109 m x a w r (Y.length : Int) b.1 b.2.1 b.2.2.1 b.2.2.2.1 b.2.2.2.2.1 (S1, b.2.2.2.2.2)) (b0 := (0, 999, 0, 0, 0, μ)) Y.length (fun k b => b.1 = ((Y.take k).foldl (zb2 M a) (zs0 M a w)).2.1 ∧ b.2.1 = ((Y.take k).foldl (zb2 M a) (zs0 M a w)).2.2 ∧ b.2.2.1 = zws (M.bel a w (-1)) 0 (Y.take k) 0 ∧ b.2.2.2.1 = zws (M.bel a w (-1)) 1 (Y.take k) 0 ∧ b.2.2.2.2.1 = (k : Int) ∧ Rw x S S1 μ0 r Y b.2.2.2.2.2) ?_ ⟨rfl, rfl, rfl, rfl, rfl, R0⟩ (by show Y.length < 1000000; omega)
  rintro n k ⟨lo, hi, tk, dn, kk, μ1⟩ hk ⟨h1, h2, h3, h4, h5, hR⟩ ih
  dsimp only at h1 h2 h3 h4 h5 hR ih ⊢
  subst h5
  have hd := (h0.ext hR.1).sd
  refine j_L_believes_109 ?_
  by_cases hc : k < Y.length
  · refine zo_pos (by omega) ?_
    have he : Y[k]? = some Y[k] := List.getElem?_eq_getElem hc
    generalize Y[k] = e at he
    obtain ⟨i, q⟩ := e
    have hmem : (i, q) ∈ zent w (-1) (M.li a) 0 := hp.mem_iff.mp (List.mem_of_getElem? he)
    obtain ⟨hq, hq3, hq1⟩ := zent_get hmem
    have hrk := li_ok W hq
    have hT := W.Tr a (q 1)
    have hst := sts_at hmem
    have hba := bel_at W hp hs he
    have hout := (bel_out W (List.mem_of_getElem? hq) ⟨hq3, hq1⟩).1
    have htf := take_fold (M := M) (a := a) (s := zs0 M a w) he
    have hpre : ∀ e, e ∈ Y.take k → e ∈ zent w (-1) (M.li a) 0 := fun e z => hp.mem_iff.mp (List.mem_of_mem_take z)
    have htk : 0 ≤ tk ∧ tk < 64 := by rw [h3]; exact zws_rng W hpre
    have hdn : 0 ≤ dn ∧ dn < 64 := by rw [h4]; exact zws_rng W hpre
    generalize hsv : (Y.take k).foldl (zb2 M a) (zs0 M a w) = s at h1 h2 hba htf
    have nx : ∀ {lo' hi' tk' dn' : Int} {μ3 : zM}, Sd B x S1 μ1 μ3 M L K inp out c p → lo' = (zb2 M a s (i, q)).2.1 → hi' = (zb2 M a s (i, q)).2.2 → tk' = zws (M.bel a w (-1)) 0 (Y.take (k + 1)) 0 → dn' = zws (M.bel a w (-1)) 1 (Y.take (k + 1)) 0 → zo (f_L_believes_398 (f_L_believes_109 n) x a w r (Y.length : Int) lo' hi' tk' dn' (k : Int) (S1, μ3)) (Dn B x M L K inp out c p) := by
      intro lo' hi' tk' dn' μ3 g3 g4 g5 g6 g7
      refine j_L_believes_398 ?_
      rw [w32_s (by omega)]
      exact ih hc (lo', hi', tk', dn', ((k + 1 : Nat) : Int), μ3) ⟨by rw [htf]; exact g4, by rw [htf]; exact g5, g6, g7, rfl, hR.fv hrx g3.2⟩
    have c205 : ∀ {μ3 : zM}, Sd B x S1 μ1 μ3 M L K inp out c p → zo (f_L_believes_205 (f_L_believes_109 n) x a w r (Y.length : Int) lo hi tk dn (k : Int) (i : Int) (M.mvd a 0 q) (M.mvd a 1 q) (S1, μ3)) (Dn B x M L K inp out c p) := by
      intro μ3 g3
      refine j_L_believes_205 ?_
      refine y_moved0 g3 hq ha (fun μ4 g4 => ?_)
      refine zo_pos rfl ?_
      refine y_moved1 g4 hq ha (fun μ5 g5 => ?_)
      refine zo_pos rfl ?_
      refine y_isOut g5 hq ha (fun μ6 g6 => ?_)
      by_cases ho : M.out a q
      · have hs2 : M.sts a i q = 2 := hst.trans (hout.mpr ho)
        have hb2 : (M.bel a w (-1)).1 (q 0) = 2 := hout.mpr ho
        have hz2 : zb2 M a s (i, q) = s := zb2_o (e := (i, q)) ho
        rw [zbl_p ho]
        refine zo_neg (by decide) ?_
        refine j_L_believes_270 ?_
        refine j_L_believes_271 ?_
        refine y_status g6 hq ha (fun μ7 g7 => ?_)
        refine zo_neg (by decide) ?_
        refine j_L_believes_299 ?_
        refine zo_pos hs2 ?_
        refine zo_neg (by decide) ?_
        refine nx g7 (by rw [hz2]; exact h1) (by rw [hz2]; exact h2) ?_ ?_
        · rw [zws_n he (by show ¬ (M.bel a w (-1)).1 (q 0) = 0; rw [hb2]; decide)]
          exact h3
        · rw [zws_n he (by show ¬ (M.bel a w (-1)).1 (q 0) = 1; rw [hb2]; decide)]
          exact h4
      · have hz2 : zb2 M a s (i, q) = zb1 M a s q := zb2_n (e := (i, q)) ho
        replace hba : (M.bel a w (-1)).1 (q 0) = (zb2 M a s (i, q)).1 (q 0) := hba
        rw [hz2] at hba
        rw [zbl_n ho, (mvd_lo ho).1, (mvd_lo ho).2]
        refine zo_pos rfl ?_
        by_cases hm : min s.2.2 (M.hi a q) < max s.2.1 (M.lo a q)
        · have hz3 : zb1 M a s q = (zup1 s.1 (q 0) 1, s.2.1, s.2.2) := if_pos hm
          rw [hz3] at hba
          replace hba : (M.bel a w (-1)).1 (q 0) = 1 := hba.trans zup1_at
          refine zo_pos (by rw [h1, h2]; exact hm) ?_
          refine j_L_believes_270 ?_
          refine j_L_believes_271 ?_
          refine y_status g6 hq ha (fun μ7 g7 => ?_)
          refine zo_pos rfl ?_
          refine zo_pos rfl ?_
          refine j_L_believes_299 ?_
          refine zo_pos (hst.trans hba) ?_
          refine zo_pos rfl ?_
          refine zo_pos rfl ?_
          refine j_L_believes_333 ?_
          refine zo_pos rfl ?_
          refine y_report0 g7 hq ha (fun μ8 g8 => ?_)
          refine j_L_believes_357 ?_
          refine zo_pos rfl ?_
          refine j_L_believes_377 ?_
          refine zo_pos rfl ?_
          refine j_L_believes_396 ?_
          refine nx g8 (by rw [hz2, hz3]; exact h1) (by rw [hz2, hz3]; exact h2) ?_ ?_
          · rw [or_0 htk, zws_n he (by show ¬ (M.bel a w (-1)).1 (q 0) = 0; rw [hba]; decide)]
            exact h3
          · rw [zws_y he hba, h4]
        · have hz3 : zb1 M a s q = (zup1 s.1 (q 0) 0, max s.2.1 (M.lo a q), min s.2.2 (M.hi a q)) := if_neg hm
          rw [hz3] at hba
          replace hba : (M.bel a w (-1)).1 (q 0) = 0 := hba.trans zup1_at
          refine zo_neg (by rw [h1, h2]; exact hm) ?_
          refine j_L_believes_271 ?_
          refine y_status g6 hq ha (fun μ7 g7 => ?_)
          refine zo_pos rfl ?_
          refine zo_neg (by decide) ?_
          refine j_L_believes_299 ?_
          refine zo_pos (hst.trans hba) ?_
          refine zo_pos rfl ?_
          refine zo_neg (by decide) ?_
          refine y_report0 g7 hq ha (fun μ8 g8 => ?_)
          refine j_L_believes_333 ?_
          refine zo_neg (by decide) ?_
          refine j_L_believes_357 ?_
          refine zo_neg (by decide) ?_
          refine j_L_believes_377 ?_
          refine zo_neg (by decide) ?_
          refine j_L_believes_396 ?_
          refine nx g8 (by rw [hz2, hz3, h1]) (by rw [hz2, hz3, h2]) ?_ ?_
          · rw [zws_y he hba, h3]
          · rw [or_0 hdn, zws_n he (by show ¬ (M.bel a w (-1)).1 (q 0) = 1; rw [hba]; decide)]
            exact h4
    have cln : (q 1 = a ∨ ¬ M.T a (q 1) = -1) → ∀ {μ3 : zM}, Sd B x S1 μ1 μ3 M L K inp out c p → zo (f_L_believes_150 (f_L_believes_109 n) x a w r (Y.length : Int) lo hi tk dn (k : Int) (i : Int) (S1, μ3)) (Dn B x M L K inp out c p) := by
      intro hl μ3 g3
      refine j_L_believes_150 ?_
      refine j_L_believes_155 ?_
      refine zo_neg (by decide) ?_
      refine y_by g3 hq ha (fun μ4 g4 => ?_)
      refine y_low g4 hq ha (fun μ5 g5 => ?_)
      refine j_L_believes_180 ?_
      refine zo_neg (by decide) ?_
      refine y_by g5 hq ha (fun μ6 g6 => ?_)
      refine y_top g6 hq ha (fun μ7 g7 => ?_)
      have g := c205 g7
      rw [(mvd_ln hl).1, (mvd_ln hl).2] at g
      exact g
    refine zo_ld hr1 (by omega) (hR.2 k _ he) ?_
    refine y_report0 hd hq ha (fun μ2 g2 => ?_)
    refine zo_ite (fun c1 => cln (Or.inl (hrk.e1.mpr c1)) g2) (fun c1 => ?_)
    refine y_report1 g2 hq ha (fun μ3 g3 => ?_)
    refine y_trust g3 ha hrk.v (fun μ4 g4 => ?_)
    refine zo_ite (fun c2 => ?_) (fun c2 => cln (Or.inr (by omega)) g4)
    have hl : ¬ (q 1 = a ∨ ¬ M.T a (q 1) = -1) := fun z => z.elim (fun z => c1 (hrk.e1.mp z)) (fun z => z (by omega))
    refine j_L_believes_155 ?_
    refine zo_pos rfl ?_
    refine j_L_believes_180 ?_
    refine zo_pos rfl ?_
    have g := c205 g4
    rw [(mvd_un hl).1, (mvd_un hl).2] at g
    exact g
  · refine zo_neg (by omega) ?_
    have hk2 : k = Y.length := by omega
    rw [hk2, List.take_length] at h1 h2 h3 h4
    rw [← hbf] at h1 h2
    refine j_L_believes_404 ?_
    refine y_belief0 hd ha hw (fun μ2 g2 => ?_)
    refine zo_pos h1.symm ?_
    refine y_belief1 g2 ha hw (fun μ3 g3 => ?_)
    refine zo_pos h2.symm ?_
    refine y_sources g3 ha hw (fun μ4 g4 => ?_)
    refine zo_pos ((ors_perm W hp).trans h3.symm) ?_
    refine y_contradicted g4 ha hw (fun μ5 g5 => ?_)
    refine zo_pos ((ors_perm W hp).trans h4.symm) ?_
    refine zo_bd (l_agrees g5.1 ha hw) (fun S2 μ6 g6 => ?_)
    refine zo_neg (by decide) ?_
    exact zo_rt ⟨_, _, rfl, g6⟩
theorem rk_ne (W : WF B M) {q1 q2 : zP} (h1 : ROk (M.an.length : Int) (M.wn.length : Int) M.tm a q1) (h2 : ROk (M.an.length : Int) (M.wn.length : Int) M.tm a q2) (h : ¬ q1 0 = q2 0) : ¬ M.rk a q1 = M.rk a q2 := by
  rw [rk_e W h1, rk_e W h2]
  have a1 := h1.o
  have a2 := h2.o
  have a3 := h1.h
  have a4 := h2.h
  have a5 := W.al
  omega
theorem l_believes (h0 : Wd B x S μ0 M L K inp out c p) (ha : 0 ≤ a ∧ a < (M.an.length : Int)) (hw : 0 ≤ w ∧ w < (M.wn.length : Int)) : zo (f_L_believes x a w (S, μ0)) (Dn B x M L K inp out c p) := by
  have W := h0.w.M
  have hx := h0.nn
  have hl36 := W.len a
  refine j_L_believes ?_
  refine y_reports h0.sd ha (fun μ1 h1 => ?_)
  refine y_na (x := x) (by omega) (fun S1 μ2 e2 nx2 sh2 _ => ?_)
  have hrx : x + 12 ≤ S.2.2 := by omega
  have hb := h1.1
  refine zo_lk (F := fun m (b : Int × Int × zM) => f_L_believes_14 m x a w S.2.2 b.1 b.2.1 (S1, b.2.2)) (b0 := (0, 0, μ2)) (M.li a).length (fun k b => b.2.1 = (k : Int) ∧ ∃ Y : zEn, b.1 = (Y.length : Int) ∧ Y.Perm (zent w (-1) ((M.li a).take k) 0) ∧ Y.Pairwise (fun e f => M.rk a e.2 < M.rk a f.2) ∧ Rw x S S1 μ1 S.2.2 Y b.2.2) ?_ ⟨rfl, [], rfl, List.Perm.refl _, List.Pairwise.nil, e2, fun j e hj => by cases hj⟩ (by show (M.li a).length < 1000000; omega)
  rintro n k ⟨many, i, μ3⟩ hk ⟨hi, Y, hm, hp, hs, hR⟩ ih
  dsimp only at hi hm hR ih ⊢
  subst hi
  subst hm
  have hd := (hb.ext hR.1).sd
  refine j_L_believes_14 ?_
  refine zo_al (t := 0) sh2 ?_
  have hYl : Y.length ≤ 6 ∧ Y.length ≤ k := by
    rw [hp.length_eq]
    have z1 := zent_le (w := w) (x := -1) ((M.li a).take k) 0
    rw [List.length_take] at z1
    exact ⟨(zent_pre (a := a) (w := w) (x := -1) W k).2, by omega⟩
  refine zo_ite (fun hk2 => ?_) (fun hk2 => ?_)
  · have hk3 : k < (M.li a).length := by omega
    have hq : (M.li a)[k]? = some (M.li a)[k] := List.getElem?_eq_getElem hk3
    generalize (M.li a)[k] = q at hq
    have hrk := li_ok W hq
    have hv := hrk.v
    refine y_report3 hd hq ha (fun μ4 h4 => ?_)
    refine zo_ite (fun hw2 => ?_) (fun hw2 => ?_)
    · have hz := zent_y (x := -1) hq (⟨hw2, by omega⟩ : q 3 = w ∧ ¬ q 1 = -1)
      have hfull : ∀ e, e ∈ Y → (M.li a)[e.1]? = some e.2 ∧ ¬ e.2 0 = q 0 := by
        intro e he
        have z1 := hp.mem_iff.mp he
        have z2 := (zent_pre (a := a) (w := w) (x := -1) W k).1 e z1
        have z3 := (zent_get (i := e.1) (q := e.2) z2).1
        refine ⟨z3, fun z4 => ?_⟩
        have z5 := zent_inj W e (k, q) z2 (mem_zent hq ⟨hw2, by omega⟩) z4
        have z6 := (zent_mem _ _ e.1 e.2 z1).2.1
        have z7 := (List.getElem?_eq_some_iff.mp z6).1
        rw [List.length_take, z5] at z7
        dsimp only at z7
        omega
      have fin : ∀ {P Q : zEn} {μ5 : zM}, Y = P ++ Q → Ext x S S1 μ1 μ5 → (∀ (j : Nat) (e : Nat × zP), P[j]? = some e → μ5 S.2.2 (j : Int) = (e.1 : Int)) → (∀ (j : Nat) (e : Nat × zP), Q[j]? = some e → μ5 S.2.2 ((P.length + 1 + j : Nat) : Int) = (e.1 : Int)) → (∀ e, e ∈ P → M.rk a e.2 < M.rk a q) → (∀ e, e ∈ Q → M.rk a q < M.rk a e.2) → zo (f_L_believes_77 (f_L_believes_14 n) x a w S.2.2 (Y.length : Int) (k : Int) (P.length : Int) (S1, μ5)) (Dn B x M L K inp out c p) := by
        intro P Q μ5 hY hE hP hQ hlt hgt
        have hlen : Y.length = P.length + Q.length := by rw [hY, List.length_append]
        refine j_L_believes_77 ?_
        refine zo_si sh2 (by omega) ?_
        refine j_L_believes_86 ?_
        rw [w32_s (by omega), w32_s (by omega)]
        have hY2 : (P ++ (k, q) :: Q).length = Y.length + 1 := by
          rw [List.length_append, List.length_cons]
          omega
        refine ih hk3 (((Y.length + 1 : Nat) : Int), ((k + 1 : Nat) : Int), _) ⟨rfl, P ++ (k, q) :: Q, by rw [hY2], ?_, ?_, hE.up (Int.le_refl _), fun j e hj => ?_⟩
        · rw [hz]
          refine List.perm_middle.trans ?_
          refine List.Perm.trans ?_ (List.perm_append_singleton (k, q) _).symm
          rw [← hY]
          exact List.Perm.cons _ hp
        · rw [hY] at hs
          obtain ⟨s1, s2, s3⟩ := List.pairwise_append.mp hs
          refine List.pairwise_append.mpr ⟨s1, List.pairwise_cons.mpr ⟨hgt, s2⟩, fun e he f hf => ?_⟩
          rcases List.mem_cons.mp hf with z | z
          · rw [z]
            exact hlt e he
          · exact s3 e he f z
        · by_cases hj1 : j < P.length
          · rw [List.getElem?_append_left hj1] at hj
            show zup μ5 S.2.2 (P.length : Int) (k : Int) S.2.2 (j : Int) = _
            rw [zup_j (by omega)]
            exact hP j e hj
          · rw [List.getElem?_append_right (by omega)] at hj
            by_cases hj2 : j = P.length
            · rw [hj2, Nat.sub_self] at hj
              have z : (k, q) = e := Option.some.inj hj
              rw [hj2, ← z]
              exact zup_at
            · obtain ⟨j3, hj3⟩ : ∃ j3, j - P.length = j3 + 1 := ⟨j - P.length - 1, by omega⟩
              rw [hj3] at hj
              have z := hQ j3 e hj
              show zup μ5 S.2.2 (P.length : Int) (k : Int) S.2.2 (j : Int) = _
              rw [zup_j (by omega), show j = P.length + 1 + j3 by omega]
              exact z
      refine zo_l2 (F := fun m (at_ : Int) (μ5 : zM) => f_L_believes_40 (f_L_believes_14 n) m x a w S.2.2 (Y.length : Int) (k : Int) at_ (S1, μ5)) (fun at_ μ5 => ∃ P Q : zEn, Y = P ++ Q ∧ at_ = (P.length : Int) ∧ Ext x S S1 μ1 μ5 ∧ (∀ (j : Nat) (e : Nat × zP), P[j]? = some e → μ5 S.2.2 (j : Int) = (e.1 : Int)) ∧ (∀ (j : Nat) (e : Nat × zP), Q[j]? = some e → μ5 S.2.2 ((P.length + 1 + j : Nat) : Int) = (e.1 : Int)) ∧ ∀ e, e ∈ Q → M.rk a q < M.rk a e.2) (fun at_ _ => at_.toNat) ?_ _ _ _ ⟨Y, [], (List.append_nil Y).symm, rfl, hR.1.fv h4.2, (hR.fv hrx h4.2).2, fun j e hj => (by cases hj), fun e he => absurd he List.not_mem_nil⟩ (by show _ < 1000000; rw [Int.toNat_natCast]; omega)
      rintro m at_ μ5 ⟨P, Q, hY, hat, hE, hP, hQ, hgt⟩ ih2
      subst hat
      refine j_L_believes_40 ?_
      rcases sn_cs P with hP0 | ⟨P', e, hP1⟩
      · refine zo_neg (by rw [hP0]; show ¬ (0 : Int) < 0; decide) ?_
        exact fin hY hE hP hQ (fun e he => by rw [hP0] at he; exact absurd he List.not_mem_nil) hgt
      · have hPl : P.length = P'.length + 1 := by rw [hP1, List.length_append]; rfl
        have hlen : Y.length = P.length + Q.length := by rw [hY, List.length_append]
        have hPe : P[P'.length]? = some e := by
          rw [hP1, List.getElem?_append_right (Nat.le_refl _), Nat.sub_self]
          rfl
        have heY : e ∈ Y := by
          rw [hY]
          exact List.mem_append_left _ (List.mem_of_getElem? hPe)
        have hef := hfull e heY
        refine zo_pos (by omega) ?_
        have w1 : w32 ((P.length : Int) - 1) = (P'.length : Int) := by rw [w32_e (by omega)]; omega
        have w2 : w32 ((P.length : Int) + (-1)) = (P'.length : Int) := by rw [w32_e (by omega)]; omega
        rw [w1, w2]
        refine zo_ld sh2 (by omega) (hP _ _ hPe) ?_
        have hd5 := (hb.ext hE).sd
        refine y_ahead hd5 hq hef.1 ha (fun z => hef.2 z.symm) (fun μ6 h6 => ?_)
        have hr6 : μ6 S.2.2 = μ5 S.2.2 := h6.2 S.2.2 (by omega)
        refine zo_zb (fun hn => ?_) (fun hy => ?_)
        · refine fin hY (hE.fv h6.2) (fun j f hj => by rw [hr6]; exact hP j f hj) (fun j f hj => by rw [hr6]; exact hQ j f hj) (fun f hf => ?_) hgt
          have hne := rk_ne W (li_ok W hq) (li_ok W hef.1) (fun z => hef.2 z.symm)
          have hlast : M.rk a e.2 < M.rk a q := by omega
          rw [hP1] at hf
          rcases List.mem_append.mp hf with z | z
          · have hs2 := hs
            rw [hY, hP1] at hs2
            have z2 := (List.pairwise_append.mp (List.pairwise_append.mp hs2).1).2.2 f z e (List.mem_singleton.mpr rfl)
            omega
          · rw [List.mem_singleton.mp z]
            exact hlast
        · refine zo_ld sh2 (by omega) ((congrFun hr6 _).trans (hP _ _ hPe)) ?_
          refine zo_si sh2 (by omega) ?_
          refine ih2 _ _ ⟨P', e :: Q, by rw [hY, hP1, List.append_assoc, List.singleton_append], rfl, (hE.fv h6.2).up (Int.le_refl _), fun j f hj => ?_, fun j f hj => ?_, fun f hf => ?_⟩ (by rw [Int.toNat_natCast, Int.toNat_natCast]; omega)
          · have hj1 := (List.getElem?_eq_some_iff.mp hj).1
            rw [zup_j (by omega), hr6]
            refine hP j f ?_
            rw [hP1, List.getElem?_append_left hj1]
            exact hj
          · cases j with
            | zero =>
              have z : e = f := Option.some.inj hj
              rw [← z, show P'.length + 1 + 0 = P.length by omega]
              exact zup_at
            | succ j =>
              rw [zup_j (by omega), hr6, show P'.length + 1 + (j + 1) = P.length + 1 + j by omega]
              exact hQ j f hj
          · rcases List.mem_cons.mp hf with z | z
            · rw [z]
              exact hy
            · exact hgt f z
    · refine j_L_believes_86 ?_
      rw [w32_s (by omega)]
      exact ih hk3 ((Y.length : Int), ((k + 1 : Nat) : Int), μ4) ⟨rfl, Y, rfl, by rw [zent_n hq (fun z => hw2 z.1)]; exact hp, hs, hR.fv hrx h4.2⟩
  · have hk3 : k = (M.li a).length := by omega
    rw [hk3, List.take_length] at hp
    exact bl_walk hb ha hw rfl sh2 (by omega) hp hs hR
end R4
