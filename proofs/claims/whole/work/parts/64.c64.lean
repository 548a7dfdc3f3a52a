/-! C 64: operations that change the desk -/
/-- whatever the world is then -/
def zPP (B x : Int) (P : zG → zM → Prop) : Prop := ∀ (S1 : zG) (μ3 : zM) (M : zD) (L : List zD) (K : zKs) (inp out : List Int) (c p : Int), Wd (B + 99) x S1 μ3 M L K inp out c p → P S1 μ3
section C64
variable {S S' : zG} {μ μ' μ1 : zM} {x m B A : Int} {M M' : zD} {L L' : List zD} {K : zKs} {inp out : List Int} {c p : Int} {P : zG → zM → Prop} {Q : zR × zS → Prop}
theorem CB.keep (h : CB S x) (hs : ∀ y, x ≤ y → y < x + 12 → S'.1 y = S.1 y) (hr : ∀ y j, x ≤ y → y < x + 12 → S'.2.1 y j = S.2.1 y j) : CB S' x := by
  have hv := h.V
  exact CB.mk ⟨h.x0, (hs _ (by omega) (by omega)).trans h.o, (hr _ _ (by omega) (by omega)).trans h.r0, (hr _ _ (by omega) (by omega)).trans h.r1, (hr _ _ (by omega) (by omega)).trans h.r2, (hr _ _ (by omega) (by omega)).trans h.r3, (hr _ _ (by omega) (by omega)).trans h.r4, (hr _ _ (by omega) (by omega)).trans h.r5, (hr _ _ (by omega) (by omega)).trans h.r6, (hr _ _ (by omega) (by omega)).trans h.r7, VSh.mk ⟨(hs _ (by omega) (by omega)).trans hv.o, (hr _ _ (by omega) (by omega)).trans hv.r0, (hr _ _ (by omega) (by omega)).trans hv.r1, (hr _ _ (by omega) (by omega)).trans hv.r2, (hr _ _ (by omega) (by omega)).trans hv.r3, (hr _ _ (by omega) (by omega)).trans hv.r4, (hr _ _ (by omega) (by omega)).trans hv.r5, (hs _ (by omega) (by omega)).trans hv.a0, (hs _ (by omega) (by omega)).trans hv.a1, (hs _ (by omega) (by omega)).trans hv.a2, (hs _ (by omega) (by omega)).trans hv.a3, (hs _ (by omega) (by omega)).trans hv.a4, (hs _ (by omega) (by omega)).trans hv.a5⟩⟩
theorem BSh.keep {b n : Int} (h : BSh S b n) (h0 : S'.1 b = S.1 b) (h1 : S'.1 (b + 1) = S.1 (b + 1)) (h2 : S'.2.1 b 0 = S.2.1 b 0) : BSh S' b n := BSh.mk ⟨h0.trans h.o, h2.trans h.r, h1.trans h.c⟩
/-- the history changes, the rest doesn't -/
theorem W7.hist (h : W7 S μ x M L K inp out c p) (f : FH x (x + 80) S S' μ μ') {r : Nat → Int} {K' : zKs} (hr : HR7 S' μ' x (x + 80) r L' K') : W7 S' μ' x M L' K' inp out c p := by
  have hx := h.C.x0
  have e1 : x + 1 + 1 = x + 2 := by omega
  have e3 : x + 3 + 1 = x + 4 := by omega
  exact W7.mk ⟨h.C.keep (fun y h1 h2 => f.sh y (by omega)) (fun y j h1 h2 => f.rf y j (by omega) (by omega) (by omega)), h.D.keep2 (fun y h1 h2 => f.sh y (by omega)) (fun y j h1 h2 => f.rf y j (by omega) (by omega) (by omega)) (fun y h1 h2 => f.m y (by omega) (by omega)), h.ts.keep (fun y h1 h2 => f.sh y (by omega)) (fun y j h1 h2 => f.rf y j (by omega) (by omega) (by omega)), by rw [f.m _ (by omega) (by omega)]; exact h.te, ⟨r, hr⟩, h.bi.keep (f.sh _ (by omega)) (f.sh _ (by omega)) (f.rf _ _ (by omega) (by omega) (by omega)), h.li.keep (by rw [f.m _ (by omega) (by omega)]) (fun k => by rw [f.m _ (by omega) (by omega)]), h.bo.keep (f.sh _ (by omega)) (f.sh _ (by omega)) (f.rf _ _ (by omega) (by omega) (by omega)), h.lo.keep (by rw [f.m _ (by omega) (by omega)]) (fun k => by rw [f.m _ (by omega) (by omega)]), (f.sh _ (by omega)).trans h.po, (f.rf _ _ (by omega) (by omega) (by omega)).trans h.p0, (f.rf _ _ (by omega) (by omega) (by omega)).trans h.p1, by rw [f.m _ (by omega) (by omega)]; exact h.pc, by rw [f.m _ (by omega) (by omega)]; exact h.pp, h.il, h.ol⟩
theorem w7_push (h : W7 S μ x M L K inp out c p) : ∃ S1 μ1, f_X2_push (x + 63) (x + 12) (S, μ) = some (.inl 0, (S1, μ1)) ∧ W7 S1 μ1 x M (zpush L M) K inp out c p ∧ FX x S S1 μ μ1 := by
  obtain ⟨r, hr⟩ := h.H
  obtain ⟨S1, μ1, r1, e1, h1, f1, -⟩ := c_push hr h.D
  exact ⟨S1, μ1, e1, h.hist f1 h1, f1.fx⟩
/-- the desk changes -/
theorem W7.desk (h : W7 S μ x M L K inp out c p) (hd : D7 S μ' (x + 12) M') (f : FR (x + 12) μ μ') : W7 S μ' x M' L K inp out c p := by
  obtain ⟨r, hr⟩ := h.H
  have hx := h.C.x0
  exact W7.mk ⟨h.C, hd, h.ts, by rw [f _ (by omega)]; exact h.te, ⟨r, hr.keep (fun y hy => f y (by omega))⟩, h.bi, h.li.keep (by rw [f _ (by omega)]) (fun k => by rw [f _ (by omega)]), h.bo, h.lo.keep (by rw [f _ (by omega)]) (fun k => by rw [f _ (by omega)]), h.po, h.p0, h.p1, by rw [f _ (by omega)]; exact h.pc, by rw [f _ (by omega)]; exact h.pp, h.il, h.ol⟩
/-- the trial desk changes -/
theorem W7.trial (h : W7 S μ x M L K inp out c p) (f : FR (x + 37) μ μ') (he : μ' (x + 45) 1 = 0) : W7 S μ' x M L K inp out c p := by
  obtain ⟨r, hr⟩ := h.H
  have hx := h.C.x0
  exact W7.mk ⟨h.C, h.D.keep (fun y h1 h2 => f y (by omega)), h.ts, he, ⟨r, hr.keep (fun y hy => f y (by omega))⟩, h.bi, h.li.keep (by rw [f _ (by omega)]) (fun k => by rw [f _ (by omega)]), h.bo, h.lo.keep (by rw [f _ (by omega)]) (fun k => by rw [f _ (by omega)]), h.po, h.p0, h.p1, by rw [f _ (by omega)]; exact h.pc, by rw [f _ (by omega)]; exact h.pp, h.il, h.ol⟩
theorem W8.rem (h : W8 S μ m M L K inp out c p) : ∃ μ1, f_X8_remember m (S, μ) = some (.inl 0, (S, μ1)) ∧ W8 S μ1 m M (zpush L M) K inp out c p ∧ FP m μ μ1 := by
  obtain ⟨μ1, e1, h1, f1⟩ := b_remember h.H h.D h.R
  refine ⟨μ1, e1, W8.mk ⟨h.H, by rw [f1.x _ (by omega) (by omega)]; exact h.D, h1, ?_, ?_, h.li.keep (f1.f _ (by omega)) (fun k => by rw [f1.x _ (by omega) (by omega)]), h.lo.keep (f1.f _ (by omega)) (fun k => by rw [f1.x _ (by omega) (by omega)]), by rw [f1.f _ (by omega)]; exact h.w, by rw [f1.f _ (by omega)]; exact h.ec, by rw [f1.f _ (by omega)]; exact h.ep⟩, f1⟩
  · intro i hi hk
    rw [f1.x _ (by omega) (by omega)]
    exact h.K0 i hi hk
  · intro i X hi hk
    rw [f1.x _ (by omega) (by omega), f1.x _ (by omega) (by omega)]
    exact h.K1 i X hi hk
theorem W8.desk (h : W8 S μ m M L K inp out c p) (hd : D8 (μ' (m + 1)) M') (f : FA (m + 1) μ μ') : W8 S μ' m M' L K inp out c p := by
  refine W8.mk ⟨h.H, hd, HRel.mk ⟨h.R.n, by rw [f _ (by omega)]; exact h.R.c, fun i X hi => by rw [f _ (by omega)]; exact h.R.v i X hi⟩, fun i hi hk => by rw [f _ (by omega)]; exact h.K0 i hi hk, fun i X hi hk => by rw [f _ (by omega), f _ (by omega)]; exact h.K1 i X hi hk, h.li.keep (by rw [f _ (by omega)]) (fun k => by rw [f _ (by omega)]), h.lo.keep (by rw [f _ (by omega)]) (fun k => by rw [f _ (by omega)]), by rw [f _ (by omega)]; exact h.w, by rw [f _ (by omega)]; exact h.ec, by rw [f _ (by omega)]; exact h.ep⟩
theorem WB.psh (h : WB B M L K) (hM : WF (B + 99) M') (hB : B + 99 ≤ 1000000) : WB (B + 99) M' (zpush L M) K := by
  have h1 := h.same (B' := B + 99) (by omega) hB
  refine WB.mk ⟨hM, ?_, h1.K⟩
  intro X hX
  unfold zpush at hX
  rcases List.mem_append.mp hX with hX | hX
  · split at hX
    · exact h1.L X (List.mem_of_mem_tail hX)
    · exact h1.L X hX
  · rw [List.mem_singleton.mp hX]
    exact h1.M
theorem WF.up (h : WF B M) (hB : B + 99 ≤ 1000000) : WF (B + 99) M := ((WB.mk ⟨h, fun X hX => absurd hX (by simp), fun i X _ hk => by cases hk⟩ : WB B M [] (fun _ => none)).same (B' := B + 99) (by omega) hB).M
theorem zPP.q (hP : zPP B x P) (hB : B + 99 ≤ 1000000) : ∀ S1 μ3, Wd B x S1 μ3 M L K inp out c p → P S1 μ3 := fun S1 μ3 h => hP S1 μ3 M L K inp out c p (Wd.mk ⟨h.a, h.b, h.w.same (by omega) hB, h.o⟩)
/-- an operation that pushes and acts on the desk -/
theorem op_p {f7 f8 : zS → zFn} {tb : List (Nat × Int)} {v : Int} (h : Wd B x S μ M L K inp out c p) (hB : B + 99 ≤ 1000000) (hM : WF (B + 99) M') (hv : zI v)
    (e7 : ∀ S1 μ1, f_X2_push (x + 63) (x + 12) (S, μ) = some (.inl 0, (S1, μ1)) → W7 S1 μ1 x M (zpush L M) K inp out c p → ∃ μ2, f7 (S, μ) = some (.inl v, (S1, μ2)) ∧ (D7 S1 μ2 (x + 12) M' ∧ FV (x + 5) μ1 μ2 ∨ D7 S1 μ2 (x + 12) M' ∧ FR (x + 12) μ1 μ2))
    (e8 : ∀ S1 μ2, W8 S1 μ2 (x + 66) M L K inp out c p → ∃ μ3, f8 (S1, μ2) = some (.inl v, (S1, μ3)) ∧ (W8 S1 μ3 (x + 66) M' (zpush L M) K inp out c p ∧ μ3 (x + 66) 0 = 0 ∧ ∀ y, y < x + 66 ∨ x + 78 ≤ y → μ3 y = μ2 y)) (hP : zPP B x P) : zOp x P f7 f8 tb S μ := by
  obtain ⟨S1, μ1, e1, h1, f1⟩ := w7_push h.a
  obtain ⟨μ2, e2, h2⟩ := e7 S1 μ1 e1 h1
  have key : W7 S1 μ2 x M' (zpush L M) K inp out c p ∧ ∀ y, x + 66 ≤ y → y < x + 80 → μ2 y = μ1 y := by
    rcases h2 with ⟨g, f⟩ | ⟨g, f⟩
    · have h3 := h1.keep (μ' := μ2) (fun y hy => f y (by omega))
      exact ⟨h3.desk g (fun y hy => rfl), fun y h4 h5 => f y (by omega)⟩
    · exact ⟨h1.desk g f, fun y h4 h5 => f y (by omega)⟩
  refine op_val h e2 hv key.1 (FX.mk ⟨f1.sh, f1.rf, fun y h4 h5 => (key.2 y h4 h5).trans (f1.m y h4 h5), f1.nx⟩) (h.w.psh hM hB) ?_ (fun μ3 h3 => hP S1 μ3 _ _ _ _ _ _ _ h3)
  intro μ4 h4
  obtain ⟨μ3, e3, g3, t3, k3⟩ := e8 S1 μ4 h4
  exact ⟨μ3, e3, g3, t3, k3⟩
theorem zo_x7 {A : zFn} {v : Int} {R : zM → Prop} (h : zo A (fun r => ∃ μ', r = (.inl v, (S, μ')) ∧ R μ')) : ∃ μ', A = some (.inl v, (S, μ')) ∧ R μ' := zo_ux h
end C64
theorem jds_rng {a w : Int} {q : zP} : ∀ (l : List zP) (z : zD × Int), z.2 ≤ (zjds a w q l z).2 ∧ (zjds a w q l z).2 ≤ z.2 + l.length := by
  intro l
  induction l with
  | nil => intro z; exact ⟨Int.le_refl _, by show z.2 ≤ z.2 + ((0 : Nat) : Int); omega⟩
  | cons p r ih =>
    intro z
    have h1 := jud_01 z.1 a p q
    have h := ih (if p 3 = w then ((z.1.jud a p q).1, z.2 + (z.1.jud a p q).2) else z)
    unfold zjds
    rw [List.length_cons]
    generalize z.1.jud a p q = y at *
    split at h <;> (rename_i hp; first | rw [if_pos hp] | rw [if_neg hp]) <;> (try dsimp only at h ⊢) <;> omega
theorem prb_rng {B : Int} {M : zD} (W : WF B M) {a w lo hi : Int} : zI (M.prb a w lo hi).2 := by
  have h := jds_rng (a := a) (w := w) (q := zrow a a 0 w M.tm lo hi) ((M.li a).eraseP (zqb a w)) ((M.come a (zrow a a 0 w M.tm lo hi)).tal a 0, 0)
  have h1 := W.len a
  have h2 : ((M.li a).eraseP (zqb a w)).length ≤ (M.li a).length := List.Sublist.length_le List.eraseP_sublist
  unfold zI zD.prb
  dsimp only at h
  omega
theorem snd_rng {B : Int} {M : zD} (W : WF B M) {a hp : Int} (h3 : hp ≤ 3) (ha : 0 ≤ a ∧ a < (M.an.length : Int)) : zI ((M.snd a hp).qu.length - M.qu.length : Int) := by
  have h1 := (W.snd (hp' := hp) h3 ha).1.ql
  have h2 := W.ql
  unfold zI
  omega
theorem dlv_rng2 {B : Int} {M : zD} (W : WF B M) (n : Nat) : zI (M.dlv n).2 := by
  have h := dlv_rng (M.qu.take n) (M, 0)
  have h2 := W.ql
  rw [List.length_take] at h
  unfold zI zD.dlv
  dsimp only at h ⊢
  omega
theorem rds_rng {B : Int} {M : zD} (W : WF B M) {n : Nat} (hn : n ≤ 6) : zI (M.rds n).2 := by
  have h : ∀ k, k ≤ n → ∀ (z : zD × Int), WF B z.1 → z.2 ≤ (zlp (fun _ z => (z.1.rnd.1, z.2 + z.1.rnd.2)) (n - k) k z).2 ∧ (zlp (fun _ (z : zD × Int) => (z.1.rnd.1, z.2 + z.1.rnd.2)) (n - k) k z).2 ≤ z.2 + 100 * k := by
    intro k
    induction k with
    | zero => intro _ z _; exact ⟨Int.le_refl _, by show z.2 ≤ z.2 + 100 * ((0 : Nat) : Int); omega⟩
    | succ k ih =>
      intro hk z hz
      have h1 := rnd_rng hz
      have h2 := ih (by omega) (z.1.rnd.1, z.2 + z.1.rnd.2) hz.rnd
      have e : n - k = n - (k + 1) + 1 := by omega
      rw [e] at h2
      dsimp only at h2
      show z.2 ≤ (zlp (fun _ (z : zD × Int) => (z.1.rnd.1, z.2 + z.1.rnd.2)) (n - (k + 1) + 1) k (z.1.rnd.1, z.2 + z.1.rnd.2)).2 ∧ (zlp (fun _ (z : zD × Int) => (z.1.rnd.1, z.2 + z.1.rnd.2)) (n - (k + 1) + 1) k (z.1.rnd.1, z.2 + z.1.rnd.2)).2 ≤ _
      omega
  have h1 := h n (Nat.le_refl _) (M, 0) W
  rw [Nat.sub_self] at h1
  unfold zI zD.rds
  dsimp only at h1
  omega
theorem pas_rng {B : Int} {M : zD} (h6 : M.an.length ≤ 6) (W : WF B M) {t : Int} (ht : 0 ≤ t ∧ t ≤ 99) (hB : B + 99 ≤ 1000000) : zI (M.pas t).2 := by
  have h1 : 0 ≤ (M.pas t).2 ∧ (M.pas t).2 ≤ 36 * 6 := by
    unfold zD.pas
    have key : ∀ (n k : Nat) (z : zD × Int), (∀ i, (z.1.li i).length ≤ 36) → z.2 ≤ (zlp (fun i z => (z.1.wli (zup1 z.1.li (i : Int) (z.1.yng (z.1.li (i : Int)))), z.2 + ((z.1.li (i : Int)).length - (z.1.yng (z.1.li (i : Int))).length : Int))) k n z).2 ∧ (zlp (fun (i : Nat) (z : zD × Int) => (z.1.wli (zup1 z.1.li (i : Int) (z.1.yng (z.1.li (i : Int)))), z.2 + ((z.1.li (i : Int)).length - (z.1.yng (z.1.li (i : Int))).length : Int))) k n z).2 ≤ z.2 + 36 * n := by
      intro n
      induction n with
      | zero => intro k z _; exact ⟨Int.le_refl _, by show z.2 ≤ z.2 + 36 * ((0 : Nat) : Int); omega⟩
      | succ n ih =>
        intro k z hz
        have hk := hz (k : Int)
        have hfl : (z.1.yng (z.1.li (k : Int))).length ≤ (z.1.li (k : Int)).length := List.length_filter_le _ _
        have h2 := ih (k + 1) (z.1.wli (zup1 z.1.li (k : Int) (z.1.yng (z.1.li (k : Int)))), z.2 + ((z.1.li (k : Int)).length - (z.1.yng (z.1.li (k : Int))).length : Int)) (by
          intro i
          show (zup1 z.1.li (k : Int) (z.1.yng (z.1.li (k : Int))) i).length ≤ 36
          unfold zup1
          split
          · omega
          · exact hz i)
        dsimp only at h2
        unfold zlp
        omega
    have h2 := key M.an.length 0 (M.wtm (w32 (M.tm + t)), 0) (fun i => W.len i)
    dsimp only at h2
    omega
  unfold zI
  omega
theorem dlv_mn (M : zD) (j : Nat) : M.dlv (min j M.qu.length) = M.dlv j := by
  by_cases h : j ≤ M.qu.length
  · rw [Nat.min_eq_left h]
  · rw [Nat.min_eq_right (by omega), dlv_min M (n := j) (by omega)]
theorem o_probe {B x : Int} {S : zG} {μ : zM} {M : zD} {L : List zD} {K : zKs} {inp out : List Int} {c p : Int} {P : zG → zM → Prop} {a w lo hi : Int} (h : Wd B x S μ M L K inp out c p) (hB : B + 99 ≤ 1000000) (hP : zPP B x P) : zOp x P (f_X7_probe x a w lo hi) (f_X8_probe (x + 66) a w lo hi) [(2, 1), (1, 2)] S μ := by
  have h60 := h.a.D.al
  have h61 := h.a.D.wl
  have W := h.w.M
  have hP1 : ∀ S1 μ3, Wd B x S1 μ3 M L K inp out c p → P S1 μ3 := hP.q hB
  by_cases h1 : 0 ≤ a ∧ a < (M.an.length : Int)
  · skip
    by_cases h2 : 0 ≤ w ∧ w < (M.wn.length : Int)
    · skip
      by_cases h3 : 0 ≤ lo ∧ lo ≤ hi ∧ hi ≤ 999
      · skip
        refine op_p (v := (M.prb a w lo hi).2) (M' := (M.prb a w lo hi).1) h hB ((W.prb h1 h2 h3).up hB) (prb_rng W) ?_ ?_ hP
        · intro S1 μ1 e1 h1p
          refine zo_x7 ?_
          refine j_X7_probe ?_
          refine zo_ob h.a.C.o (by omega) ?_
          refine zo_bn (k_A h.a.C h.a.D h1) ?_
          refine zo_ob h.a.C.o (by omega) ?_
          refine zo_bn (k_W h.a.C h.a.D h2) ?_
          refine zo_bn (k_B h3) ?_
          refine zo_gr h.a.C.o h.a.C.r6 (by omega) (by omega) ?_
          refine zo_gr h.a.C.o h.a.C.r3 (by omega) (by omega) ?_
          obtain ⟨rH, hH⟩ := h.a.H
          refine zo_ob hH.o (by omega) ?_
          refine zo_bn e1 ?_
          refine zo_gr h1p.C.o h1p.C.r3 (by omega) (by omega) ?_
          refine zo_ob h1p.D.sh.o (by omega) ?_
          obtain ⟨μ5, e5, h5, f5⟩ := d_makeProbe h1p.D W h1 h2 h3
          refine zo_bn e5 ?_
          exact zo_rt ⟨μ5, rfl, Or.inr ⟨h5, f5⟩⟩
        · intro S1 μ2 h8
          refine zo_x7 ?_
          refine j_X8_probe ?_
          refine zo_ob h8.H.o (by omega) ?_
          refine zo_bn (b_areThere h8.H h8.D) ?_
          refine zo_bn (b_areBounds) ?_
          refine m_p2 h8.H (zbl_nz ⟨h1, h2⟩) (zbl_nz h3) ?_
          have g0 : W8 S1 (zup μ2 (x + 66) 0 0) (x + 66) M L K inp out c p := FM.u0.w8 h8
          obtain ⟨μ4, e4, g8, f4⟩ := g0.rem
          have gt : μ4 (x + 66) 0 = 0 := by rw [f4.f _ (by decide)]; exact zup_at
          have gf : ∀ y, y < x + 66 ∨ x + 78 ≤ y → μ4 y = μ2 y := fun y hy => by rw [f4.x y (by omega) (by omega), zup_c (by omega)]
          refine zo_ob g0.H.o (by omega) ?_
          refine zo_bn e4 ?_
          obtain ⟨μ5, e5, h5, f5⟩ := b_doProbe g8.H g8.D W h1 h2 h3
          refine zo_ob g8.H.o (by omega) ?_
          refine zo_bn e5 ?_
          exact zo_rt ⟨μ5, rfl, g8.desk h5 f5, by rw [f5 _ (by omega)]; exact gt, fun y hy => by rw [f5 y (by omega)]; exact gf y hy⟩
      · refine op_t 1 2 h ?_ (by decide) (by decide) ?_ hP1
        · apply zo_un
          refine j_X7_probe ?_
          refine zo_ob h.a.C.o (by omega) ?_
          refine zo_bn (k_A h.a.C h.a.D h1) ?_
          refine zo_ob h.a.C.o (by omega) ?_
          refine zo_bn (k_W h.a.C h.a.D h2) ?_
          exact zo_be (k_B_no h3) rfl
        · intro S1 μ2 h8
          refine zo_xt ?_
          refine j_X8_probe ?_
          refine zo_ob h8.H.o (by omega) ?_
          refine zo_bn (b_areThere h8.H h8.D) ?_
          refine zo_bn (b_areBounds) ?_
          refine m_f2b h8.H (zbl_nz ⟨h1, h2⟩) (zbl_n (fun z => h3 z)) ?_
          exact ⟨_, _, rfl, FM.u0, zup_at⟩
    · refine op_t 2 1 h ?_ (by decide) (by decide) ?_ hP1
      · apply zo_un
        refine j_X7_probe ?_
        refine zo_ob h.a.C.o (by omega) ?_
        refine zo_bn (k_A h.a.C h.a.D h1) ?_
        refine zo_ob h.a.C.o (by omega) ?_
        exact zo_be (k_W_no h.a.C h.a.D h2) rfl
      · intro S1 μ2 h8
        refine zo_xt ?_
        refine j_X8_probe ?_
        refine zo_ob h8.H.o (by omega) ?_
        refine zo_bn (b_areThere h8.H h8.D) ?_
        refine zo_bn (b_areBounds) ?_
        refine m_f2a h8.H (zbl_n (fun z => h2 z.2)) ?_
        exact ⟨_, _, rfl, FM.u0, zup_at⟩
  · refine op_t 2 1 h ?_ (by decide) (by decide) ?_ hP1
    · apply zo_un
      refine j_X7_probe ?_
      refine zo_ob h.a.C.o (by omega) ?_
      exact zo_be (k_A_no h.a.C h.a.D h1) rfl
    · intro S1 μ2 h8
      refine zo_xt ?_
      refine j_X8_probe ?_
      refine zo_ob h8.H.o (by omega) ?_
      refine zo_bn (b_areThere h8.H h8.D) ?_
      refine zo_bn (b_areBounds) ?_
      refine m_f2a h8.H (zbl_n (fun z => h1 z.1)) ?_
      exact ⟨_, _, rfl, FM.u0, zup_at⟩
theorem o_share {B x : Int} {S : zG} {μ : zM} {M : zD} {L : List zD} {K : zKs} {inp out : List Int} {c p : Int} {P : zG → zM → Prop} {a : Int} (h : Wd B x S μ M L K inp out c p) (hB : B + 99 ≤ 1000000) (hP : zPP B x P) : zOp x P (f_X7_share x a) (f_X8_share (x + 66) a) [(2, 1)] S μ := by
  have h60 := h.a.D.al
  have h61 := h.a.D.wl
  have W := h.w.M
  have hP1 : ∀ S1 μ3, Wd B x S1 μ3 M L K inp out c p → P S1 μ3 := hP.q hB
  by_cases h1 : 0 ≤ a ∧ a < (M.an.length : Int)
  · skip
    refine op_p (v := ((M.snd a 1).qu.length - M.qu.length : Int)) (M' := (M.snd a 1)) h hB ((W.snd (by decide) h1).1.up hB) (snd_rng W (by decide) h1) ?_ ?_ hP
    · intro S1 μ1 e1 h1p
      refine zo_x7 ?_
      refine j_X7_share ?_
      refine zo_ob h.a.C.o (by omega) ?_
      refine zo_bn (k_A h.a.C h.a.D h1) ?_
      refine zo_gr h.a.C.o h.a.C.r6 (by omega) (by omega) ?_
      refine zo_gr h.a.C.o h.a.C.r3 (by omega) (by omega) ?_
      obtain ⟨rH, hH⟩ := h.a.H
      refine zo_ob hH.o (by omega) ?_
      refine zo_bn e1 ?_
      refine zo_gr h1p.C.o h1p.C.r3 (by omega) (by omega) ?_
      refine zo_ob h1p.D.sh.o (by omega) ?_
      obtain ⟨μ5, e5, h5, f5⟩ := d_sendReports (hp' := 1) h1p.D (show 0 ≤ a ∧ a < 6 by omega)
      refine zo_bn e5 ?_
      exact zo_rt ⟨μ5, rfl, Or.inr ⟨h5, f5⟩⟩
    · intro S1 μ2 h8
      refine zo_x7 ?_
      refine j_X8_share ?_
      refine zo_ob h8.H.o (by omega) ?_
      refine zo_bn (b_isAgent h8.H h8.D) ?_
      refine m_p1 h8.H (zbl_nz h1) ?_
      have g0 : W8 S1 (zup μ2 (x + 66) 0 0) (x + 66) M L K inp out c p := FM.u0.w8 h8
      obtain ⟨μ4, e4, g8, f4⟩ := g0.rem
      have gt : μ4 (x + 66) 0 = 0 := by rw [f4.f _ (by decide)]; exact zup_at
      have gf : ∀ y, y < x + 66 ∨ x + 78 ≤ y → μ4 y = μ2 y := fun y hy => by rw [f4.x y (by omega) (by omega), zup_c (by omega)]
      refine zo_ob g0.H.o (by omega) ?_
      refine zo_bn e4 ?_
      refine zo_mono (b_share_go g8.H g8.D W (show 0 ≤ a ∧ a < 6 by omega)) ?_
      rintro r ⟨μ5, hr, h5, f5⟩
      exact ⟨μ5, hr, g8.desk h5 f5, by rw [f5 _ (by omega)]; exact gt, fun y hy => by rw [f5 y (by omega)]; exact gf y hy⟩
  · refine op_t 2 1 h ?_ (by decide) (by decide) ?_ hP1
    · apply zo_un
      refine j_X7_share ?_
      refine zo_ob h.a.C.o (by omega) ?_
      exact zo_be (k_A_no h.a.C h.a.D h1) rfl
    · intro S1 μ2 h8
      refine zo_xt ?_
      refine j_X8_share ?_
      refine zo_ob h8.H.o (by omega) ?_
      refine zo_bn (b_isAgent h8.H h8.D) ?_
      refine m_f1 h8.H (zbl_n (fun z => h1 z)) ?_
      exact ⟨_, _, rfl, FM.u0, zup_at⟩
theorem o_relay {B x : Int} {S : zG} {μ : zM} {M : zD} {L : List zD} {K : zKs} {inp out : List Int} {c p : Int} {P : zG → zM → Prop} {a : Int} (h : Wd B x S μ M L K inp out c p) (hB : B + 99 ≤ 1000000) (hP : zPP B x P) : zOp x P (f_X7_relay x a) (f_X8_relay (x + 66) a) [(2, 1)] S μ := by
  have h60 := h.a.D.al
  have h61 := h.a.D.wl
  have W := h.w.M
  have hP1 : ∀ S1 μ3, Wd B x S1 μ3 M L K inp out c p → P S1 μ3 := hP.q hB
  by_cases h1 : 0 ≤ a ∧ a < (M.an.length : Int)
  · skip
    refine op_p (v := ((M.snd a (M.ru 4)).qu.length - M.qu.length : Int)) (M' := (M.snd a (M.ru 4))) h hB ((W.snd W.r4.2 h1).1.up hB) (snd_rng W W.r4.2 h1) ?_ ?_ hP
    · intro S1 μ1 e1 h1p
      refine zo_x7 ?_
      refine j_X7_relay ?_
      refine zo_ob h.a.C.o (by omega) ?_
      refine zo_bn (k_A h.a.C h.a.D h1) ?_
      refine zo_gr h.a.C.o h.a.C.r6 (by omega) (by omega) ?_
      refine zo_gr h.a.C.o h.a.C.r3 (by omega) (by omega) ?_
      obtain ⟨rH, hH⟩ := h.a.H
      refine zo_ob hH.o (by omega) ?_
      refine zo_bn e1 ?_
      refine zo_gr h1p.C.o h1p.C.r3 (by omega) (by omega) ?_
      refine zo_gr h1p.C.o h1p.C.r3 (by omega) (by omega) ?_
      refine zo_ob h1p.D.sh.o (by omega) ?_
      refine zo_bn (d_rule h1p.D (show 0 ≤ (4 : Int) ∧ (4 : Int) < 5 by decide)) ?_
      refine zo_ob h1p.D.sh.o (by omega) ?_
      obtain ⟨μ5, e5, h5, f5⟩ := d_sendReports (hp' := M.ru 4) h1p.D (show 0 ≤ a ∧ a < 6 by omega)
      refine zo_bn e5 ?_
      exact zo_rt ⟨μ5, rfl, Or.inr ⟨h5, f5⟩⟩
    · intro S1 μ2 h8
      refine zo_x7 ?_
      refine j_X8_relay ?_
      refine zo_ob h8.H.o (by omega) ?_
      refine zo_bn (b_isAgent h8.H h8.D) ?_
      refine m_p1 h8.H (zbl_nz h1) ?_
      have g0 : W8 S1 (zup μ2 (x + 66) 0 0) (x + 66) M L K inp out c p := FM.u0.w8 h8
      obtain ⟨μ4, e4, g8, f4⟩ := g0.rem
      have gt : μ4 (x + 66) 0 = 0 := by rw [f4.f _ (by decide)]; exact zup_at
      have gf : ∀ y, y < x + 66 ∨ x + 78 ≤ y → μ4 y = μ2 y := fun y hy => by rw [f4.x y (by omega) (by omega), zup_c (by omega)]
      refine zo_ob g0.H.o (by omega) ?_
      refine zo_bn e4 ?_
      obtain ⟨μ5, e5, h5, f5⟩ := b_doRelay g8.H g8.D (show 0 ≤ a ∧ a < 6 by omega)
      refine zo_ob g8.H.o (by omega) ?_
      refine zo_bn e5 ?_
      exact zo_rt ⟨μ5, rfl, g8.desk h5 f5, by rw [f5 _ (by omega)]; exact gt, fun y hy => by rw [f5 y (by omega)]; exact gf y hy⟩
  · refine op_t 2 1 h ?_ (by decide) (by decide) ?_ hP1
    · apply zo_un
      refine j_X7_relay ?_
      refine zo_ob h.a.C.o (by omega) ?_
      exact zo_be (k_A_no h.a.C h.a.D h1) rfl
    · intro S1 μ2 h8
      refine zo_xt ?_
      refine j_X8_relay ?_
      refine zo_ob h8.H.o (by omega) ?_
      refine zo_bn (b_isAgent h8.H h8.D) ?_
      refine m_f1 h8.H (zbl_n (fun z => h1 z)) ?_
      exact ⟨_, _, rfl, FM.u0, zup_at⟩
theorem o_deliver {B x : Int} {S : zG} {μ : zM} {M : zD} {L : List zD} {K : zKs} {inp out : List Int} {c p : Int} {P : zG → zM → Prop} {n : Int} (h : Wd B x S μ M L K inp out c p) (hB : B + 99 ≤ 1000000) (hP : zPP B x P) : zOp x P (f_X7_deliver x n) (f_X8_deliver (x + 66) n) [(1, 1)] S μ := by
  have h60 := h.a.D.al
  have h61 := h.a.D.wl
  have W := h.w.M
  have hP1 : ∀ S1 μ3, Wd B x S1 μ3 M L K inp out c p → P S1 μ3 := hP.q hB
  by_cases h1 : 1 ≤ n ∧ n ≤ 100
  · skip
    obtain ⟨j, rfl⟩ : ∃ j : Nat, n = (j : Int) := ⟨n.toNat, by omega⟩
    have emin : M.dlv (min j M.qu.length) = M.dlv j := dlv_mn M j
    refine op_p (v := (M.dlv j).2) (M' := (M.dlv j).1) h hB ((W.dlv j).up hB) (dlv_rng2 W j) ?_ ?_ hP
    · intro S1 μ1 e1 h1p
      refine zo_x7 ?_
      refine j_X7_deliver ?_
      refine zo_bn (k_R h1) ?_
      refine zo_gr h.a.C.o h.a.C.r6 (by omega) (by omega) ?_
      refine zo_gr h.a.C.o h.a.C.r3 (by omega) (by omega) ?_
      obtain ⟨rH, hH⟩ := h.a.H
      refine zo_ob hH.o (by omega) ?_
      refine zo_bn e1 ?_
      refine zo_gr h1p.C.o h1p.C.r3 (by omega) (by omega) ?_
      refine zo_ob h1p.D.sh.o (by omega) ?_
      obtain ⟨μ5, e5, h5, f5⟩ := d_deliverFirst h1p.D W (a1 := (j : Int)) (n := min j M.qu.length) (by omega)
      rw [emin] at e5 h5
      refine zo_bn e5 ?_
      exact zo_rt ⟨μ5, rfl, Or.inr ⟨h5, f5⟩⟩
    · intro S1 μ2 h8
      refine zo_x7 ?_
      refine j_X8_deliver ?_
      refine zo_bn (b_in) ?_
      refine m_p1 h8.H (zbl_nz h1) ?_
      have g0 : W8 S1 (zup μ2 (x + 66) 0 0) (x + 66) M L K inp out c p := FM.u0.w8 h8
      obtain ⟨μ4, e4, g8, f4⟩ := g0.rem
      have gt : μ4 (x + 66) 0 = 0 := by rw [f4.f _ (by decide)]; exact zup_at
      have gf : ∀ y, y < x + 66 ∨ x + 78 ≤ y → μ4 y = μ2 y := fun y hy => by rw [f4.x y (by omega) (by omega), zup_c (by omega)]
      refine zo_ob g0.H.o (by omega) ?_
      refine zo_bn e4 ?_
      obtain ⟨μ5, e5, h5, f5⟩ := b_deliverAll g8.H g8.D W (n := j) (by omega)
      refine zo_ob g8.H.o (by omega) ?_
      refine zo_bn e5 ?_
      exact zo_rt ⟨μ5, rfl, g8.desk h5 f5, by rw [f5 _ (by omega)]; exact gt, fun y hy => by rw [f5 y (by omega)]; exact gf y hy⟩
  · refine op_t 1 1 h ?_ (by decide) (by decide) ?_ hP1
    · apply zo_un
      refine j_X7_deliver ?_
      exact zo_be (k_R_no h1) rfl
    · intro S1 μ2 h8
      refine zo_xt ?_
      refine j_X8_deliver ?_
      refine zo_bn (b_in) ?_
      refine m_f1 h8.H (zbl_n (fun z => h1 z)) ?_
      exact ⟨_, _, rfl, FM.u0, zup_at⟩
theorem o_pass {B x : Int} {S : zG} {μ : zM} {M : zD} {L : List zD} {K : zKs} {inp out : List Int} {c p : Int} {P : zG → zM → Prop} {t : Int} (h : Wd B x S μ M L K inp out c p) (hB : B + 99 ≤ 1000000) (hP : zPP B x P) : zOp x P (f_X7_pass x t) (f_X8_pass (x + 66) t) [(1, 1)] S μ := by
  have h60 := h.a.D.al
  have h61 := h.a.D.wl
  have W := h.w.M
  have hP1 : ∀ S1 μ3, Wd B x S1 μ3 M L K inp out c p → P S1 μ3 := hP.q hB
  by_cases h1 : 1 ≤ t ∧ t ≤ 99
  · skip
    refine op_p (v := (M.pas t).2) (M' := (M.pas t).1) h hB (W.pas (by omega) hB) (pas_rng h60 W (by omega) hB) ?_ ?_ hP
    · intro S1 μ1 e1 h1p
      refine zo_x7 ?_
      refine j_X7_pass ?_
      refine zo_bn (k_R h1) ?_
      refine zo_gr h.a.C.o h.a.C.r6 (by omega) (by omega) ?_
      refine zo_gr h.a.C.o h.a.C.r3 (by omega) (by omega) ?_
      obtain ⟨rH, hH⟩ := h.a.H
      refine zo_ob hH.o (by omega) ?_
      refine zo_bn e1 ?_
      refine zo_gr h1p.C.o h1p.C.r3 (by omega) (by omega) ?_
      refine zo_ob h1p.D.sh.o (by omega) ?_
      obtain ⟨μ5, e5, h5, f5⟩ := d_letPass (t := t) h1p.D
      refine zo_bn e5 ?_
      exact zo_rt ⟨μ5, rfl, Or.inr ⟨h5, f5⟩⟩
    · intro S1 μ2 h8
      refine zo_x7 ?_
      refine j_X8_pass ?_
      refine zo_bn (b_in) ?_
      refine m_p1 h8.H (zbl_nz h1) ?_
      have g0 : W8 S1 (zup μ2 (x + 66) 0 0) (x + 66) M L K inp out c p := FM.u0.w8 h8
      obtain ⟨μ4, e4, g8, f4⟩ := g0.rem
      have gt : μ4 (x + 66) 0 = 0 := by rw [f4.f _ (by decide)]; exact zup_at
      have gf : ∀ y, y < x + 66 ∨ x + 78 ≤ y → μ4 y = μ2 y := fun y hy => by rw [f4.x y (by omega) (by omega), zup_c (by omega)]
      refine zo_ob g0.H.o (by omega) ?_
      refine zo_bn e4 ?_
      obtain ⟨μ5, e5, h5, f5⟩ := b_doPass (t := t) g8.H g8.D
      refine zo_ob g8.H.o (by omega) ?_
      refine zo_bn e5 ?_
      exact zo_rt ⟨μ5, rfl, g8.desk h5 f5, by rw [f5 _ (by omega)]; exact gt, fun y hy => by rw [f5 y (by omega)]; exact gf y hy⟩
  · refine op_t 1 1 h ?_ (by decide) (by decide) ?_ hP1
    · apply zo_un
      refine j_X7_pass ?_
      exact zo_be (k_R_no h1) rfl
    · intro S1 μ2 h8
      refine zo_xt ?_
      refine j_X8_pass ?_
      refine zo_bn (b_in) ?_
      refine m_f1 h8.H (zbl_n (fun z => h1 z)) ?_
      exact ⟨_, _, rfl, FM.u0, zup_at⟩
theorem b_exch {S : zG} {μ : zM} {m A B : Int} {M : zD} (H : MSh S m A) (h : D8 (μ A) M) (W : WF B M) {R : Nat} (hR : R ≤ 6) : zo (f_X8_exchange_26 zFU m (R : Int) 0 0 (S, μ)) (fun r => ∃ μ', r = (.inl (M.rds R).2, (S, μ')) ∧ (D8 (μ' A) (M.rds R).1 ∧ FA A μ μ')) := by
  refine zo_l3 (F := fun n (k : Nat) (c : Int) (μ2 : zM) => f_X8_exchange_26 n m (R : Int) c (k : Int) (S, μ2)) (fun k c μ2 => k ≤ R ∧ ∃ M', D8 (μ2 A) M' ∧ WF B M' ∧ zlp (fun _ z => (z.1.rnd.1, z.2 + z.1.rnd.2)) k (R - k) (M', c) = M.rds R ∧ FA A μ μ2 ∧ 0 ≤ c ∧ c ≤ 100 * (k : Int)) (fun k _ _ => R - k) ?_ zFU 0 0 μ ⟨by omega, M, h, W, rfl, FA.rf, by decide, by decide⟩ (by show R - 0 < 1000000; omega)
  rintro n k c μ2 ⟨hk, M', h', W', hz, hf, hc0, hc1⟩ ih
  refine j_X8_exchange_26 ?_
  by_cases e : k < R
  · have e9 : R - k = (R - (k + 1)) + 1 := by omega
    rw [e9] at hz
    unfold zlp at hz
    have hr := rnd_rng W'
    have hW := W'.rnd
    obtain ⟨μ3, e3, h3, f3⟩ := b_doRound H h' W'
    refine zo_pos (by omega) ?_
    refine zo_ob H.o (by omega) ?_
    refine zo_bn e3 ?_
    generalize M'.rnd = z at *
    rw [w32_s (k := k) (by omega), w32_e (by omega)]
    exact ih (k + 1) (c + z.2) μ3 ⟨by omega, z.1, h3, hW, hz, FA.tr hf f3, by omega, by omega⟩ (by omega)
  · have e9 : R - k = 0 := by omega
    rw [e9] at hz
    unfold zlp at hz
    refine zo_neg (by omega) ?_
    exact zo_rt ⟨μ2, by rw [← hz], by rw [← hz]; exact h', hf⟩
theorem o_exchange {B x : Int} {S : zG} {μ : zM} {M : zD} {L : List zD} {K : zKs} {inp out : List Int} {c p : Int} {P : zG → zM → Prop} {n : Int} (h : Wd B x S μ M L K inp out c p) (hB : B + 99 ≤ 1000000) (hP : zPP B x P) : zOp x P (f_X7_exchange x n) (f_X8_exchange (x + 66) n) [(1, 1)] S μ := by
  have h60 := h.a.D.al
  have h61 := h.a.D.wl
  have W := h.w.M
  have hP1 : ∀ S1 μ3, Wd B x S1 μ3 M L K inp out c p → P S1 μ3 := hP.q hB
  by_cases h1 : 1 ≤ n ∧ n ≤ 6
  · skip
    obtain ⟨j, rfl⟩ : ∃ j : Nat, n = (j : Int) := ⟨n.toNat, by omega⟩
    refine op_p (v := (M.rds j).2) (M' := (M.rds j).1) h hB ((W.rds j).up hB) (rds_rng W (by omega)) ?_ ?_ hP
    · intro S1 μ1 e1 h1p
      refine zo_x7 ?_
      refine j_X7_exchange ?_
      refine zo_bn (k_R h1) ?_
      refine zo_gr h.a.C.o h.a.C.r6 (by omega) (by omega) ?_
      refine zo_gr h.a.C.o h.a.C.r3 (by omega) (by omega) ?_
      obtain ⟨rH, hH⟩ := h.a.H
      refine zo_ob hH.o (by omega) ?_
      refine zo_bn e1 ?_
      refine zo_gr h1p.C.o h1p.C.r3 (by omega) (by omega) ?_
      refine zo_ob h1p.D.sh.o (by omega) ?_
      obtain ⟨μ5, e5, h5, f5⟩ := d_makeRounds (R := j) h1p.D W (by omega)
      refine zo_bn e5 ?_
      exact zo_rt ⟨μ5, rfl, Or.inr ⟨h5, f5⟩⟩
    · intro S1 μ2 h8
      refine zo_x7 ?_
      refine j_X8_exchange ?_
      refine zo_bn (b_in) ?_
      refine m_p1 h8.H (zbl_nz h1) ?_
      have g0 : W8 S1 (zup μ2 (x + 66) 0 0) (x + 66) M L K inp out c p := FM.u0.w8 h8
      obtain ⟨μ4, e4, g8, f4⟩ := g0.rem
      have gt : μ4 (x + 66) 0 = 0 := by rw [f4.f _ (by decide)]; exact zup_at
      have gf : ∀ y, y < x + 66 ∨ x + 78 ≤ y → μ4 y = μ2 y := fun y hy => by rw [f4.x y (by omega) (by omega), zup_c (by omega)]
      refine zo_ob g0.H.o (by omega) ?_
      refine zo_bn e4 ?_
      refine zo_mono (b_exch (R := j) g8.H g8.D W (by omega)) ?_
      rintro r ⟨μ5, hr, h5, f5⟩
      exact ⟨μ5, hr, g8.desk h5 f5, by rw [f5 _ (by omega)]; exact gt, fun y hy => by rw [f5 y (by omega)]; exact gf y hy⟩
  · refine op_t 1 1 h ?_ (by decide) (by decide) ?_ hP1
    · apply zo_un
      refine j_X7_exchange ?_
      exact zo_be (k_R_no h1) rfl
    · intro S1 μ2 h8
      refine zo_xt ?_
      refine j_X8_exchange ?_
      refine zo_bn (b_in) ?_
      refine m_f1 h8.H (zbl_n (fun z => h1 z)) ?_
      exact ⟨_, _, rfl, FM.u0, zup_at⟩
