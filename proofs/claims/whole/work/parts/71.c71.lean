/-! C 71: what would be -/
theorem zo_fr {β : Type} {F : Nat → Nat → β → zM → zFn} {Q : zR × zS → Prop} {N : Nat} {st : Nat → β → β} {c0 : β} {μ0 : zM} (I : Nat → β → zM → Prop)
    (step : ∀ n k c μ2, k ≤ N → I k c μ2 → (k < N → ∀ μ3, I (k + 1) (st k c) μ3 → zo (F n (k + 1) (st k c) μ3) Q) → (k = N → zlp st 0 N c0 = c) → zo (F (n + 1) k c μ2) Q) (hI : I 0 c0 μ0) {m : Nat} (hm : N < m) : zo (F m 0 c0 μ0) Q := by
  have key : ∀ (j k : Nat) (c : β) (μ2 : zM) (m : Nat), k + j = N → j < m → I k c μ2 → zlp st k j c = zlp st 0 N c0 → zo (F m k c μ2) Q := by
    intro j
    induction j with
    | zero =>
      intro k c μ2 m hk hm hI hz
      cases m with
      | zero => exact absurd hm (by omega)
      | succ m => exact step m k c μ2 (by omega) hI (fun h => absurd h (by omega)) (fun _ => hz.symm)
    | succ j ih =>
      intro k c μ2 m hk hm hI hz
      cases m with
      | zero => exact absurd hm (by omega)
      | succ m => exact step m k c μ2 (by omega) hI (fun _ μ3 h3 => ih (k + 1) (st k c) μ3 m (by omega) (by omega) h3 hz) (fun h => absurd h (by omega))
  exact key N 0 c0 μ0 m (by omega) hm hI rfl
/-- what a trial writes in the class -/
def FT (x : Int) (μ μ' : zM) : Prop := ∀ y, (y < x + 5 ∨ x + 12 ≤ y) → (y < x + 37 ∨ x + 62 ≤ y) → μ' y = μ y
section C71
variable {S S' : zG} {μ μ' μ1 μ4 μ5 μ6 μ7 : zM} {x m d B A a o t w : Int} {M M' : zD} {L : List zD} {K : zKs} {inp out : List Int} {c p : Int} {P : zG → zM → Prop} {Q : zR × zS → Prop}
theorem FT.rt (f : FR (x + 37) μ μ1) (g : FV (x + 5) μ1 μ') : FT x μ μ' := fun y h1 h2 => (g y (by omega)).trans (f y (by omega))
theorem W7.ft (h : W7 S μ x M L K inp out c p) (f : FT x μ μ') (he : μ' (x + 45) 1 = 0) : W7 S μ' x M L K inp out c p := by
  obtain ⟨r, hr⟩ := h.H
  have hx := h.C.x0
  exact W7.mk ⟨h.C, h.D.keep (fun y h1 h2 => f y (by omega) (by omega)), h.ts, he, ⟨r, hr.keep (fun y hy => f y (by omega) (by omega))⟩, h.bi, h.li.keep (by rw [f _ (by omega) (by omega)]) (fun k => by rw [f _ (by omega) (by omega)]), h.bo, h.lo.keep (by rw [f _ (by omega) (by omega)]) (fun k => by rw [f _ (by omega) (by omega)]), h.po, h.p0, h.p1, by rw [f _ (by omega) (by omega)]; exact h.pc, by rw [f _ (by omega) (by omega)]; exact h.pp, h.il, h.ol⟩
theorem op_u {f7 f8 : zS → zFn} {tb : List (Nat × Int)} {v : Int} (h : Wd B x S μ M L K inp out c p) (e7 : ∃ μ', f7 (S, μ) = some (.inl v, (S, μ')) ∧ (FT x μ μ' ∧ μ' (x + 45) 1 = 0)) (hv : zI v)
    (e8 : ∀ S1 μ2, W8 S1 μ2 (x + 66) M L K inp out c p → ∃ μ3, f8 (S1, μ2) = some (.inl v, (S1, μ3)) ∧ (W8 S1 μ3 (x + 66) M L K inp out c p ∧ μ3 (x + 66) 0 = 0 ∧ ∀ y, y < x + 66 ∨ x + 78 ≤ y → μ3 y = μ2 y)) (hP : ∀ S1 μ3, Wd B x S1 μ3 M L K inp out c p → P S1 μ3) : zOp x P f7 f8 tb S μ := by
  obtain ⟨μ1, e1, f1, t1⟩ := e7
  exact op_val h e1 hv (h.a.ft f1 t1) (FX.mem (fun y h1 h2 => f1 y (by omega) (by omega))) h.w (fun μ2 h2 => e8 S μ2 h2) (fun μ3 h3 => hP S μ3 h3)
theorem FM.u (f : FM m μ μ') (h : W8 S μ m M L K inp out c p) (ht : μ' m 0 = 0) : W8 S μ' m M L K inp out c p ∧ μ' m 0 = 0 ∧ ∀ y, y < m ∨ m + 12 ≤ y → μ' y = μ y := ⟨f.w8 h, ht, f.far⟩
/-- the trial begins -/
theorem c_try (h : W7 S μ x M L K inp out c p) : ∃ μ1, f_X1_become (x + 37) (x + 12) (S, μ) = some (.inl 0, (S, μ1)) ∧ D7 S μ1 (x + 37) M ∧ FR (x + 37) μ μ1 := by
  have hx := h.C.x0
  have he := h.te
  exact d_become h.ts (by omega) (by rw [show x + 37 + 8 = x + 45 by omega]; exact he) h.D (by omega)
theorem D7.em37 (h : D7 S μ (x + 37) M) : μ (x + 45) 1 = 0 := by
  have h1 := h.em
  rw [show x + 37 + 8 = x + 45 by omega] at h1
  exact h1
/-- the model's trial ends -/
theorem W8.aside (h : W8 S μ m M L K inp out c p) (hA : ∀ j, 0 ≤ j → j < 2405 → μ4 (m + 5) j = μ (m + 1) j) (f1 : FA (m + 5) μ μ4) (f2 : FA (m + 1) μ4 μ5) (f3 : FN m μ5 μ6) (hB : ∀ j, 0 ≤ j → j < 2405 → μ7 (m + 1) j = μ6 (m + 5) j) (f4 : FA (m + 1) μ6 μ7) :
    W8 S μ7 m M L K inp out c p ∧ (∀ k, k ≠ 5 → k ≠ 6 → μ7 m k = μ m k) ∧ ∀ y, y < m ∨ m + 12 ≤ y → μ7 y = μ y := by
  have hy : ∀ y, y ≠ m → y ≠ m + 1 → y ≠ m + 3 → y ≠ m + 4 → y ≠ m + 5 → μ7 y = μ y := fun y h0 h1 h3 h4 h5 => by rw [f4 y h1, f3.x y h0 h3 h4, f2 y h1, f1 y h5]
  have hk : ∀ k, k ≠ 5 → k ≠ 6 → μ7 m k = μ m k := fun k h5 h6 => by rw [f4 m (by omega), f3.f k h5 h6, f2 m (by omega), f1 m (by omega)]
  have hD : D8 (μ7 (m + 1)) M := h.D.keep (fun j h1 h2 => by rw [hB j h1 h2, f3.x _ (by omega) (by omega) (by omega), f2 _ (by omega), hA j h1 h2])
  refine ⟨W8.mk ⟨h.H, hD, HRel.mk ⟨h.R.n, by rw [hk _ (by decide) (by decide)]; exact h.R.c, fun i X hi => by rw [hy _ (by omega) (by omega) (by omega) (by omega) (by omega)]; exact h.R.v i X hi⟩, fun i hi hkk => by rw [hy _ (by omega) (by omega) (by omega) (by omega) (by omega)]; exact h.K0 i hi hkk, fun i X hi hkk => by rw [hy _ (by omega) (by omega) (by omega) (by omega) (by omega), hy _ (by omega) (by omega) (by omega) (by omega) (by omega)]; exact h.K1 i X hi hkk, h.li.keep (hk _ (by decide) (by decide)) (fun k => by rw [hy _ (by omega) (by omega) (by omega) (by omega) (by omega)]), h.lo.keep (hk _ (by decide) (by decide)) (fun k => by rw [hy _ (by omega) (by omega) (by omega) (by omega) (by omega)]), by rw [hk _ (by decide) (by decide)]; exact h.w, by rw [hk _ (by decide) (by decide)]; exact h.ec, by rw [hk _ (by decide) (by decide)]; exact h.ep⟩, hk, fun y h1 => hy y (by omega) (by omega) (by omega) (by omega) (by omega)⟩
/-- the tests of three kinds -/
theorem m_bi {lo hi e : Int} (H : MSh S m A) (h : D8 (μ A) M) (q : ∀ t2, ((0 ≤ lo ∧ lo ≤ hi ∧ hi ≤ 999) ∧ (0 ≤ e ∧ e ≤ 1) → ¬ t2 = 0) ∧ (¬ ((0 ≤ lo ∧ lo ≤ hi ∧ hi ≤ 999) ∧ (0 ≤ e ∧ e ≤ 1)) → t2 = 0) → zo (f_X8_beliefIf_32 m a w lo hi e m (zbl ((0 ≤ a ∧ a < (M.an.length : Int)) ∧ (0 ≤ w ∧ w < (M.wn.length : Int)))) t2 (S, μ)) Q) : zo (f_X8_beliefIf m a w lo hi e (S, μ)) Q := by
  refine j_X8_beliefIf ?_
  refine zo_ob H.o (by omega) ?_
  refine zo_bn (b_areThere H h) ?_
  refine zo_bn b_areBounds ?_
  refine zo_zb (fun z => ?_) (fun z => ?_)
  · refine j_X8_beliefIf_31 ?_
    exact q 0 ⟨fun y => absurd y.1 z, fun _ => rfl⟩
  · refine zo_bn b_in ?_
    refine zo_zb (fun y => ?_) (fun y => ?_)
    · refine j_X8_beliefIf_31 ?_
      exact q 0 ⟨fun u => absurd u.2 y, fun _ => rfl⟩
    · exact q 1 ⟨fun _ => by decide, fun u => absurd ⟨z, y⟩ u⟩
theorem m_ti {lo hi : Int} (H : MSh S m A) (h : D8 (μ A) M) (q : ∀ t1, ((0 ≤ a ∧ a < (M.an.length : Int)) ∧ (0 ≤ w ∧ w < (M.wn.length : Int)) ∧ (0 ≤ o ∧ o < (M.an.length : Int)) → ¬ t1 = 0) ∧ (¬ ((0 ≤ a ∧ a < (M.an.length : Int)) ∧ (0 ≤ w ∧ w < (M.wn.length : Int)) ∧ (0 ≤ o ∧ o < (M.an.length : Int))) → t1 = 0) → zo (f_X8_trustIf_24 m a w lo hi o m t1 (S, μ)) Q) : zo (f_X8_trustIf m a w lo hi o (S, μ)) Q := by
  refine j_X8_trustIf ?_
  refine zo_ob H.o (by omega) ?_
  refine zo_bn (b_areThere H h) ?_
  refine zo_zb (fun z => ?_) (fun z => ?_)
  · refine j_X8_trustIf_23 ?_
    exact q 0 ⟨fun y => absurd ⟨y.1, y.2.1⟩ z, fun _ => rfl⟩
  · refine zo_ob H.o (by omega) ?_
    refine zo_bn (b_isAgent H h) ?_
    refine zo_zb (fun y => ?_) (fun y => ?_)
    · refine j_X8_trustIf_23 ?_
      exact q 0 ⟨fun u => absurd u.2.2 y, fun _ => rfl⟩
    · exact q 1 ⟨fun _ => by decide, fun u => absurd ⟨z.1, z.2, y⟩ u⟩
theorem m_ww (H : MSh S m A) (h : D8 (μ A) M) (q : ∀ t1, ((0 ≤ a ∧ a < (M.an.length : Int)) ∧ (0 ≤ w ∧ w < (M.wn.length : Int)) ∧ (0 ≤ o ∧ o < (M.an.length : Int)) → ¬ t1 = 0) ∧ (¬ ((0 ≤ a ∧ a < (M.an.length : Int)) ∧ (0 ≤ w ∧ w < (M.wn.length : Int)) ∧ (0 ≤ o ∧ o < (M.an.length : Int))) → t1 = 0) → zo (f_X8_widthWithout_23 m a w o m t1 (S, μ)) Q) : zo (f_X8_widthWithout m a w o (S, μ)) Q := by
  refine j_X8_widthWithout ?_
  refine zo_ob H.o (by omega) ?_
  refine zo_bn (b_areThere H h) ?_
  refine zo_zb (fun z => ?_) (fun z => ?_)
  · refine j_X8_widthWithout_22 ?_
    exact q 0 ⟨fun y => absurd ⟨y.1, y.2.1⟩ z, fun _ => rfl⟩
  · refine zo_ob H.o (by omega) ?_
    refine zo_bn (b_isAgent H h) ?_
    refine zo_zb (fun y => ?_) (fun y => ?_)
    · refine j_X8_widthWithout_22 ?_
      exact q 0 ⟨fun u => absurd u.2.2 y, fun _ => rfl⟩
    · exact q 1 ⟨fun _ => by decide, fun u => absurd ⟨z.1, z.2, y⟩ u⟩
theorem b_widthBut (H : MSh S m A) (h : D8 (μ A) M) (W : WF B M) (ha : 0 ≤ a ∧ a < 6) (hx : μ m 4 = -1) : ∃ μ', f_X8_widthBut m a w t (S, μ) = some (.inl (M.wid a w t), (S, μ')) ∧ FN m μ μ' := by
  have hA : A ≠ m := by rcases H.A0 with z | z <;> omega
  obtain ⟨μ1, e1, f1⟩ := b_widthOf (w := w) (x := t) (μ := zup μ m 4 t) H (by rw [zup_c hA]; exact h) W ha zup_at
  apply zo_ux
  refine j_X8_widthBut ?_
  refine zo_pf 4 H.o (by omega) (by omega) ?_
  refine zo_ob H.o (by omega) ?_
  refine zo_bn e1 ?_
  refine zo_pf 4 H.o (by omega) (by omega) ?_
  refine zo_rt ⟨_, rfl, FN.mk ⟨fun y h1 h2 h3 => by rw [zup_c h1, f1.x y h1 h2 h3, zup_c h1], fun k h1 h2 => ?_⟩⟩
  by_cases e : k = 4
  · rw [e, zup_at, hx]
  · rw [zup_j e, f1.f k h1 h2, zup_j e]
/-- the most useful -/
noncomputable def zmus (M : zD) (a : Int) (k : Nat) (c : Int × Int) : Int × Int := @ite _ (¬ M.T a (k : Int) = -1 ∧ c.2 < M.wsm a (k : Int)) (Classical.propDecidable _) ((k : Int), M.wsm a (k : Int)) c
theorem mus_p {k : Nat} {c : Int × Int} (h1 : ¬ M.T a (k : Int) = -1) (h2 : c.2 < M.wsm a (k : Int)) : zmus M a k c = ((k : Int), M.wsm a (k : Int)) := if_pos ⟨h1, h2⟩
theorem mus_n {k : Nat} {c : Int × Int} (h : ¬ (¬ M.T a (k : Int) = -1 ∧ c.2 < M.wsm a (k : Int))) : zmus M a k c = c := if_neg h
noncomputable def zD.mus (M : zD) (a : Int) : Int := (zlp (zmus M a) 0 M.an.length (-1, -1)).1
theorem mus_rng (h6 : M.an.length ≤ 6) : -1 ≤ M.mus a ∧ M.mus a < 6 := by
  unfold zD.mus
  refine zlp_inv (P := fun c : Int × Int => -1 ≤ c.1 ∧ c.1 < 6) (N := M.an.length) ?_ M.an.length 0 (-1, -1) (by omega) (by decide)
  intro k c hk hc
  unfold zmus
  split
  · show -1 ≤ (k : Int) ∧ (k : Int) < 6
    omega
  · exact hc
theorem c_useful (C : CB S x) (hD : D7 S μ (x + 12) M) (W : WF B M) (ha : 0 ≤ a ∧ a < 6) : zo (f_X7_mostUseful_12 zFU x a (-1) (-1) 0 (S, μ)) (fun y => ∃ μ', y = (.inl (M.mus a), (S, μ')) ∧ FV (x + 5) μ μ') := by
  have h60 := hD.al
  refine zo_for (F := fun n (k : Nat) (c : Int × Int) (μ2 : zM) => f_X7_mostUseful_12 n x a c.1 c.2 (k : Int) (S, μ2)) (N := M.an.length) (st := zmus M a) (c0 := (-1, -1)) (fun _ _ => True) (fun μ2 => FV (x + 5) μ μ2) ?_ True.intro FV.rf (by show M.an.length < 1000000; omega)
  intro n k c μ2 hk _ hf ih fin
  have hD2 := hf.d hD
  refine j_X7_mostUseful_12 ?_
  refine zo_gr C.o C.r3 (by omega) (by omega) ?_
  refine zo_gr hD2.sh.o hD2.sh.r1 (by omega) (by omega) ?_
  refine zo_gf hD2.sh.ag.o hD2.an0 (by omega) (by omega) ?_
  by_cases e : k < M.an.length
  · have no : ∀ μ3, FV (x + 5) μ μ3 → zmus M a k c = c → zo (f_X7_mostUseful_61 (f_X7_mostUseful_12 n) x a c.1 c.2 (k : Int) (S, μ3)) (fun y => ∃ μ', y = (.inl (M.mus a), (S, μ')) ∧ FV (x + 5) μ μ') := by
      intro μ3 hf3 es
      have ih := ih e μ3 hf3 True.intro
      rw [es] at ih
      refine j_X7_mostUseful_61 ?_
      rw [w32_s (k := k) (by omega)]
      exact ih
    refine zo_pos (by omega) ?_
    refine zo_gr C.o C.r3 (by omega) (by omega) ?_
    refine zo_ob hD2.sh.o (by omega) ?_
    refine zo_bn (d_isLinked hD2 ha (by omega)) ?_
    refine zo_zb (fun z => no μ2 hf (mus_n (fun y => z y.1))) (fun z => ?_)
    obtain ⟨μ3, e3, f3⟩ := c_widthSum (t := (k : Int)) C hD2 W ha
    refine zo_ob C.o (by omega) ?_
    refine zo_bn e3 ?_
    refine zo_ite (fun y => ?_) (fun y => no μ3 (FV.tr hf f3) (mus_n (fun u => y u.2)))
    have ih := ih e μ3 (FV.tr hf f3) True.intro
    rw [mus_p z y] at ih
    refine j_X7_mostUseful_61 ?_
    rw [w32_s (k := k) (by omega)]
    exact ih
  · refine zo_neg (by omega) ?_
    exact zo_rt ⟨μ2, by rw [← fin (by omega)]; rfl, hf⟩
theorem b_useful (H : MSh S m A) (h : D8 (μ A) M) (W : WF B M) (ha : 0 ≤ a ∧ a < 6) (hx : μ m 4 = -1) : zo (f_X8_mostUseful_21 zFU m a (-1) (-1) 0 (S, μ)) (fun y => ∃ μ', y = (.inl (M.mus a), (S, μ')) ∧ FN m μ μ') := by
  have h60 := h.al
  have h61 := h.wl
  refine zo_for (F := fun n (k : Nat) (c : Int × Int) (μ2 : zM) => f_X8_mostUseful_21 n m a c.1 c.2 (k : Int) (S, μ2)) (N := M.an.length) (st := zmus M a) (c0 := (-1, -1)) (fun _ _ => True) (fun μ2 => FN m μ μ2) ?_ True.intro FN.rf (by show M.an.length < 1000000; omega)
  intro n k c μ2 hk _ hf ih fin
  have h2 := hf.D8 H h
  refine j_X8_mostUseful_21 ?_
  refine zo_ob H.o (by omega) ?_
  refine zo_bn (b_agents H h2) ?_
  by_cases e : k < M.an.length
  · have no : ∀ μ3, FN m μ μ3 → zmus M a k c = c → zo (f_X8_mostUseful_93 (f_X8_mostUseful_21 n) m a c.1 c.2 (k : Int) (S, μ3)) (fun y => ∃ μ', y = (.inl (M.mus a), (S, μ')) ∧ FN m μ μ') := by
      intro μ3 hf3 es
      have ih := ih e μ3 hf3 True.intro
      rw [es] at ih
      refine j_X8_mostUseful_93 ?_
      rw [w32_s (k := k) (by omega)]
      exact ih
    refine zo_pos (by omega) ?_
    refine zo_ob H.o (by omega) ?_
    refine zo_bn (b_areLinked H h2 ha (by omega)) ?_
    refine zo_zb (fun z => no μ2 hf (mus_n (fun y => z y.1))) (fun z => ?_)
    refine zo_for (F := fun n2 (j : Nat) (s : Int) (μ3 : zM) => f_X8_mostUseful_49 (f_X8_mostUseful_21 n) n2 m a c.1 c.2 (k : Int) s (j : Int) (S, μ3)) (N := M.wn.length) (st := fun j s => w32 (s + M.wid a (j : Int) (k : Int))) (c0 := 0) (fun _ _ => True) (fun μ3 => FN m μ μ3) ?_ True.intro hf (by show M.wn.length < 1000000; omega)
    intro n2 j s μ3 hj _ hf3 ih2 fin2
    have h3 := hf3.D8 H h
    refine j_X8_mostUseful_49 ?_
    refine zo_ob H.o (by omega) ?_
    refine zo_bn (b_ways H h3) ?_
    by_cases e2 : j < M.wn.length
    · obtain ⟨μ4, e4, f4⟩ := b_widthBut (w := (j : Int)) (t := (k : Int)) H h3 W ha (by rw [hf3.f 4 (by decide) (by decide)]; exact hx)
      refine zo_pos (by omega) ?_
      refine zo_ob H.o (by omega) ?_
      refine zo_bn e4 ?_
      rw [w32_s (k := j) (by omega)]
      exact ih2 e2 μ4 (FN.tr hf3 f4) True.intro
    · have e9 : M.wsm a (k : Int) = s := fin2 (by omega)
      refine zo_neg (by omega) ?_
      refine j_X8_mostUseful_78 ?_
      rw [← e9]
      refine zo_ite (fun y => ?_) (fun y => no μ3 hf3 (mus_n (fun u => y u.2)))
      have ih := ih e μ3 hf3 True.intro
      rw [mus_p z y] at ih
      refine j_X8_mostUseful_93 ?_
      rw [w32_s (k := k) (by omega)]
      exact ih
  · refine zo_neg (by omega) ?_
    exact zo_rt ⟨μ2, by rw [← fin (by omega)]; rfl, hf⟩
/-- who is informed -/
noncomputable def zifs (M : zD) (a w : Int) (k : Nat) (c : Int) : Int := @ite _ (zfi (zq a w) (zqD a w) (M.li (k : Int)) 0 = -1) (Classical.propDecidable _) c (zor c (zshl 1 (k : Int)))
theorem ifs_p {k : Nat} (h : zfi (zq a w) (zqD a w) (M.li (k : Int)) 0 = -1) : zifs M a w k c = c := if_pos h
theorem ifs_n {k : Nat} (h : ¬ zfi (zq a w) (zqD a w) (M.li (k : Int)) 0 = -1) : zifs M a w k c = zor c (zshl 1 (k : Int)) := if_neg h
noncomputable def zD.ifm (M : zD) (a w : Int) : Int := zlp (zifs M a w) 0 M.an.length 0
theorem ifm_rng : zI (M.ifm a w) := by
  unfold zD.ifm
  refine zlp_inv (P := fun c : Int => zI c) (N := M.an.length) ?_ M.an.length 0 0 (by omega) (by unfold zI; decide)
  intro k c hk hc
  unfold zifs
  split
  · exact hc
  · exact zor_rng _ _
theorem c_inform (C : CB S x) (hD : D7 S μ (x + 37) M) : zo (f_X7_informed_43 zFU x a w 0 0 (S, μ)) (fun y => y = (.inl (M.ifm a w), (S, μ))) := by
  have h60 := hD.al
  refine zo_fon (F := fun n (k : Nat) (c : Int) => f_X7_informed_43 n x a w c (k : Int) (S, μ)) (N := M.an.length) (st := zifs M a w) (c0 := 0) (fun _ _ => True) ?_ True.intro (by show M.an.length < 1000000; omega)
  intro n k c hk _ ih fin
  refine j_X7_informed_43 ?_
  refine zo_gr C.o C.r4 (by omega) (by omega) ?_
  refine zo_gr hD.sh.o hD.sh.r1 (by omega) (by omega) ?_
  refine zo_gf hD.sh.ag.o hD.an0 (by omega) (by omega) ?_
  by_cases e : k < M.an.length
  · have ih := ih e True.intro
    have hk6 : 0 ≤ (k : Int) ∧ (k : Int) < 6 := by omega
    refine zo_pos (by omega) ?_
    refine zo_gr C.o C.r4 (by omega) (by omega) ?_
    refine zo_ob hD.sh.o (by omega) ?_
    refine zo_bn (d_listOf hD hk6) ?_
    refine zo_ob (hD.sh.ls (k : Int) hk6.1 hk6.2).o (by omega) ?_
    refine zo_bn (d_find hD hk6) ?_
    refine zo_ite (fun z => ?_) (fun z => ?_)
    · rw [ifs_p z] at ih
      refine j_X7_informed_85 ?_
      rw [w32_s (k := k) (by omega)]
      exact ih
    · rw [ifs_n z] at ih
      refine j_X7_informed_85 ?_
      rw [w32_s (k := k) (by omega)]
      exact ih
  · refine zo_neg (by omega) ?_
    exact zo_rt (by rw [← fin (by omega)]; rfl)
theorem b_inform (H : MSh S m A) (h : D8 (μ A) M) (q : zo (f_X8_informed_95 m (M.ifm a w) (S, μ)) Q) : zo (f_X8_informed_55 zFU m a w 0 0 (S, μ)) Q := by
  have h60 := h.al
  refine zo_fon (F := fun n (k : Nat) (c : Int) => f_X8_informed_55 n m a w c (k : Int) (S, μ)) (N := M.an.length) (st := zifs M a w) (c0 := 0) (fun _ c => -2147483648 ≤ c ∧ c < 2147483648) ?_ (by decide) (by show M.an.length < 1000000; omega)
  intro n k c hk hc ih fin
  refine j_X8_informed_55 ?_
  refine zo_ob H.o (by omega) ?_
  refine zo_bn (b_agents H h) ?_
  by_cases e : k < M.an.length
  · have ih := ih e
    have hk6 : 0 ≤ (k : Int) ∧ (k : Int) < 6 := by omega
    refine zo_pos (by omega) ?_
    refine zo_ob H.o (by omega) ?_
    refine zo_bn (b_reportOf H h hk6) ?_
    refine zo_ite (fun z => ?_) (fun z => ?_)
    · rw [ifs_p z] at ih
      refine j_X8_informed_86 ?_
      rw [w32_s (k := k) (by omega), zor_0 hc]
      exact ih hc
    · rw [ifs_n z] at ih
      refine j_X8_informed_86 ?_
      rw [w32_s (k := k) (by omega)]
      exact ih (zor_rng _ _)
  · have e9 : M.ifm a w = c := fin (by omega)
    refine zo_neg (by omega) ?_
    rw [← e9]
    exact q
theorem b_rounds {R : Nat} (H : MSh S m A) (h : D8 (μ A) M) (W : WF B M) (hR : R ≤ 6) (q : ∀ μ', D8 (μ' A) (M.rds R).1 → FA A μ μ' → zo (f_X8_informed_49 m a w (S, μ')) Q) : zo (f_X8_informed_31 zFU m a w (R : Int) 0 (S, μ)) Q := by
  refine zo_fr (F := fun n (k : Nat) (c : zD × Int) (μ2 : zM) => f_X8_informed_31 n m a w (R : Int) (k : Int) (S, μ2)) (N := R) (st := fun _ z => (z.1.rnd.1, z.2 + z.1.rnd.2)) (c0 := (M, 0)) (fun _ c μ2 => D8 (μ2 A) c.1 ∧ WF B c.1 ∧ FA A μ μ2) ?_ ⟨h, W, FA.rf⟩ (by show R < 1000000; omega)
  rintro n k c μ2 hk ⟨h2, W2, f2⟩ ih fin
  refine j_X8_informed_31 ?_
  by_cases e : k < R
  · obtain ⟨μ3, e3, h3, f3⟩ := b_doRound H h2 W2
    refine zo_pos (by omega) ?_
    refine zo_ob H.o (by omega) ?_
    refine zo_bn e3 ?_
    rw [w32_s (k := k) (by omega)]
    exact ih e μ3 ⟨h3, W2.rnd, FA.tr f2 f3⟩
  · have e9 : M.rds R = c := fin (by omega)
    refine zo_neg (by omega) ?_
    exact q μ2 (by rw [e9]; exact h2) f2
end C71
theorem o_widthWithout {B x : Int} {S : zG} {μ : zM} {M : zD} {L : List zD} {K : zKs} {inp out : List Int} {c p : Int} {P : zG → zM → Prop} {a w o : Int} (h : Wd B x S μ M L K inp out c p) (hP : ∀ S1 μ3, Wd B x S1 μ3 M L K inp out c p → P S1 μ3) : zOp x P (f_X7_widthWithout x a w o) (f_X8_widthWithout (x + 66) a w o) [(2, 1)] S μ := by
  have h60 := h.a.D.al
  have h61 := h.a.D.wl
  have W := h.w.M
  by_cases h1 : 0 ≤ a ∧ a < (M.an.length : Int)
  · skip
    by_cases h2 : 0 ≤ w ∧ w < (M.wn.length : Int)
    · skip
      by_cases h3 : 0 ≤ o ∧ o < (M.an.length : Int)
      · skip
        refine op_q (v := (M.wid a w o)) h ?_ (w32_rng _) ?_ hP
        · refine zo_xq ?_
          refine j_X7_widthWithout ?_
          refine zo_ob h.a.C.o (by omega) ?_
          refine zo_bn (k_A h.a.C h.a.D h1) ?_
          refine zo_ob h.a.C.o (by omega) ?_
          refine zo_bn (k_W h.a.C h.a.D h2) ?_
          refine zo_ob h.a.C.o (by omega) ?_
          refine zo_bn (k_A h.a.C h.a.D h3) ?_
          refine zo_gr h.a.C.o h.a.C.r3 (by omega) (by omega) ?_
          refine zo_ob h.a.C.o (by omega) ?_
          obtain ⟨μ4, e4, f4⟩ := c_widthOf (w := w) (t := o) h.a.C h.a.D W (by omega) (show 0 ≤ a ∧ a < 6 by omega)
          refine zo_bn e4 ?_
          exact zo_rt ⟨μ4, rfl, f4⟩
        · intro S1 μ2 h8
          refine zo_xq ?_
          refine m_ww h8.H h8.D (fun t1 ht => ?_)
          refine j_X8_widthWithout_23 ?_
          refine m_p1 h8.H (ht.1 ⟨h1, h2, h3⟩) ?_
          have g8 : W8 S1 (zup μ2 (x + 66) 0 0) (x + 66) M L K inp out c p := FM.u0.w8 h8
          have gt : zup μ2 (x + 66) 0 0 (x + 66) 0 = 0 := zup_at
          obtain ⟨μ4, e4, f4⟩ := b_widthBut (w := w) (t := o) g8.H g8.D W (show 0 ≤ a ∧ a < 6 by omega) g8.w
          refine zo_ob g8.H.o (by omega) ?_
          refine zo_bn e4 ?_
          exact zo_rt ⟨μ4, rfl, FM.tr FM.u0 f4.fm, by rw [f4.f _ (by decide) (by decide)]; exact gt⟩
      · refine op_t 2 1 h ?_ (by decide) (by decide) ?_ hP
        · apply zo_un
          refine j_X7_widthWithout ?_
          refine zo_ob h.a.C.o (by omega) ?_
          refine zo_bn (k_A h.a.C h.a.D h1) ?_
          refine zo_ob h.a.C.o (by omega) ?_
          refine zo_bn (k_W h.a.C h.a.D h2) ?_
          refine zo_ob h.a.C.o (by omega) ?_
          exact zo_be (k_A_no h.a.C h.a.D h3) rfl
        · intro S1 μ2 h8
          refine zo_xt ?_
          refine m_ww h8.H h8.D (fun t1 ht => ?_)
          refine j_X8_widthWithout_23 ?_
          refine m_f1 h8.H (ht.2 (fun z => h3 z.2.2)) ?_
          exact ⟨_, _, rfl, FM.u0, zup_at⟩
    · refine op_t 2 1 h ?_ (by decide) (by decide) ?_ hP
      · apply zo_un
        refine j_X7_widthWithout ?_
        refine zo_ob h.a.C.o (by omega) ?_
        refine zo_bn (k_A h.a.C h.a.D h1) ?_
        refine zo_ob h.a.C.o (by omega) ?_
        exact zo_be (k_W_no h.a.C h.a.D h2) rfl
      · intro S1 μ2 h8
        refine zo_xt ?_
        refine m_ww h8.H h8.D (fun t1 ht => ?_)
        refine j_X8_widthWithout_23 ?_
        refine m_f1 h8.H (ht.2 (fun z => h2 z.2.1)) ?_
        exact ⟨_, _, rfl, FM.u0, zup_at⟩
  · refine op_t 2 1 h ?_ (by decide) (by decide) ?_ hP
    · apply zo_un
      refine j_X7_widthWithout ?_
      refine zo_ob h.a.C.o (by omega) ?_
      exact zo_be (k_A_no h.a.C h.a.D h1) rfl
    · intro S1 μ2 h8
      refine zo_xt ?_
      refine m_ww h8.H h8.D (fun t1 ht => ?_)
      refine j_X8_widthWithout_23 ?_
      refine m_f1 h8.H (ht.2 (fun z => h1 z.1)) ?_
      exact ⟨_, _, rfl, FM.u0, zup_at⟩
theorem o_mostUseful {B x : Int} {S : zG} {μ : zM} {M : zD} {L : List zD} {K : zKs} {inp out : List Int} {c p : Int} {P : zG → zM → Prop} {a : Int} (h : Wd B x S μ M L K inp out c p) (hP : ∀ S1 μ3, Wd B x S1 μ3 M L K inp out c p → P S1 μ3) : zOp x P (f_X7_mostUseful x a) (f_X8_mostUseful (x + 66) a) [(2, 1)] S μ := by
  have h60 := h.a.D.al
  have h61 := h.a.D.wl
  have W := h.w.M
  by_cases h1 : 0 ≤ a ∧ a < (M.an.length : Int)
  · skip
    refine op_q (v := (M.mus a)) h ?_ (by have := mus_rng (a := a) h60; unfold zI; omega) ?_ hP
    · refine zo_xq ?_
      refine j_X7_mostUseful ?_
      refine zo_ob h.a.C.o (by omega) ?_
      refine zo_bn (k_A h.a.C h.a.D h1) ?_
      refine zo_mono (c_useful h.a.C h.a.D W (show 0 ≤ a ∧ a < 6 by omega)) ?_
      rintro r ⟨μ4, hr, f4⟩
      exact ⟨μ4, hr, f4⟩
    · intro S1 μ2 h8
      refine zo_xq ?_
      refine j_X8_mostUseful ?_
      refine zo_ob h8.H.o (by omega) ?_
      refine zo_bn (b_isAgent h8.H h8.D) ?_
      refine m_p1 h8.H (zbl_nz h1) ?_
      have g8 : W8 S1 (zup μ2 (x + 66) 0 0) (x + 66) M L K inp out c p := FM.u0.w8 h8
      have gt : zup μ2 (x + 66) 0 0 (x + 66) 0 = 0 := zup_at
      refine zo_mono (b_useful g8.H g8.D W (show 0 ≤ a ∧ a < 6 by omega) g8.w) ?_
      rintro r ⟨μ4, hr, f4⟩
      exact ⟨μ4, hr, FM.tr FM.u0 f4.fm, by rw [f4.f _ (by decide) (by decide)]; exact gt⟩
  · refine op_t 2 1 h ?_ (by decide) (by decide) ?_ hP
    · apply zo_un
      refine j_X7_mostUseful ?_
      refine zo_ob h.a.C.o (by omega) ?_
      exact zo_be (k_A_no h.a.C h.a.D h1) rfl
    · intro S1 μ2 h8
      refine zo_xt ?_
      refine j_X8_mostUseful ?_
      refine zo_ob h8.H.o (by omega) ?_
      refine zo_bn (b_isAgent h8.H h8.D) ?_
      refine m_f1 h8.H (zbl_n (fun z => h1 z)) ?_
      exact ⟨_, _, rfl, FM.u0, zup_at⟩
theorem o_beliefIf {B x : Int} {S : zG} {μ : zM} {M : zD} {L : List zD} {K : zKs} {inp out : List Int} {c p : Int} {P : zG → zM → Prop} {a w lo hi e : Int} (h : Wd B x S μ M L K inp out c p) (hP : ∀ S1 μ3, Wd B x S1 μ3 M L K inp out c p → P S1 μ3) : zOp x P (f_X7_beliefIf x a w lo hi e) (f_X8_beliefIf (x + 66) a w lo hi e) [(2, 1), (1, 2)] S μ := by
  have h60 := h.a.D.al
  have h61 := h.a.D.wl
  have W := h.w.M
  by_cases h1 : 0 ≤ a ∧ a < (M.an.length : Int)
  · skip
    by_cases h2 : 0 ≤ w ∧ w < (M.wn.length : Int)
    · skip
      by_cases h3 : 0 ≤ lo ∧ lo ≤ hi ∧ hi ≤ 999
      · skip
        by_cases h4 : 0 ≤ e ∧ e ≤ 1
        · skip
          refine op_u (v := ((M.prb a w lo hi).1.bnd a w e)) h ?_ (by have := bnd_rng (M.prb a w lo hi).1 a w e; unfold zI; omega) ?_ hP
          · refine zo_xq ?_
            refine j_X7_beliefIf ?_
            refine zo_ob h.a.C.o (by omega) ?_
            refine zo_bn (k_A h.a.C h.a.D h1) ?_
            refine zo_ob h.a.C.o (by omega) ?_
            refine zo_bn (k_W h.a.C h.a.D h2) ?_
            refine zo_bn (k_B h3) ?_
            refine zo_bn (k_R h4) ?_
            obtain ⟨μ1, e1, d1, f1⟩ := c_try h.a
            refine zo_gr h.a.C.o h.a.C.r4 (by omega) (by omega) ?_
            refine zo_gr h.a.C.o h.a.C.r3 (by omega) (by omega) ?_
            refine zo_ob h.a.ts.o (by omega) ?_
            refine zo_bn e1 ?_
            obtain ⟨μ5, e5, d5, f5⟩ := d_makeProbe d1 W h1 h2 h3
            refine zo_gr h.a.C.o h.a.C.r4 (by omega) (by omega) ?_
            refine zo_ob d1.sh.o (by omega) ?_
            refine zo_bn e5 ?_
            obtain ⟨μ6, e6, f6⟩ := c_believed (w := w) (e := e) h.a.C d5 (W.prb h1 h2 h3) (by omega) (show 0 ≤ a ∧ a < 6 by omega)
            refine zo_gr h.a.C.o h.a.C.r4 (by omega) (by omega) ?_
            refine zo_ob h.a.C.o (by omega) ?_
            refine zo_bn e6 ?_
            exact zo_rt ⟨μ6, rfl, FT.rt (FR.tr f1 f5) f6, by rw [f6 _ (by omega)]; exact d5.em37⟩
          · intro S1 μ2 h8
            refine zo_xq ?_
            refine m_bi h8.H h8.D (fun t2 ht => ?_)
            refine j_X8_beliefIf_32 ?_
            refine m_p2 h8.H (zbl_nz ⟨h1, h2⟩) (ht.1 ⟨h3, h4⟩) ?_
            have g8 : W8 S1 (zup μ2 (x + 66) 0 0) (x + 66) M L K inp out c p := FM.u0.w8 h8
            have gt : zup μ2 (x + 66) 0 0 (x + 66) 0 = 0 := zup_at
            obtain ⟨μ4, e4, hA, f1⟩ := b_keepAside (μ := zup μ2 (x + 66) 0 0) g8.H
            have d4 : D8 (μ4 (x + 66 + 1)) M := by rw [f1 _ (by omega)]; exact g8.D
            refine zo_ob g8.H.o (by omega) ?_
            refine zo_bn e4 ?_
            obtain ⟨μ5, e5, d5, f2⟩ := b_doProbe g8.H d4 W h1 h2 h3
            refine zo_ob g8.H.o (by omega) ?_
            refine zo_bn e5 ?_
            obtain ⟨μ6, e6, f3⟩ := b_boundOf (w := w) (e := e) g8.H d5 (W.prb h1 h2 h3) (show 0 ≤ a ∧ a < 6 by omega) (show μ5 (x + 66) 4 = -1 by rw [f2 _ (by omega), f1 _ (by omega)]; exact g8.w)
            refine zo_ob g8.H.o (by omega) ?_
            refine zo_bn e6 ?_
            obtain ⟨μ7, e7, hB, f4⟩ := b_layBack (μ := μ6) (r := (M.prb a w lo hi).1.bnd a w e) g8.H
            have key := g8.aside hA f1 f2 f3 hB f4
            refine zo_ob g8.H.o (by omega) ?_
            refine zo_bn e7 ?_
            exact zo_rt ⟨μ7, rfl, key.1, by rw [key.2.1 0 (by decide) (by decide)]; exact gt, fun y hy => by rw [key.2.2 y (by omega), zup_c (by omega)]⟩
        · refine op_t 1 2 h ?_ (by decide) (by decide) ?_ hP
          · apply zo_un
            refine j_X7_beliefIf ?_
            refine zo_ob h.a.C.o (by omega) ?_
            refine zo_bn (k_A h.a.C h.a.D h1) ?_
            refine zo_ob h.a.C.o (by omega) ?_
            refine zo_bn (k_W h.a.C h.a.D h2) ?_
            refine zo_bn (k_B h3) ?_
            exact zo_be (k_R_no h4) rfl
          · intro S1 μ2 h8
            refine zo_xt ?_
            refine m_bi h8.H h8.D (fun t2 ht => ?_)
            refine j_X8_beliefIf_32 ?_
            refine m_f2b h8.H (zbl_nz ⟨h1, h2⟩) (ht.2 (fun z => h4 z.2)) ?_
            exact ⟨_, _, rfl, FM.u0, zup_at⟩
      · refine op_t 1 2 h ?_ (by decide) (by decide) ?_ hP
        · apply zo_un
          refine j_X7_beliefIf ?_
          refine zo_ob h.a.C.o (by omega) ?_
          refine zo_bn (k_A h.a.C h.a.D h1) ?_
          refine zo_ob h.a.C.o (by omega) ?_
          refine zo_bn (k_W h.a.C h.a.D h2) ?_
          exact zo_be (k_B_no h3) rfl
        · intro S1 μ2 h8
          refine zo_xt ?_
          refine m_bi h8.H h8.D (fun t2 ht => ?_)
          refine j_X8_beliefIf_32 ?_
          refine m_f2b h8.H (zbl_nz ⟨h1, h2⟩) (ht.2 (fun z => h3 z.1)) ?_
          exact ⟨_, _, rfl, FM.u0, zup_at⟩
    · refine op_t 2 1 h ?_ (by decide) (by decide) ?_ hP
      · apply zo_un
        refine j_X7_beliefIf ?_
        refine zo_ob h.a.C.o (by omega) ?_
        refine zo_bn (k_A h.a.C h.a.D h1) ?_
        refine zo_ob h.a.C.o (by omega) ?_
        exact zo_be (k_W_no h.a.C h.a.D h2) rfl
      · intro S1 μ2 h8
        refine zo_xt ?_
        refine m_bi h8.H h8.D (fun t2 ht => ?_)
        refine j_X8_beliefIf_32 ?_
        refine m_f2a h8.H (zbl_n (fun z => h2 z.2)) ?_
        exact ⟨_, _, rfl, FM.u0, zup_at⟩
  · refine op_t 2 1 h ?_ (by decide) (by decide) ?_ hP
    · apply zo_un
      refine j_X7_beliefIf ?_
      refine zo_ob h.a.C.o (by omega) ?_
      exact zo_be (k_A_no h.a.C h.a.D h1) rfl
    · intro S1 μ2 h8
      refine zo_xt ?_
      refine m_bi h8.H h8.D (fun t2 ht => ?_)
      refine j_X8_beliefIf_32 ?_
      refine m_f2a h8.H (zbl_n (fun z => h1 z.1)) ?_
      exact ⟨_, _, rfl, FM.u0, zup_at⟩
theorem o_trustIf {B x : Int} {S : zG} {μ : zM} {M : zD} {L : List zD} {K : zKs} {inp out : List Int} {c p : Int} {P : zG → zM → Prop} {a w lo hi o : Int} (h : Wd B x S μ M L K inp out c p) (hP : ∀ S1 μ3, Wd B x S1 μ3 M L K inp out c p → P S1 μ3) : zOp x P (f_X7_trustIf x a w lo hi o) (f_X8_trustIf (x + 66) a w lo hi o) [(2, 1), (1, 2)] S μ := by
  have h60 := h.a.D.al
  have h61 := h.a.D.wl
  have W := h.w.M
  by_cases h1 : 0 ≤ a ∧ a < (M.an.length : Int)
  · skip
    by_cases h2 : 0 ≤ w ∧ w < (M.wn.length : Int)
    · skip
      by_cases h3 : 0 ≤ o ∧ o < (M.an.length : Int)
      · skip
        by_cases h4 : 0 ≤ lo ∧ lo ≤ hi ∧ hi ≤ 999
        · skip
          refine op_u (v := ((M.prb a w lo hi).1.T a o)) h ?_ (by have := (W.prb h1 h2 h4).Tr a o; unfold zI; omega) ?_ hP
          · refine zo_xq ?_
            refine j_X7_trustIf ?_
            refine zo_ob h.a.C.o (by omega) ?_
            refine zo_bn (k_A h.a.C h.a.D h1) ?_
            refine zo_ob h.a.C.o (by omega) ?_
            refine zo_bn (k_W h.a.C h.a.D h2) ?_
            refine zo_ob h.a.C.o (by omega) ?_
            refine zo_bn (k_A h.a.C h.a.D h3) ?_
            refine zo_bn (k_B h4) ?_
            obtain ⟨μ1, e1, d1, f1⟩ := c_try h.a
            refine zo_gr h.a.C.o h.a.C.r4 (by omega) (by omega) ?_
            refine zo_gr h.a.C.o h.a.C.r3 (by omega) (by omega) ?_
            refine zo_ob h.a.ts.o (by omega) ?_
            refine zo_bn e1 ?_
            obtain ⟨μ5, e5, d5, f5⟩ := d_makeProbe d1 W h1 h2 h4
            refine zo_gr h.a.C.o h.a.C.r4 (by omega) (by omega) ?_
            refine zo_ob d1.sh.o (by omega) ?_
            refine zo_bn e5 ?_
            refine zo_gr h.a.C.o h.a.C.r4 (by omega) (by omega) ?_
            refine zo_ob d1.sh.o (by omega) ?_
            refine zo_bn (d_trustIn d5 (by omega) (by omega)) ?_
            exact zo_rt ⟨μ5, rfl, FT.rt (FR.tr f1 f5) FV.rf, d5.em37⟩
          · intro S1 μ2 h8
            refine zo_xq ?_
            refine m_ti h8.H h8.D (fun t1 ht => ?_)
            refine j_X8_trustIf_24 ?_
            refine zo_bn b_areBounds ?_
            refine m_p2 h8.H (ht.1 ⟨h1, h2, h3⟩) (zbl_nz h4) ?_
            have g8 : W8 S1 (zup μ2 (x + 66) 0 0) (x + 66) M L K inp out c p := FM.u0.w8 h8
            have gt : zup μ2 (x + 66) 0 0 (x + 66) 0 = 0 := zup_at
            obtain ⟨μ4, e4, hA, f1⟩ := b_keepAside (μ := zup μ2 (x + 66) 0 0) g8.H
            have d4 : D8 (μ4 (x + 66 + 1)) M := by rw [f1 _ (by omega)]; exact g8.D
            refine zo_ob g8.H.o (by omega) ?_
            refine zo_bn e4 ?_
            obtain ⟨μ5, e5, d5, f2⟩ := b_doProbe g8.H d4 W h1 h2 h4
            refine zo_ob g8.H.o (by omega) ?_
            refine zo_bn e5 ?_
            have e6 : f_X8_trustOf (x + 66) a o (S1, μ5) = some (.inl ((M.prb a w lo hi).1.T a o), (S1, μ5)) := b_trustOf g8.H d5 (by omega) (by omega)
            have f3 : FN (x + 66) μ5 μ5 := FN.rf
            refine zo_ob g8.H.o (by omega) ?_
            refine zo_bn e6 ?_
            obtain ⟨μ7, e7, hB, f4⟩ := b_layBack (μ := μ5) (r := (M.prb a w lo hi).1.T a o) g8.H
            have key := g8.aside hA f1 f2 f3 hB f4
            refine zo_ob g8.H.o (by omega) ?_
            refine zo_bn e7 ?_
            exact zo_rt ⟨μ7, rfl, key.1, by rw [key.2.1 0 (by decide) (by decide)]; exact gt, fun y hy => by rw [key.2.2 y (by omega), zup_c (by omega)]⟩
        · refine op_t 1 2 h ?_ (by decide) (by decide) ?_ hP
          · apply zo_un
            refine j_X7_trustIf ?_
            refine zo_ob h.a.C.o (by omega) ?_
            refine zo_bn (k_A h.a.C h.a.D h1) ?_
            refine zo_ob h.a.C.o (by omega) ?_
            refine zo_bn (k_W h.a.C h.a.D h2) ?_
            refine zo_ob h.a.C.o (by omega) ?_
            refine zo_bn (k_A h.a.C h.a.D h3) ?_
            exact zo_be (k_B_no h4) rfl
          · intro S1 μ2 h8
            refine zo_xt ?_
            refine m_ti h8.H h8.D (fun t1 ht => ?_)
            refine j_X8_trustIf_24 ?_
            refine zo_bn b_areBounds ?_
            refine m_f2b h8.H (ht.1 ⟨h1, h2, h3⟩) (zbl_n (fun z => h4 z)) ?_
            exact ⟨_, _, rfl, FM.u0, zup_at⟩
      · refine op_t 2 1 h ?_ (by decide) (by decide) ?_ hP
        · apply zo_un
          refine j_X7_trustIf ?_
          refine zo_ob h.a.C.o (by omega) ?_
          refine zo_bn (k_A h.a.C h.a.D h1) ?_
          refine zo_ob h.a.C.o (by omega) ?_
          refine zo_bn (k_W h.a.C h.a.D h2) ?_
          refine zo_ob h.a.C.o (by omega) ?_
          exact zo_be (k_A_no h.a.C h.a.D h3) rfl
        · intro S1 μ2 h8
          refine zo_xt ?_
          refine m_ti h8.H h8.D (fun t1 ht => ?_)
          refine j_X8_trustIf_24 ?_
          refine zo_bn b_areBounds ?_
          refine m_f2a h8.H (ht.2 (fun z => h3 z.2.2)) ?_
          exact ⟨_, _, rfl, FM.u0, zup_at⟩
    · refine op_t 2 1 h ?_ (by decide) (by decide) ?_ hP
      · apply zo_un
        refine j_X7_trustIf ?_
        refine zo_ob h.a.C.o (by omega) ?_
        refine zo_bn (k_A h.a.C h.a.D h1) ?_
        refine zo_ob h.a.C.o (by omega) ?_
        exact zo_be (k_W_no h.a.C h.a.D h2) rfl
      · intro S1 μ2 h8
        refine zo_xt ?_
        refine m_ti h8.H h8.D (fun t1 ht => ?_)
        refine j_X8_trustIf_24 ?_
        refine zo_bn b_areBounds ?_
        refine m_f2a h8.H (ht.2 (fun z => h2 z.2.1)) ?_
        exact ⟨_, _, rfl, FM.u0, zup_at⟩
  · refine op_t 2 1 h ?_ (by decide) (by decide) ?_ hP
    · apply zo_un
      refine j_X7_trustIf ?_
      refine zo_ob h.a.C.o (by omega) ?_
      exact zo_be (k_A_no h.a.C h.a.D h1) rfl
    · intro S1 μ2 h8
      refine zo_xt ?_
      refine m_ti h8.H h8.D (fun t1 ht => ?_)
      refine j_X8_trustIf_24 ?_
      refine zo_bn b_areBounds ?_
      refine m_f2a h8.H (ht.2 (fun z => h1 z.1)) ?_
      exact ⟨_, _, rfl, FM.u0, zup_at⟩
theorem o_informed {B x : Int} {S : zG} {μ : zM} {M : zD} {L : List zD} {K : zKs} {inp out : List Int} {c p : Int} {P : zG → zM → Prop} {a w n : Int} (h : Wd B x S μ M L K inp out c p) (hP : ∀ S1 μ3, Wd B x S1 μ3 M L K inp out c p → P S1 μ3) : zOp x P (f_X7_informed x a w n) (f_X8_informed (x + 66) a w n) [(2, 1), (1, 2)] S μ := by
  have h60 := h.a.D.al
  have h61 := h.a.D.wl
  have W := h.w.M
  by_cases h1 : 0 ≤ a ∧ a < (M.an.length : Int)
  · skip
    by_cases h2 : 0 ≤ w ∧ w < (M.wn.length : Int)
    · skip
      by_cases h3 : 0 ≤ n ∧ n ≤ 6
      · skip
        obtain ⟨R, rfl⟩ : ∃ R : Nat, n = (R : Int) := ⟨n.toNat, by omega⟩
        refine op_u (v := ((M.rds R).1.ifm a w)) h ?_ ifm_rng ?_ hP
        · refine zo_xq ?_
          refine j_X7_informed ?_
          refine zo_ob h.a.C.o (by omega) ?_
          refine zo_bn (k_A h.a.C h.a.D h1) ?_
          refine zo_ob h.a.C.o (by omega) ?_
          refine zo_bn (k_W h.a.C h.a.D h2) ?_
          refine zo_bn (k_R h3) ?_
          obtain ⟨μ1, e1, d1, f1⟩ := c_try h.a
          refine zo_gr h.a.C.o h.a.C.r4 (by omega) (by omega) ?_
          refine zo_gr h.a.C.o h.a.C.r3 (by omega) (by omega) ?_
          refine zo_ob h.a.ts.o (by omega) ?_
          refine zo_bn e1 ?_
          obtain ⟨μ5, e5, d5, f5⟩ := d_makeRounds (R := R) d1 W (by omega)
          refine zo_gr h.a.C.o h.a.C.r4 (by omega) (by omega) ?_
          refine zo_ob d1.sh.o (by omega) ?_
          refine zo_bn e5 ?_
          refine zo_mono (c_inform h.a.C d5) ?_
          rintro y rfl
          exact ⟨μ5, rfl, FT.rt (FR.tr f1 f5) FV.rf, d5.em37⟩
        · intro S1 μ2 h8
          refine zo_xq ?_
          refine j_X8_informed ?_
          refine zo_ob h8.H.o (by omega) ?_
          refine zo_bn (b_areThere h8.H h8.D) ?_
          refine zo_bn (b_in) ?_
          refine m_p2 h8.H (zbl_nz ⟨h1, h2⟩) (zbl_nz h3) ?_
          have g8 : W8 S1 (zup μ2 (x + 66) 0 0) (x + 66) M L K inp out c p := FM.u0.w8 h8
          have gt : zup μ2 (x + 66) 0 0 (x + 66) 0 = 0 := zup_at
          obtain ⟨μ4, e4, hA, f1⟩ := b_keepAside (μ := zup μ2 (x + 66) 0 0) g8.H
          have d4 : D8 (μ4 (x + 66 + 1)) M := by rw [f1 _ (by omega)]; exact g8.D
          refine zo_ob g8.H.o (by omega) ?_
          refine zo_bn e4 ?_
          refine b_rounds (R := R) g8.H d4 W (by omega) (fun μ5 d5 f2 => ?_)
          refine j_X8_informed_49 ?_
          refine b_inform g8.H d5 ?_
          refine j_X8_informed_95 ?_
          have f3 : FN (x + 66) μ5 μ5 := FN.rf
          obtain ⟨μ7, e7, hB, f4⟩ := b_layBack (μ := μ5) (r := (M.rds R).1.ifm a w) g8.H
          have key := g8.aside hA f1 f2 f3 hB f4
          refine zo_ob g8.H.o (by omega) ?_
          refine zo_bn e7 ?_
          exact zo_rt ⟨μ7, rfl, key.1, by rw [key.2.1 0 (by decide) (by decide)]; exact gt, fun y hy => by rw [key.2.2 y (by omega), zup_c (by omega)]⟩
      · refine op_t 1 2 h ?_ (by decide) (by decide) ?_ hP
        · apply zo_un
          refine j_X7_informed ?_
          refine zo_ob h.a.C.o (by omega) ?_
          refine zo_bn (k_A h.a.C h.a.D h1) ?_
          refine zo_ob h.a.C.o (by omega) ?_
          refine zo_bn (k_W h.a.C h.a.D h2) ?_
          exact zo_be (k_R_no h3) rfl
        · intro S1 μ2 h8
          refine zo_xt ?_
          refine j_X8_informed ?_
          refine zo_ob h8.H.o (by omega) ?_
          refine zo_bn (b_areThere h8.H h8.D) ?_
          refine zo_bn (b_in) ?_
          refine m_f2b h8.H (zbl_nz ⟨h1, h2⟩) (zbl_n (fun z => h3 z)) ?_
          exact ⟨_, _, rfl, FM.u0, zup_at⟩
    · refine op_t 2 1 h ?_ (by decide) (by decide) ?_ hP
      · apply zo_un
        refine j_X7_informed ?_
        refine zo_ob h.a.C.o (by omega) ?_
        refine zo_bn (k_A h.a.C h.a.D h1) ?_
        refine zo_ob h.a.C.o (by omega) ?_
        exact zo_be (k_W_no h.a.C h.a.D h2) rfl
      · intro S1 μ2 h8
        refine zo_xt ?_
        refine j_X8_informed ?_
        refine zo_ob h8.H.o (by omega) ?_
        refine zo_bn (b_areThere h8.H h8.D) ?_
        refine zo_bn (b_in) ?_
        refine m_f2a h8.H (zbl_n (fun z => h2 z.2)) ?_
        exact ⟨_, _, rfl, FM.u0, zup_at⟩
  · refine op_t 2 1 h ?_ (by decide) (by decide) ?_ hP
    · apply zo_un
      refine j_X7_informed ?_
      refine zo_ob h.a.C.o (by omega) ?_
      exact zo_be (k_A_no h.a.C h.a.D h1) rfl
    · intro S1 μ2 h8
      refine zo_xt ?_
      refine j_X8_informed ?_
      refine zo_ob h8.H.o (by omega) ?_
      refine zo_bn (b_areThere h8.H h8.D) ?_
      refine zo_bn (b_in) ?_
      refine m_f2a h8.H (zbl_n (fun z => h1 z.1)) ?_
      exact ⟨_, _, rfl, FM.u0, zup_at⟩
theorem o_bestThen {B x : Int} {S : zG} {μ : zM} {M : zD} {L : List zD} {K : zKs} {inp out : List Int} {c p : Int} {P : zG → zM → Prop} {a : Int} (h : Wd B x S μ M L K inp out c p) (hP : ∀ S1 μ3, Wd B x S1 μ3 M L K inp out c p → P S1 μ3) : zOp x P (f_X7_bestThen x a) (f_X8_bestThen (x + 66) a) [(2, 1)] S μ := by
  have h60 := h.a.D.al
  have h61 := h.a.D.wl
  have W := h.w.M
  by_cases h1 : 0 ≤ a ∧ a < (M.an.length : Int)
  · skip
    refine op_u (v := ((M.dlv 100).1.bst a 0)) h ?_ (by have := bst_rng (M.dlv 100).1 a 0; have := (W.dlv 100).wl; unfold zI; omega) ?_ hP
    · refine zo_xq ?_
      refine j_X7_bestThen ?_
      refine zo_ob h.a.C.o (by omega) ?_
      refine zo_bn (k_A h.a.C h.a.D h1) ?_
      obtain ⟨μ1, e1, d1, f1⟩ := c_try h.a
      refine zo_gr h.a.C.o h.a.C.r4 (by omega) (by omega) ?_
      refine zo_gr h.a.C.o h.a.C.r3 (by omega) (by omega) ?_
      refine zo_ob h.a.ts.o (by omega) ?_
      refine zo_bn e1 ?_
      obtain ⟨μ5, e5, d5, f5⟩ := d_deliverFirst (n := min 100 M.qu.length) (a1 := 100) d1 W (by omega)
      rw [dlv_mn M 100] at e5 d5
      refine zo_gr h.a.C.o h.a.C.r4 (by omega) (by omega) ?_
      refine zo_ob d1.sh.o (by omega) ?_
      refine zo_bn e5 ?_
      obtain ⟨μ6, e6, f6⟩ := c_bestWay (r := 0) h.a.C d5 (W.dlv 100) (by omega) (show 0 ≤ a ∧ a < 6 by omega)
      refine zo_gr h.a.C.o h.a.C.r4 (by omega) (by omega) ?_
      refine zo_ob h.a.C.o (by omega) ?_
      refine zo_bn e6 ?_
      exact zo_rt ⟨μ6, rfl, FT.rt (FR.tr f1 f5) f6, by rw [f6 _ (by omega)]; exact d5.em37⟩
    · intro S1 μ2 h8
      refine zo_xq ?_
      refine j_X8_bestThen ?_
      refine zo_ob h8.H.o (by omega) ?_
      refine zo_bn (b_isAgent h8.H h8.D) ?_
      refine m_p1 h8.H (zbl_nz h1) ?_
      have g8 : W8 S1 (zup μ2 (x + 66) 0 0) (x + 66) M L K inp out c p := FM.u0.w8 h8
      have gt : zup μ2 (x + 66) 0 0 (x + 66) 0 = 0 := zup_at
      obtain ⟨μ4, e4, hA, f1⟩ := b_keepAside (μ := zup μ2 (x + 66) 0 0) g8.H
      have d4 : D8 (μ4 (x + 66 + 1)) M := by rw [f1 _ (by omega)]; exact g8.D
      refine zo_ob g8.H.o (by omega) ?_
      refine zo_bn e4 ?_
      obtain ⟨μ5, e5, d5, f2⟩ := b_deliverAll (n := 100) g8.H d4 W (by decide)
      refine zo_ob g8.H.o (by omega) ?_
      refine zo_bn e5 ?_
      obtain ⟨μ6, e6, f3⟩ := b_bestOf (r := 0) g8.H d5 (W.dlv 100) (show 0 ≤ a ∧ a < 6 by omega) (show μ5 (x + 66) 4 = -1 by rw [f2 _ (by omega), f1 _ (by omega)]; exact g8.w)
      refine zo_ob g8.H.o (by omega) ?_
      refine zo_bn e6 ?_
      obtain ⟨μ7, e7, hB, f4⟩ := b_layBack (μ := μ6) (r := (M.dlv 100).1.bst a 0) g8.H
      have key := g8.aside hA f1 f2 f3 hB f4
      refine zo_ob g8.H.o (by omega) ?_
      refine zo_bn e7 ?_
      exact zo_rt ⟨μ7, rfl, key.1, by rw [key.2.1 0 (by decide) (by decide)]; exact gt, fun y hy => by rw [key.2.2 y (by omega), zup_c (by omega)]⟩
  · refine op_t 2 1 h ?_ (by decide) (by decide) ?_ hP
    · apply zo_un
      refine j_X7_bestThen ?_
      refine zo_ob h.a.C.o (by omega) ?_
      exact zo_be (k_A_no h.a.C h.a.D h1) rfl
    · intro S1 μ2 h8
      refine zo_xt ?_
      refine j_X8_bestThen ?_
      refine zo_ob h8.H.o (by omega) ?_
      refine zo_bn (b_isAgent h8.H h8.D) ?_
      refine m_f1 h8.H (zbl_n (fun z => h1 z)) ?_
      exact ⟨_, _, rfl, FM.u0, zup_at⟩
theorem o_widthAfter {B x : Int} {S : zG} {μ : zM} {M : zD} {L : List zD} {K : zKs} {inp out : List Int} {c p : Int} {P : zG → zM → Prop} {a w n : Int} (h : Wd B x S μ M L K inp out c p) (hB : B + 99 ≤ 1000000) (hP : ∀ S1 μ3, Wd B x S1 μ3 M L K inp out c p → P S1 μ3) : zOp x P (f_X7_widthAfter x a w n) (f_X8_widthAfter (x + 66) a w n) [(2, 1), (1, 2)] S μ := by
  have h60 := h.a.D.al
  have h61 := h.a.D.wl
  have W := h.w.M
  by_cases h1 : 0 ≤ a ∧ a < (M.an.length : Int)
  · skip
    by_cases h2 : 0 ≤ w ∧ w < (M.wn.length : Int)
    · skip
      by_cases h3 : 0 ≤ n ∧ n ≤ 99
      · skip
        refine op_u (v := ((if n = 0 then M else (M.pas n).1).wid a w (-1))) h ?_ (w32_rng _) ?_ hP
        · refine zo_xq ?_
          refine j_X7_widthAfter ?_
          refine zo_ob h.a.C.o (by omega) ?_
          refine zo_bn (k_A h.a.C h.a.D h1) ?_
          refine zo_ob h.a.C.o (by omega) ?_
          refine zo_bn (k_W h.a.C h.a.D h2) ?_
          refine zo_bn (k_R h3) ?_
          by_cases hz : n = 0
          · subst hz
            obtain ⟨μ6, e6, f6⟩ := c_widthOf (w := w) (t := -1) h.a.C h.a.D W (by omega) (show 0 ≤ a ∧ a < 6 by omega)
            have ev : (if (0 : Int) = 0 then M else (M.pas 0).1).wid a w (-1) = M.wid a w (-1) := rfl
            rw [ev]
            refine zo_pos rfl ?_
            refine zo_gr h.a.C.o h.a.C.r3 (by omega) (by omega) ?_
            refine zo_ob h.a.C.o (by omega) ?_
            refine zo_bn e6 ?_
            exact zo_rt ⟨μ6, rfl, FT.rt FR.rf f6, by rw [f6 _ (by omega)]; exact h.a.te⟩
          · have ev : (if n = 0 then M else (M.pas n).1) = (M.pas n).1 := if_neg hz
            rw [ev]
            refine zo_neg hz ?_
            obtain ⟨μ1, e1, d1, f1⟩ := c_try h.a
            refine zo_gr h.a.C.o h.a.C.r4 (by omega) (by omega) ?_
            refine zo_gr h.a.C.o h.a.C.r3 (by omega) (by omega) ?_
            refine zo_ob h.a.ts.o (by omega) ?_
            refine zo_bn e1 ?_
            obtain ⟨μ5, e5, d5, f5⟩ := d_letPass (t := n) d1
            refine zo_gr h.a.C.o h.a.C.r4 (by omega) (by omega) ?_
            refine zo_ob d1.sh.o (by omega) ?_
            refine zo_bn e5 ?_
            obtain ⟨μ6, e6, f6⟩ := c_widthOf (w := w) (t := -1) h.a.C d5 (W.pas h3 hB) (by omega) (show 0 ≤ a ∧ a < 6 by omega)
            refine zo_gr h.a.C.o h.a.C.r4 (by omega) (by omega) ?_
            refine zo_ob h.a.C.o (by omega) ?_
            refine zo_bn e6 ?_
            exact zo_rt ⟨μ6, rfl, FT.rt (FR.tr f1 f5) f6, by rw [f6 _ (by omega)]; exact d5.em37⟩
        · intro S1 μ2 h8
          refine zo_xq ?_
          refine j_X8_widthAfter ?_
          refine zo_ob h8.H.o (by omega) ?_
          refine zo_bn (b_areThere h8.H h8.D) ?_
          refine zo_bn (b_in) ?_
          refine m_p2 h8.H (zbl_nz ⟨h1, h2⟩) (zbl_nz h3) ?_
          have g8 : W8 S1 (zup μ2 (x + 66) 0 0) (x + 66) M L K inp out c p := FM.u0.w8 h8
          have gt : zup μ2 (x + 66) 0 0 (x + 66) 0 = 0 := zup_at
          obtain ⟨μ4, e4, hA, f1⟩ := b_keepAside (μ := zup μ2 (x + 66) 0 0) g8.H
          have d4 : D8 (μ4 (x + 66 + 1)) M := by rw [f1 _ (by omega)]; exact g8.D
          refine zo_ob g8.H.o (by omega) ?_
          refine zo_bn e4 ?_
          by_cases hz : n = 0
          · have ev : (if n = 0 then M else (M.pas n).1) = M := if_pos hz
            rw [ev]
            refine zo_neg (by omega) ?_
            have f2 : FA (x + 66 + 1) μ4 μ4 := FA.rf
            refine j_X8_widthAfter_41 ?_
            obtain ⟨μ6, e6, f3⟩ := b_widthOf (w := w) (x := -1) g8.H d4 W (show 0 ≤ a ∧ a < 6 by omega) (show μ4 (x + 66) 4 = -1 by rw [f1 _ (by omega)]; exact g8.w)
            refine zo_ob g8.H.o (by omega) ?_
            refine zo_bn e6 ?_
            obtain ⟨μ7, e7, hB, f4⟩ := b_layBack (μ := μ6) (r := M.wid a w (-1)) g8.H
            have key := g8.aside hA f1 f2 f3 hB f4
            refine zo_ob g8.H.o (by omega) ?_
            refine zo_bn e7 ?_
            exact zo_rt ⟨μ7, rfl, key.1, by rw [key.2.1 0 (by decide) (by decide)]; exact gt, fun y hy => by rw [key.2.2 y (by omega), zup_c (by omega)]⟩
          · have ev : (if n = 0 then M else (M.pas n).1) = (M.pas n).1 := if_neg hz
            rw [ev]
            refine zo_pos (by omega) ?_
            obtain ⟨μ5, e5, d5, f2⟩ := b_doPass (t := n) g8.H d4
            refine zo_ob g8.H.o (by omega) ?_
            refine zo_bn e5 ?_
            refine j_X8_widthAfter_41 ?_
            obtain ⟨μ6, e6, f3⟩ := b_widthOf (w := w) (x := -1) g8.H d5 (W.pas h3 hB) (show 0 ≤ a ∧ a < 6 by omega) (show μ5 (x + 66) 4 = -1 by rw [f2 _ (by omega), f1 _ (by omega)]; exact g8.w)
            refine zo_ob g8.H.o (by omega) ?_
            refine zo_bn e6 ?_
            obtain ⟨μ7, e7, hB, f4⟩ := b_layBack (μ := μ6) (r := (M.pas n).1.wid a w (-1)) g8.H
            have key := g8.aside hA f1 f2 f3 hB f4
            refine zo_ob g8.H.o (by omega) ?_
            refine zo_bn e7 ?_
            exact zo_rt ⟨μ7, rfl, key.1, by rw [key.2.1 0 (by decide) (by decide)]; exact gt, fun y hy => by rw [key.2.2 y (by omega), zup_c (by omega)]⟩
      · refine op_t 1 2 h ?_ (by decide) (by decide) ?_ hP
        · apply zo_un
          refine j_X7_widthAfter ?_
          refine zo_ob h.a.C.o (by omega) ?_
          refine zo_bn (k_A h.a.C h.a.D h1) ?_
          refine zo_ob h.a.C.o (by omega) ?_
          refine zo_bn (k_W h.a.C h.a.D h2) ?_
          exact zo_be (k_R_no h3) rfl
        · intro S1 μ2 h8
          refine zo_xt ?_
          refine j_X8_widthAfter ?_
          refine zo_ob h8.H.o (by omega) ?_
          refine zo_bn (b_areThere h8.H h8.D) ?_
          refine zo_bn (b_in) ?_
          refine m_f2b h8.H (zbl_nz ⟨h1, h2⟩) (zbl_n (fun z => h3 z)) ?_
          exact ⟨_, _, rfl, FM.u0, zup_at⟩
    · refine op_t 2 1 h ?_ (by decide) (by decide) ?_ hP
      · apply zo_un
        refine j_X7_widthAfter ?_
        refine zo_ob h.a.C.o (by omega) ?_
        refine zo_bn (k_A h.a.C h.a.D h1) ?_
        refine zo_ob h.a.C.o (by omega) ?_
        exact zo_be (k_W_no h.a.C h.a.D h2) rfl
      · intro S1 μ2 h8
        refine zo_xt ?_
        refine j_X8_widthAfter ?_
        refine zo_ob h8.H.o (by omega) ?_
        refine zo_bn (b_areThere h8.H h8.D) ?_
        refine zo_bn (b_in) ?_
        refine m_f2a h8.H (zbl_n (fun z => h2 z.2)) ?_
        exact ⟨_, _, rfl, FM.u0, zup_at⟩
  · refine op_t 2 1 h ?_ (by decide) (by decide) ?_ hP
    · apply zo_un
      refine j_X7_widthAfter ?_
      refine zo_ob h.a.C.o (by omega) ?_
      exact zo_be (k_A_no h.a.C h.a.D h1) rfl
    · intro S1 μ2 h8
      refine zo_xt ?_
      refine j_X8_widthAfter ?_
      refine zo_ob h8.H.o (by omega) ?_
      refine zo_bn (b_areThere h8.H h8.D) ?_
      refine zo_bn (b_in) ?_
      refine m_f2a h8.H (zbl_n (fun z => h1 z.1)) ?_
      exact ⟨_, _, rfl, FM.u0, zup_at⟩
