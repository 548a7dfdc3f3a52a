/-! R5: the law's walk through an agent's choices -/
section R5
variable {B x : Int} {S S1 : zG} {μ μ' μ0 μ1 μ2 : zM} {M : zD} {L : List zD} {K : zKs} {inp out : List Int} {c p a w r : Int} {H : Int → zS → zFn} {Q : zR × zS → Prop} {k i : Nat} {q : zP} {X Y Z : zEn} {e f : Nat × zP} {A : zFn}

theorem wid_e (M : zD) (a w x : Int) : M.wid a w x = (M.bel a w x).2.2 - (M.bel a w x).2.1 := by
  have := bel_rng M a w x
  exact w32_e (by omega)
/-- the best way so far -/
noncomputable def zbk (M : zD) (a : Int) (k : Nat) (j : Int) : Int × Int := zlp (zbst M a j) 0 k (-1, 0)
theorem zbk_s (M : zD) (a : Int) (k : Nat) (j : Int) : zbk M a (k + 1) j = zbst M a j k (zbk M a k j) := zlp_s0 _ _
theorem zbst_y {j : Int} {z : Int × Int} (h : z.1 = -1 ∨ M.val a (k : Int) j < z.2) : zbst M a j k z = ((k : Int), M.val a (k : Int) j) := if_pos h
theorem zbst_n {j : Int} {z : Int × Int} (h : ¬ (z.1 = -1 ∨ M.val a (k : Int) j < z.2)) : zbst M a j k z = z := if_neg h
theorem zbk_ok (M : zD) (a : Int) (j : Int) : ∀ k : Nat, (k = 0 ∧ (zbk M a k j).1 = -1) ∨ ((0 ≤ (zbk M a k j).1 ∧ (zbk M a k j).1 < (k : Int)) ∧ (zbk M a k j).2 = M.val a (zbk M a k j).1 j) := by
  intro k
  induction k with
  | zero => exact Or.inl ⟨rfl, rfl⟩
  | succ k ih =>
    right
    rw [zbk_s]
    by_cases h : (zbk M a k j).1 = -1 ∨ M.val a (k : Int) j < (zbk M a k j).2
    · rw [zbst_y h]
      exact ⟨⟨by show 0 ≤ (k : Int); omega, by show (k : Int) < ((k + 1 : Nat) : Int); omega⟩, rfl⟩
    · rw [zbst_n h]
      rcases ih with ih | ih
      · exact absurd (Or.inl ih.2) h
      · exact ⟨by omega, ih.2⟩
/-- one more way -/
theorem zbk_y {j : Int} (h : (zbk M a k j).1 < 0 ∨ M.val a (k : Int) j < M.val a (zbk M a k j).1 j) : (zbk M a (k + 1) j).1 = (k : Int) := by
  rw [zbk_s, zbst_y]
  have := zbk_ok M a j k
  rcases this with z | z
  · exact Or.inl z.2
  · rcases h with h | h
    · omega
    · exact Or.inr (by rw [z.2]; exact h)
theorem zbk_n {j : Int} (h1 : ¬ (zbk M a k j).1 < 0) (h : ¬ M.val a (k : Int) j < M.val a (zbk M a k j).1 j) : (zbk M a (k + 1) j).1 = (zbk M a k j).1 := by
  rw [zbk_s, zbst_n]
  have := zbk_ok M a j k
  rcases this with z | z
  · omega
  · rw [z.2]
    omega
theorem val0 (M : zD) (a w : Int) : M.val a w 0 = (M.bel a w (-1)).2.2 := rfl
theorem val1 (M : zD) (a w : Int) : M.val a w 1 = (M.bel a w (-1)).2.1 := rfl
theorem val2 (M : zD) (a w : Int) : M.val a w 2 = w32 ((M.bel a w (-1)).2.1 + (M.bel a w (-1)).2.2) := rfl
/-- the law's own array of three -/
def Rc (x : Int) (S S1 : zG) (μ0 : zM) (r z0 z1 z2 : Int) (μ : zM) : Prop := Ext x S S1 μ0 μ ∧ μ r 0 = z0 ∧ μ r 1 = z1 ∧ μ r 2 = z2
theorem Rc.fv {z0 z1 z2 : Int} (h : Rc x S S1 μ0 r z0 z1 z2 μ) (hr : x + 12 ≤ r) (f : FV (x + 5) μ μ') : Rc x S S1 μ0 r z0 z1 z2 μ' := by
  have e := f r (by omega)
  exact ⟨h.1.fv f, (congrFun e 0).trans h.2.1, (congrFun e 1).trans h.2.2.1, (congrFun e 2).trans h.2.2.2⟩
theorem Rc.w0 {z0 z1 z2 v : Int} (h : Rc x S S1 μ0 r z0 z1 z2 μ) (hr : S.2.2 ≤ r) : Rc x S S1 μ0 r v z1 z2 (zup μ r 0 v) := ⟨h.1.up hr, zup_at, (zup_j (by decide)).trans h.2.2.1, (zup_j (by decide)).trans h.2.2.2⟩
theorem Rc.w1 {z0 z1 z2 v : Int} (h : Rc x S S1 μ0 r z0 z1 z2 μ) (hr : S.2.2 ≤ r) : Rc x S S1 μ0 r z0 v z2 (zup μ r 1 v) := ⟨h.1.up hr, (zup_j (by decide)).trans h.2.1, zup_at, (zup_j (by decide)).trans h.2.2.2⟩
theorem Rc.w2 {z0 z1 z2 v : Int} (h : Rc x S S1 μ0 r z0 z1 z2 μ) (hr : S.2.2 ≤ r) : Rc x S S1 μ0 r z0 z1 v (zup μ r 2 v) := ⟨h.1.up hr, (zup_j (by decide)).trans h.2.1, (zup_j (by decide)).trans h.2.2.1, zup_at⟩
theorem own_eq (W : WF B M) {own : Int} (h : (own = -1 ∧ ∀ (j : Nat) (q : zP), (M.li a)[j]? = some q → ¬ zq a w q) ∨ ∃ (j : Nat) (q : zP), own = (j : Int) ∧ (M.li a)[j]? = some q ∧ zq a w q) : zfi (zq a w) (zqD a w) (M.li a) 0 = own := by
  rcases zfi_cs a w (M.li a) with ⟨h1, h2, _⟩ | ⟨k, p, h1, h2, _, h4, _⟩
  · rcases h with ⟨h5, _⟩ | ⟨j, q, _, h6, h7⟩
    · exact h1.trans h5.symm
    · have h8 := List.find?_eq_none.mp h2 q (List.mem_of_getElem? h6)
      exact absurd (show zqb a w q = true from @decide_eq_true (q 0 = a ∧ q 3 = w) _ h7) h8
  · rcases h with ⟨_, h6⟩ | ⟨j, q, h5, h6, h7⟩
    · exact absurd h4 (h6 k p h2)
    · rw [h1, h5]
      have hn := W.nd a
      have hk := (List.getElem?_eq_some_iff.mp h2)
      have hj := (List.getElem?_eq_some_iff.mp h6)
      obtain ⟨k1, k2⟩ := hk
      obtain ⟨j1, j2⟩ := hj
      have hp := List.pairwise_iff_getElem.mp hn
      rcases Nat.lt_trichotomy k j with z | z | z
      · exact absurd (by rw [k2, j2]; exact ⟨h4.1.trans h7.1.symm, h4.2.trans h7.2.symm⟩) (hp k j k1 j1 z)
      · rw [z]
      · exact absurd (by rw [k2, j2]; exact ⟨h7.1.trans h4.1.symm, h7.2.trans h4.2.symm⟩) (hp j k j1 k1 z)
theorem zsvs_y {c : Int} (h : zfi (zq a (k : Int)) (zqD a (k : Int)) (M.li a) 0 = -1 ∧ ¬ M.wid a (k : Int) (-1) = 999) : zsvs M a k c = c + 1 := if_pos h
theorem zsvs_n {c : Int} (h : ¬ (zfi (zq a (k : Int)) (zqD a (k : Int)) (M.li a) 0 = -1 ∧ ¬ M.wid a (k : Int) (-1) = 999)) : zsvs M a k c = c := if_neg h
theorem svd_rng (M : zD) (a : Int) : ∀ k : Nat, 0 ≤ zlp (zsvs M a) 0 k 0 ∧ zlp (zsvs M a) 0 k 0 ≤ (k : Int) := by
  intro k
  induction k with
  | zero => exact ⟨Int.le_refl _, Int.le_refl _⟩
  | succ k ih =>
    rw [zlp_s0]
    by_cases h : zfi (zq a (k : Int)) (zqD a (k : Int)) (M.li a) 0 = -1 ∧ ¬ M.wid a (k : Int) (-1) = 999
    · rw [zsvs_y h]
      omega
    · rw [zsvs_n h]
      omega
theorem riv_rng (M : zD) (a b h : Int) {N : Nat} (hN : N ≤ 6) : ∀ k : Nat, k ≤ N → 0 ≤ zlp (zriv M a b h) 0 k 0 ∧ zlp (zriv M a b h) 0 k 0 < 64 := by
  intro k
  induction k with
  | zero => exact fun _ => ⟨Int.le_refl _, show (0 : Int) < 64 by decide⟩
  | succ k ih =>
    intro hk
    have i := ih (by omega)
    rw [zlp_s0]
    unfold zriv
    split
    · exact (or_mb i ⟨by omega, by omega⟩).1
    · exact i
theorem ch_end (h0 : Wd B x S μ0 M L K inp out c p) (ha : 0 ≤ a ∧ a < (M.an.length : Int)) (hr : r = S.2.2) (hr1 : S1.1 r = some (1, 3)) (R0 : Rc x S S1 μ0 r (M.bst a 0) (M.bst a 1) (M.bst a 2) μ) : zo (f_L_chooses_290 x a r (M.svd a) (S1, μ)) (Dn B x M L K inp out c p) := by
  have W := h0.w.M
  have hx := h0.nn
  have hwl := W.wl
  have hrx : x + 12 ≤ r := by omega
  have hb0 := zbk_ok M a 0 M.wn.length
  have hb1 := zbk_ok M a 1 M.wn.length
  replace hb0 : (M.wn.length = 0 ∧ M.bst a 0 = -1) ∨ ((0 ≤ M.bst a 0 ∧ M.bst a 0 < (M.wn.length : Int)) ∧ _) := hb0
  replace hb1 : (M.wn.length = 0 ∧ M.bst a 1 = -1) ∨ ((0 ≤ M.bst a 1 ∧ M.bst a 1 < (M.wn.length : Int)) ∧ _) := hb1
  have hd := (h0.ext R0.1).sd
  refine j_L_chooses_290 ?_
  refine y_saved hd ha (fun μ1 h1 => ?_)
  refine zo_pos rfl ?_
  have R1 := R0.fv hrx h1.2
  refine zo_ld hr1 (by decide) R1.2.1 ?_
  refine zo_ite (fun hn => ?_) (fun hn => ?_)
  · have hw0 : M.wn.length = 0 ∧ M.bst a 0 = -1 := by
      rcases hb0 with z | z
      · exact z
      · omega
    have er : M.riv a (M.bst a 0) = 0 := if_pos hw0.2
    refine y_rivals h1 ha (fun μ2 h2 => ?_)
    refine zo_pos er ?_
    refine y_nextProbe h2 ha (fun μ3 h3 => ?_)
    refine zo_pos (if_pos er) ?_
    refine y_regret h3 ha (fun μ4 h4 => ?_)
    refine zo_pos (if_pos hw0.1) ?_
    exact zo_rt ⟨_, _, rfl, h4.1⟩
  · have hB0 : 0 ≤ M.bst a 0 ∧ M.bst a 0 < (M.wn.length : Int) := by
      rcases hb0 with z | z
      · omega
      · exact z.1
    have hB1 : 0 ≤ M.bst a 1 ∧ M.bst a 1 < (M.wn.length : Int) := by
      rcases hb1 with z | z
      · omega
      · exact z.1
    have er : M.riv a (M.bst a 0) = zlp (zriv M a (M.bst a 0) (M.bel a (M.bst a 0) (-1)).2.2) 0 M.wn.length 0 := if_neg (by omega)
    have hrr := riv_rng M a (M.bst a 0) (M.bel a (M.bst a 0) (-1)).2.2 hwl
    refine zo_lk (F := fun m (b : Int × Int × zM) => f_L_chooses_345 m x a r b.1 b.2.1 (S1, b.2.2)) (b0 := (0, 0, μ1)) M.wn.length (fun k b => b.2.1 = (k : Int) ∧ b.1 = zlp (zriv M a (M.bst a 0) (M.bel a (M.bst a 0) (-1)).2.2) 0 k 0 ∧ Rc x S S1 μ0 r (M.bst a 0) (M.bst a 1) (M.bst a 2) b.2.2) ?_ ⟨rfl, rfl, R1⟩ (by show M.wn.length < 1000000; omega)
    rintro n k ⟨ms, w, μ2⟩ hk ⟨hw, hms, R2⟩ ih
    dsimp only at hw hms R2 ih ⊢
    subst hw
    have hd2 := (h0.ext R2.1).sd
    have hm6 := hrr k hk
    rw [← hms] at hm6
    refine j_L_chooses_345 ?_
    refine y_property1 hd2 (fun μ3 h3 => ?_)
    have R3 := R2.fv hrx h3.2
    refine zo_ite (fun hk2 => ?_) (fun hk2 => ?_)
    · have hk3 : k < M.wn.length := by omega
      have hkw : 0 ≤ (k : Int) ∧ (k : Int) < (M.wn.length : Int) := by omega
      have same : ∀ {μ4 : zM}, Sd B x S1 μ2 μ4 M L K inp out c p → ¬ (¬ (k : Int) = M.bst a 0 ∧ (M.bel a (k : Int) (-1)).2.1 < (M.bel a (M.bst a 0) (-1)).2.2) → zo (f_L_chooses_392 (f_L_chooses_345 n) x a r (k : Int) ms (S1, μ4)) (Dn B x M L K inp out c p) := by
        intro μ4 h4 hc
        refine j_L_chooses_392 ?_
        refine j_L_chooses_393 ?_
        rw [or_0 hm6, w32_s (by omega)]
        refine ih hk3 (ms, ((k + 1 : Nat) : Int), μ4) ⟨rfl, ?_, R2.fv hrx h4.2⟩
        rw [zlp_s0, ← hms]
        exact (if_neg hc).symm
      refine zo_ld hr1 (by decide) R3.2.1 ?_
      refine zo_ite (fun c1 => same h3 (fun z => z.1 c1)) (fun c1 => ?_)
      refine y_belief0 h3 ha hkw (fun μ4 h4 => ?_)
      refine zo_ld hr1 (by decide) (R2.fv hrx h4.2).2.1 ?_
      refine y_belief1 h4 ha hB0 (fun μ5 h5 => ?_)
      refine zo_ite (fun c2 => ?_) (fun c2 => same h5 (fun z => c2 z.2))
      refine j_L_chooses_393 ?_
      rw [w32_s (by omega)]
      refine ih hk3 (zor ms (zshl 1 (k : Int)), ((k + 1 : Nat) : Int), μ5) ⟨rfl, ?_, R2.fv hrx h5.2⟩
      rw [zlp_s0, ← hms]
      exact (if_pos ⟨c1, c2⟩).symm
    · have hk3 : k = M.wn.length := by omega
      rw [hk3, ← er] at hms
      rw [hms]
      rw [hms] at hm6
      refine j_L_chooses_402 ?_
      refine zo_lk (F := fun m (b : Int × Int × zM) => f_L_chooses_408 m x a r (M.riv a (M.bst a 0)) b.1 b.2.1 (S1, b.2.2)) (b0 := (-1, 0, μ3)) M.wn.length (fun k b => b.2.1 = (k : Int) ∧ b.1 = (zlp (znps M a (M.bst a 0) (M.riv a (M.bst a 0))) 0 k (-1, -1)).1 ∧ ((b.1 = -1 ∧ (zlp (znps M a (M.bst a 0) (M.riv a (M.bst a 0))) 0 k (-1, -1)).2 = -1) ∨ ((0 ≤ b.1 ∧ b.1 < (k : Int)) ∧ (zlp (znps M a (M.bst a 0) (M.riv a (M.bst a 0))) 0 k (-1, -1)).2 = M.wid a b.1 (-1))) ∧ Rc x S S1 μ0 r (M.bst a 0) (M.bst a 1) (M.bst a 2) b.2.2) ?_ ⟨rfl, rfl, Or.inl ⟨rfl, rfl⟩, R3⟩ (by show M.wn.length < 1000000; omega)
      rintro n k ⟨pr, w, μ4⟩ hk ⟨hw, hpr, hpw, R4⟩ ih
      dsimp only at hw hpr hpw R4 ih ⊢
      subst hw
      have hd4 := (h0.ext R4.1).sd
      refine j_L_chooses_408 ?_
      refine y_property1 hd4 (fun μ5 h5 => ?_)
      have R5 := R4.fv hrx h5.2
      refine zo_ite (fun hk2 => ?_) (fun hk2 => ?_)
      · have hk3 : k < M.wn.length := by omega
        have hkw : 0 ≤ (k : Int) ∧ (k : Int) < (M.wn.length : Int) := by omega
        have hbit := (or_mb hm6 (show 0 ≤ M.bst a 0 ∧ M.bst a 0 < 6 by omega)).2 (k : Int) (by omega) (by omega)
        have hwd := wid_e M a (k : Int) (-1)
        have hwr := bel_rng M a (k : Int) (-1)
        have no : ∀ {μ6 : zM}, Sd B x S1 μ4 μ6 M L K inp out c p → ¬ (((k : Int) = M.bst a 0 ∨ zand (zshr (M.riv a (M.bst a 0)) (k : Int)) 1 = 1) ∧ (zlp (znps M a (M.bst a 0) (M.riv a (M.bst a 0))) 0 k (-1, -1)).2 < M.wid a (k : Int) (-1)) → zo (f_L_chooses_461 (f_L_chooses_408 n) x a r (M.riv a (M.bst a 0)) pr (k : Int) (S1, μ6)) (Dn B x M L K inp out c p) := by
          intro μ6 h6 hc
          refine j_L_chooses_461 ?_
          rw [w32_s (by omega)]
          have e : znps M a (M.bst a 0) (M.riv a (M.bst a 0)) k (zlp (znps M a (M.bst a 0) (M.riv a (M.bst a 0))) 0 k (-1, -1)) = zlp (znps M a (M.bst a 0) (M.riv a (M.bst a 0))) 0 k (-1, -1) := if_neg hc
          refine ih hk3 (pr, ((k + 1 : Nat) : Int), μ6) ⟨rfl, ?_, ?_, R4.fv hrx h6.2⟩
          · rw [zlp_s0, e]
            exact hpr
          · rw [zlp_s0, e]
            rcases hpw with z | z
            · exact Or.inl z
            · exact Or.inr ⟨⟨z.1.1, by show pr < ((k + 1 : Nat) : Int); omega⟩, z.2⟩
        have yes : ∀ {μ6 : zM}, Sd B x S1 μ4 μ6 M L K inp out c p → (((k : Int) = M.bst a 0 ∨ zand (zshr (M.riv a (M.bst a 0)) (k : Int)) 1 = 1) ∧ (zlp (znps M a (M.bst a 0) (M.riv a (M.bst a 0))) 0 k (-1, -1)).2 < M.wid a (k : Int) (-1)) → zo (f_L_chooses_457 (f_L_chooses_408 n) x a r (M.riv a (M.bst a 0)) (k : Int) (S1, μ6)) (Dn B x M L K inp out c p) := by
          intro μ6 h6 hc
          refine j_L_chooses_457 ?_
          refine j_L_chooses_461 ?_
          rw [w32_s (by omega)]
          have e : znps M a (M.bst a 0) (M.riv a (M.bst a 0)) k (zlp (znps M a (M.bst a 0) (M.riv a (M.bst a 0))) 0 k (-1, -1)) = ((k : Int), M.wid a (k : Int) (-1)) := if_pos hc
          refine ih hk3 ((k : Int), ((k + 1 : Nat) : Int), μ6) ⟨rfl, ?_, ?_, R4.fv hrx h6.2⟩
          · rw [zlp_s0, e]
          · rw [zlp_s0, e]
            exact Or.inr ⟨⟨by show 0 ≤ (k : Int); omega, by show (k : Int) < ((k + 1 : Nat) : Int); omega⟩, rfl⟩
        refine zo_ld hr1 (by decide) R5.2.1 ?_
        refine zo_ite (fun c1 => ?_) (fun c1 => no h5 (fun z => c1 (hbit.mpr (z.1.elim (fun y => Or.inr y.symm) Or.inl))))
        have hin : (k : Int) = M.bst a 0 ∨ zand (zshr (M.riv a (M.bst a 0)) (k : Int)) 1 = 1 := (hbit.mp c1).elim Or.inr (fun y => Or.inl y.symm)
        refine zo_ite (fun c2 => ?_) (fun c2 => ?_)
        · refine yes h5 ⟨hin, ?_⟩
          rcases hpw with z | z
          · rw [z.2, hwd]
            omega
          · omega
        · have hpq : (0 ≤ pr ∧ pr < (k : Int)) ∧ (zlp (znps M a (M.bst a 0) (M.riv a (M.bst a 0))) 0 k (-1, -1)).2 = M.wid a pr (-1) := by
            rcases hpw with z | z
            · omega
            · exact z
          refine y_width h5 ha hkw (fun μ6 h6 => ?_)
          refine y_width h6 ha (w := pr) ⟨hpq.1.1, by omega⟩ (fun μ7 h7 => ?_)
          refine zo_ite (fun c3 => yes h7 ⟨hin, by rw [hpq.2]; exact c3⟩) (fun c3 => no h7 (fun z => c3 (by rw [← hpq.2]; exact z.2)))
      · have hk3 : k = M.wn.length := by omega
        have fin : ∀ {μ6 : zM} {v : Int}, Sd B x S1 μ4 μ6 M L K inp out c p → M.nxp a = v → zo (f_L_chooses_493 x a r (M.nxp a) v (S1, μ6)) (Dn B x M L K inp out c p) := by
          intro μ6 v h6 hv
          refine j_L_chooses_493 ?_
          refine zo_pos hv ?_
          refine y_regret h6 ha (fun μ7 h7 => ?_)
          refine zo_ld hr1 (by decide) (R4.fv hrx h7.2).2.1 ?_
          refine y_belief1 h7 ha hB0 (fun μ8 h8 => ?_)
          refine zo_ld hr1 (by decide) (R4.fv hrx h8.2).2.2.1 ?_
          refine y_belief0 h8 ha hB1 (fun μ9 h9 => ?_)
          refine zo_pos (if_neg (by omega)) ?_
          exact zo_rt ⟨_, _, rfl, h9.1⟩
        refine j_L_chooses_467 ?_
        refine y_rivals h5 ha (fun μ6 h6 => ?_)
        refine zo_pos rfl ?_
        refine y_nextProbe h6 ha (fun μ7 h7 => ?_)
        refine zo_ite (fun c1 => fin h7 (if_pos c1)) (fun c1 => fin h7 ?_)
        rw [hpr, hk3]
        exact if_neg c1
end R5
