/-! R6: the ways of an agent, what all have in common, holds -/
section R6
variable {B x : Int} {S S1 : zG} {μ μ' μ0 μ1 μ2 : zM} {M : zD} {L : List zD} {K : zKs} {inp out : List Int} {c p a w r : Int} {H : Int → zS → zFn} {Q : zR × zS → Prop} {k i : Nat} {q : zP} {X Y Z : zEn} {e f : Nat × zP} {A : zFn}

theorem l_chooses (h0 : Wd B x S μ0 M L K inp out c p) (ha : 0 ≤ a ∧ a < (M.an.length : Int)) : zo (f_L_chooses x a (S, μ0)) (Dn B x M L K inp out c p) := by
  have W := h0.w.M
  have hx := h0.nn
  have hwl := W.wl
  have hl36 := W.len a
  refine j_L_chooses ?_
  refine y_na (x := x) (by decide) (fun S1 μ1 e1 nx1 hr1 _ => ?_)
  have hrx : x + 12 ≤ S.2.2 := by omega
  refine zo_si hr1 (by decide) ?_
  refine zo_si hr1 (by decide) ?_
  refine zo_si hr1 (by decide) ?_
  have Rb : Rc x S S1 μ0 S.2.2 (zbk M a 0 0).1 (zbk M a 0 1).1 (zbk M a 0 2).1 (zup (zup (zup μ1 S.2.2 0 (-1)) S.2.2 1 (-1)) S.2.2 2 (-1)) := by
    have Ra : Rc x S S1 μ0 S.2.2 (μ1 S.2.2 0) (μ1 S.2.2 1) (μ1 S.2.2 2) μ1 := ⟨e1, rfl, rfl, rfl⟩
    exact ((Ra.w0 (Int.le_refl _)).w1 (Int.le_refl _)).w2 (Int.le_refl _)
  refine zo_lk (F := fun m (b : Int × Int × zM) => f_L_chooses_21 m x a S.2.2 b.1 b.2.1 (S1, b.2.2)) (b0 := (0, 0, _)) M.wn.length (fun k b => b.2.1 = (k : Int) ∧ b.1 = zlp (zsvs M a) 0 k 0 ∧ Rc x S S1 μ0 S.2.2 (zbk M a k 0).1 (zbk M a k 1).1 (zbk M a k 2).1 b.2.2) ?_ ⟨rfl, rfl, Rb⟩ (by show M.wn.length < 1000000; omega)
  rintro n k ⟨sv, w, μ2⟩ hk ⟨hw, hsv, R2⟩ ih
  dsimp only at hw hsv R2 ih ⊢
  subst hw
  have hd := (h0.ext R2.1).sd
  have hsr := svd_rng M a k
  rw [← hsv] at hsr
  refine j_L_chooses_21 ?_
  refine y_property1 hd (fun μ3 h3 => ?_)
  refine zo_ite (fun hk2 => ?_) (fun hk2 => ?_)
  · have hk3 : k < M.wn.length := by omega
    have hkw : 0 ≤ (k : Int) ∧ (k : Int) < (M.wn.length : Int) := by omega
    have z0 := zbk_ok M a 0 k
    have z1 := zbk_ok M a 1 k
    have z2 := zbk_ok M a 2 k
    have hwd := wid_e M a (k : Int) (-1)
    have hwr := bel_rng M a (k : Int) (-1)
    have p156 : ∀ {v : Int} {μ4 : zM}, Rc x S S1 μ0 S.2.2 (zbk M a (k + 1) 0).1 (zbk M a (k + 1) 1).1 (zbk M a k 2).1 μ4 → (zbk M a (k + 1) 2).1 = v → zo (f_L_chooses_156 (f_L_chooses_21 n) x a S.2.2 sv (k : Int) (M.bel a (k : Int) (-1)).2.1 (M.bel a (k : Int) (-1)).2.2 S.2.2 2 v (S1, μ4)) (Dn B x M L K inp out c p) := by
      intro v μ4 R4 hv
      refine j_L_chooses_156 ?_
      refine zo_si hr1 (by decide) ?_
      have R5 := R4.w2 (v := v) (Int.le_refl _)
      rw [← hv] at R5 ⊢
      refine zo_lk (F := fun m (b : Int × Int × zM) => f_L_chooses_163 (f_L_chooses_21 n) m x a S.2.2 sv (k : Int) (M.bel a (k : Int) (-1)).2.1 (M.bel a (k : Int) (-1)).2.2 b.1 b.2.1 (S1, b.2.2)) (b0 := (-1, 0, _)) (M.li a).length (fun i b => b.2.1 = (i : Int) ∧ ((b.1 = -1 ∧ ∀ (j : Nat) (q : zP), j < i → (M.li a)[j]? = some q → ¬ zq a (k : Int) q) ∨ ∃ (j : Nat) (q : zP), j < i ∧ b.1 = (j : Int) ∧ (M.li a)[j]? = some q ∧ zq a (k : Int) q) ∧ Rc x S S1 μ0 S.2.2 (zbk M a (k + 1) 0).1 (zbk M a (k + 1) 1).1 (zbk M a (k + 1) 2).1 b.2.2) ?_ ⟨rfl, Or.inl ⟨rfl, fun j q hj _ => absurd hj (by omega)⟩, R5⟩ (by show (M.li a).length < 1000000; omega)
      rintro n2 i ⟨own, ii, μ5⟩ hi ⟨hii, hown, R6⟩ ih2
      dsimp only at hii hown R6 ih2 ⊢
      subst hii
      have hd5 := (h0.ext R6.1).sd
      refine j_L_chooses_163 ?_
      refine y_reports hd5 ha (fun μ6 h6 => ?_)
      refine zo_ite (fun hi2 => ?_) (fun hi2 => ?_)
      · have hi3 : i < (M.li a).length := by omega
        have hq : (M.li a)[i]? = some (M.li a)[i] := List.getElem?_eq_getElem hi3
        generalize (M.li a)[i] = q at hq
        have skip : ∀ {μ7 : zM}, Sd B x S1 μ5 μ7 M L K inp out c p → ¬ zq a (k : Int) q → zo (f_L_chooses_203 (f_L_chooses_21 n) (f_L_chooses_163 (f_L_chooses_21 n) n2) x a S.2.2 sv (k : Int) (M.bel a (k : Int) (-1)).2.1 (M.bel a (k : Int) (-1)).2.2 own (i : Int) (S1, μ7)) (Dn B x M L K inp out c p) := by
          intro μ7 h7 hz
          refine j_L_chooses_203 ?_
          refine j_L_chooses_205 ?_
          rw [w32_s (by omega)]
          refine ih2 hi3 (own, ((i + 1 : Nat) : Int), μ7) ⟨rfl, ?_, R6.fv hrx h7.2⟩
          rcases hown with ⟨g1, g2⟩ | ⟨j, r, g1, g2, g3, g4⟩
          · refine Or.inl ⟨g1, fun j r hj hr => ?_⟩
            by_cases hji : j = i
            · rw [hji] at hr
              rw [Option.some.inj (hr.symm.trans hq)]
              exact hz
            · exact g2 j r (by omega) hr
          · exact Or.inr ⟨j, r, by omega, g2, g3, g4⟩
        refine y_report0 h6 hq ha (fun μ7 h7 => ?_)
        refine zo_ite (fun c1 => ?_) (fun c1 => skip h7 (fun z => c1 z.1))
        refine y_report3 h7 hq ha (fun μ8 h8 => ?_)
        refine zo_ite (fun c2 => ?_) (fun c2 => skip h8 (fun z => c2 z.2))
        refine j_L_chooses_205 ?_
        rw [w32_s (by omega)]
        exact ih2 hi3 ((i : Int), ((i + 1 : Nat) : Int), μ8) ⟨rfl, Or.inr ⟨i, q, by omega, rfl, hq, c1, c2⟩, R6.fv hrx h8.2⟩
      · have hi3 : i = (M.li a).length := by omega
        have hlt : ∀ {j : Nat} {q : zP}, (M.li a)[j]? = some q → j < i := fun hj => by
          rw [hi3]
          exact (List.getElem?_eq_some_iff.mp hj).1
        have hoe := own_eq (a := a) (w := (k : Int)) (own := own) W (by
          rcases hown with ⟨g1, g2⟩ | ⟨j, r, g1, g2, g3, g4⟩
          · exact Or.inl ⟨g1, fun j q hj => g2 j q (hlt hj) hj⟩
          · exact Or.inr ⟨j, r, g2, g3, g4⟩)
        have hon : own = -1 ∨ 0 ≤ own := by
          rcases hown with ⟨g1, g2⟩ | ⟨j, r, g1, g2, g3, g4⟩
          · exact Or.inl g1
          · exact Or.inr (by omega)
        have y1 : ∀ {μ7 : zM}, Sd B x S1 μ5 μ7 M L K inp out c p → (zfi (zq a (k : Int)) (zqD a (k : Int)) (M.li a) 0 = -1 ∧ ¬ M.wid a (k : Int) (-1) = 999) → zo (f_L_chooses_246 (f_L_chooses_21 n) x a S.2.2 (k : Int) sv (S1, μ7)) (Dn B x M L K inp out c p) := by
          intro μ7 h7 hz
          refine j_L_chooses_246 ?_
          refine j_L_chooses_251 ?_
          rw [w32_s (by omega), w32_e (z := sv + 1) (by omega)]
          refine ih hk3 (sv + 1, ((k + 1 : Nat) : Int), μ7) ⟨rfl, ?_, R6.fv hrx h7.2⟩
          rw [zlp_s0, zsvs_y hz, ← hsv]
        have y0 : ∀ {μ7 : zM}, Sd B x S1 μ5 μ7 M L K inp out c p → ¬ (zfi (zq a (k : Int)) (zqD a (k : Int)) (M.li a) 0 = -1 ∧ ¬ M.wid a (k : Int) (-1) = 999) → zo (f_L_chooses_250 (f_L_chooses_21 n) x a S.2.2 (k : Int) sv (S1, μ7)) (Dn B x M L K inp out c p) := by
          intro μ7 h7 hz
          refine j_L_chooses_250 ?_
          refine j_L_chooses_251 ?_
          rw [w32_s (by omega), w32_e (z := sv + 0) (by omega)]
          refine ih hk3 (sv + 0, ((k + 1 : Nat) : Int), μ7) ⟨rfl, ?_, R6.fv hrx h7.2⟩
          rw [zlp_s0, zsvs_n hz, ← hsv]
          exact Int.add_zero _
        refine j_L_chooses_213 ?_
        refine y_own h6 ha hkw (fun μ7 h7 => ?_)
        refine zo_pos hoe ?_
        rw [hoe, hwd] at y1 y0
        refine zo_ite (fun c1 => ?_) (fun c1 => y0 h7 (fun z => by omega))
        refine zo_ite (fun c2 => y1 h7 ⟨by omega, by omega⟩) (fun c2 => ?_)
        refine zo_ite (fun c3 => y1 h7 ⟨by omega, by omega⟩) (fun c3 => y0 h7 (fun z => by omega))
    have p112 : ∀ {v : Int} {μ4 : zM}, Rc x S S1 μ0 S.2.2 (zbk M a (k + 1) 0).1 (zbk M a k 1).1 (zbk M a k 2).1 μ4 → (zbk M a (k + 1) 1).1 = v → zo (f_L_chooses_112 (f_L_chooses_21 n) x a S.2.2 sv (k : Int) (M.bel a (k : Int) (-1)).2.1 (M.bel a (k : Int) (-1)).2.2 S.2.2 1 v (S1, μ4)) (Dn B x M L K inp out c p) := by
      intro v μ4 R4 hv
      refine j_L_chooses_112 ?_
      refine zo_si hr1 (by decide) ?_
      have R5 := R4.w1 (v := v) (Int.le_refl _)
      rw [← hv] at R5 ⊢
      have hd5 := (h0.ext R5.1).sd
      refine zo_ld hr1 (by decide) R5.2.2.2 ?_
      refine zo_ite (fun c1 => ?_) (fun c1 => ?_)
      · refine j_L_chooses_148 ?_
        exact p156 R5 (zbk_y (Or.inl c1))
      · have hz : 0 ≤ (zbk M a k 2).1 ∧ (zbk M a k 2).1 < (M.wn.length : Int) := by
          rcases z2 with z | z <;> omega
        refine zo_ld hr1 (by decide) R5.2.2.2 ?_
        refine y_belief0 hd5 ha hz (fun μ6 h6 => ?_)
        refine zo_ld hr1 (by decide) (R5.fv hrx h6.2).2.2.2 ?_
        refine y_belief1 h6 ha hz (fun μ7 h7 => ?_)
        refine zo_ite (fun c2 => ?_) (fun c2 => ?_)
        · refine j_L_chooses_148 ?_
          exact p156 (R5.fv hrx h7.2) (zbk_y (Or.inr c2))
        · refine zo_ld hr1 (by decide) (R5.fv hrx h7.2).2.2.2 ?_
          exact p156 (R5.fv hrx h7.2) (zbk_n c1 c2)
    have p81 : ∀ {v : Int} {μ4 : zM}, Rc x S S1 μ0 S.2.2 (zbk M a k 0).1 (zbk M a k 1).1 (zbk M a k 2).1 μ4 → (zbk M a (k + 1) 0).1 = v → zo (f_L_chooses_81 (f_L_chooses_21 n) x a S.2.2 sv (k : Int) (M.bel a (k : Int) (-1)).2.1 (M.bel a (k : Int) (-1)).2.2 S.2.2 0 v (S1, μ4)) (Dn B x M L K inp out c p) := by
      intro v μ4 R4 hv
      refine j_L_chooses_81 ?_
      refine zo_si hr1 (by decide) ?_
      have R5 := R4.w0 (v := v) (Int.le_refl _)
      rw [← hv] at R5 ⊢
      have hd5 := (h0.ext R5.1).sd
      refine zo_ld hr1 (by decide) R5.2.2.1 ?_
      refine zo_ite (fun c1 => ?_) (fun c1 => ?_)
      · refine j_L_chooses_104 ?_
        exact p112 R5 (zbk_y (Or.inl c1))
      · have hz : 0 ≤ (zbk M a k 1).1 ∧ (zbk M a k 1).1 < (M.wn.length : Int) := by
          rcases z1 with z | z <;> omega
        refine zo_ld hr1 (by decide) R5.2.2.1 ?_
        refine y_belief0 hd5 ha hz (fun μ6 h6 => ?_)
        refine zo_ite (fun c2 => ?_) (fun c2 => ?_)
        · refine j_L_chooses_104 ?_
          exact p112 (R5.fv hrx h6.2) (zbk_y (Or.inr c2))
        · refine zo_ld hr1 (by decide) (R5.fv hrx h6.2).2.2.1 ?_
          exact p112 (R5.fv hrx h6.2) (zbk_n c1 c2)
    refine y_belief0 h3 ha hkw (fun μ4 h4 => ?_)
    refine y_belief1 h4 ha hkw (fun μ5 h5 => ?_)
    have R5 := R2.fv hrx h5.2
    refine zo_ld hr1 (by decide) R5.2.1 ?_
    refine zo_ite (fun c1 => ?_) (fun c1 => ?_)
    · refine j_L_chooses_73 ?_
      exact p81 R5 (zbk_y (Or.inl c1))
    · have hz : 0 ≤ (zbk M a k 0).1 ∧ (zbk M a k 0).1 < (M.wn.length : Int) := by
        rcases z0 with z | z <;> omega
      refine zo_ld hr1 (by decide) R5.2.1 ?_
      refine y_belief1 h5 ha hz (fun μ6 h6 => ?_)
      refine zo_ite (fun c2 => ?_) (fun c2 => ?_)
      · refine j_L_chooses_73 ?_
        exact p81 (R2.fv hrx h6.2) (zbk_y (Or.inr c2))
      · refine zo_ld hr1 (by decide) (R2.fv hrx h6.2).2.1 ?_
        exact p81 (R2.fv hrx h6.2) (zbk_n c1 c2)
  · have hk3 : k = M.wn.length := by omega
    rw [hk3] at R2 hsv
    have R3 := R2.fv hrx h3.2
    replace hsv : sv = M.svd a := hsv
    rw [hsv]
    refine j_L_chooses_259 ?_
    refine zo_lk (F := fun m (b : Int × zM) => f_L_chooses_262 m x a S.2.2 (M.svd a) b.1 (S1, b.2)) (b0 := (0, μ3)) 3 (fun k b => b.1 = (k : Int) ∧ Rc x S S1 μ0 S.2.2 (M.bst a 0) (M.bst a 1) (M.bst a 2) b.2) ?_ ⟨rfl, R3⟩ (by decide)
    rintro n2 i ⟨ii, μ4⟩ hi ⟨hii, R4⟩ ih2
    dsimp only at hii R4 ih2 ⊢
    subst hii
    refine j_L_chooses_262 ?_
    refine zo_ite (fun c1 => ?_) (fun c1 => ?_)
    · refine y_best (h0.ext R4.1).sd ha (w := (i : Int)) (by omega) (fun μ5 h5 => ?_)
      have R5 := R4.fv hrx h5.2
      have hv : μ5 S.2.2 (i : Int) = M.bst a (i : Int) := by
        have hc : i = 0 ∨ i = 1 ∨ i = 2 := by omega
        rcases hc with z | z | z <;> subst z
        · exact R5.2.1
        · exact R5.2.2.1
        · exact R5.2.2.2
      refine zo_ld hr1 (by omega) hv ?_
      refine zo_pos rfl ?_
      rw [w32_s (by omega)]
      exact ih2 (by omega) (((i + 1 : Nat) : Int), μ5) ⟨rfl, R5⟩
    · exact ch_end h0 ha rfl hr1 R4
/-- what all own probes of a way have in common, so far -/
noncomputable def zck (M : zD) (w : Int) (k : Nat) : Int × Int × Int := zlp (zcms M w) 0 k (0, 0, 999)
theorem zcms_n {k : Nat} {z : Int × Int × Int} (h : (M.li (k : Int)).find? (zqb (k : Int) w) = none) : zcms M w k z = z := by
  unfold zcms
  rw [h]
theorem zcms_y {k : Nat} {z : Int × Int × Int} (h : (M.li (k : Int)).find? (zqb (k : Int) w) = some q) : zcms M w k z = (1, max z.2.1 (zlo q (M.dr q)), min z.2.2 (zhi q (M.dr q))) := by
  unfold zcms
  rw [h]
theorem zck_n {k : Nat} (h : (M.li (k : Int)).find? (zqb (k : Int) w) = none) : zck M w (k + 1) = zck M w k := (zlp_s0 _ _).trans (zcms_n h)
theorem zck_y {k : Nat} (h : (M.li (k : Int)).find? (zqb (k : Int) w) = some q) : zck M w (k + 1) = (1, max (zck M w k).2.1 (zlo q (M.dr q)), min (zck M w k).2.2 (zhi q (M.dr q))) := (zlp_s0 _ _).trans (zcms_y h)
theorem l_commons (h0 : Wd B x S μ0 M L K inp out c p) : zo (f_L_commons x (S, μ0)) (Dn B x M L K inp out c p) := by
  have W := h0.w.M
  have hwl := W.wl
  have hal := W.al
  refine j_L_commons ?_
  refine zo_lk (F := fun m (b : Int × zM) => f_L_commons_2 m x b.1 (S, b.2)) (b0 := (0, μ0)) M.wn.length (fun k b => b.1 = (k : Int) ∧ Sd B x S μ0 b.2 M L K inp out c p) ?_ ⟨rfl, h0.sd⟩ (by show M.wn.length < 1000000; omega)
  rintro n k ⟨w, μ1⟩ hk ⟨hw, h1⟩ ih
  dsimp only at hw h1 ih ⊢
  subst hw
  refine j_L_commons_2 ?_
  refine y_property1 h1 (fun μ2 h2 => ?_)
  refine zo_ite (fun hk2 => ?_) (fun hk2 => ?_)
  · have hk3 : k < M.wn.length := by omega
    have hkw : 0 ≤ (k : Int) ∧ (k : Int) < (M.wn.length : Int) := by omega
    refine zo_lk (F := fun m (b : Int × Int × Int × zM) => f_L_commons_20 (f_L_commons_2 n) m x (k : Int) b.1 b.2.1 b.2.2.1 (S, b.2.2.2)) (b0 := (-1, 999, 0, μ2)) M.an.length (fun i b => b.2.2.1 = (i : Int) ∧ ((b.1 = -1 ∧ b.2.1 = 999 ∧ zck M (k : Int) i = (0, 0, 999)) ∨ (0 ≤ b.1 ∧ (zck M (k : Int) i).1 = 1 ∧ (zck M (k : Int) i).2.1 = b.1 ∧ (zck M (k : Int) i).2.2 = b.2.1)) ∧ Sd B x S μ0 b.2.2.2 M L K inp out c p) ?_ ⟨rfl, Or.inl ⟨rfl, rfl, rfl⟩, h2⟩ (by show M.an.length < 1000000; omega)
    rintro n2 i ⟨lo, hi, ii, μ3⟩ hi1 ⟨hii, hlh, h3⟩ ih2
    dsimp only at hii hlh h3 ih2 ⊢
    subst hii
    refine j_L_commons_20 ?_
    refine y_property0 h3 (fun μ4 h4 => ?_)
    refine zo_ite (fun hi2 => ?_) (fun hi2 => ?_)
    · have hi3 : i < M.an.length := by omega
      have hia : 0 ≤ (i : Int) ∧ (i : Int) < (M.an.length : Int) := by omega
      refine y_own h4 hia hkw (fun μ5 h5 => ?_)
      rcases zfi_cs (i : Int) (k : Int) (M.li (i : Int)) with ⟨g1, g2, _⟩ | ⟨j, q, g1, g2, g3, g4, _⟩
      · refine zo_pos (by rw [g1]; decide) ?_
        refine j_L_commons_89 ?_
        rw [w32_s (by omega)]
        exact ih2 hi3 (lo, hi, ((i + 1 : Nat) : Int), μ5) ⟨rfl, by rw [zck_n g2]; exact hlh, h5⟩
      · refine zo_neg (by rw [g1]; omega) ?_
        rw [g1]
        refine y_drift h5 g2 hia (fun μ6 h6 => ?_)
        refine y_low h6 g2 hia (fun μ7 h7 => ?_)
        refine y_drift h7 g2 hia (fun μ8 h8 => ?_)
        refine y_top h8 g2 hia (fun μ9 h9 => ?_)
        refine j_L_commons_89 ?_
        rw [w32_s (by omega)]
        refine ih2 hi3 (max lo (zlo q (M.dr q)), min hi (zhi q (M.dr q)), ((i + 1 : Nat) : Int), μ9) ⟨rfl, ?_, h9⟩
        have hz : 0 ≤ zlo q (M.dr q) := by
          show 0 ≤ max 0 _
          omega
        rw [zck_y g3]
        right
        rcases hlh with ⟨e1, e2, e3⟩ | ⟨e1, e2, e3, e4⟩
        · rw [e1, e2, e3]
          refine ⟨by omega, rfl, ?_, rfl⟩
          show max 0 (zlo q (M.dr q)) = max (-1) (zlo q (M.dr q))
          omega
        · rw [e3, e4]
          exact ⟨by omega, rfl, rfl, rfl⟩
    · have hi3 : i = M.an.length := by omega
      rw [hi3] at hlh
      have fin : ∀ {s v0 v1 : Int}, (s = 0 ∨ s = 1) → M.cmn (k : Int) 0 = v0 → M.cmn (k : Int) 1 = v1 → (s = 0 → v0 = -1 ∧ v1 = -1) → (s = 1 → v0 = lo ∧ v1 = hi) → zo (f_L_commons_109 (f_L_commons_2 n) x (k : Int) lo hi s (S, μ4)) (Dn B x M L K inp out c p) := by
        intro s v0 v1 hs e0 e1 hs0 hs1
        refine j_L_commons_109 ?_
        refine y_common0 h4 hkw (fun μ5 h5 => ?_)
        have next : ∀ {μ6 : zM}, Sd B x S μ0 μ6 M L K inp out c p → zo (f_L_commons_2 n x (w32 ((k : Int) + 1)) (S, μ6)) (Dn B x M L K inp out c p) := by
          intro μ6 h6
          rw [w32_s (by omega)]
          exact ih hk3 (((k + 1 : Nat) : Int), μ6) ⟨rfl, h6⟩
        rcases hs with hs | hs <;> subst hs
        · refine zo_pos rfl ?_
          refine j_L_commons_127 ?_
          refine zo_pos (e0.trans (hs0 rfl).1) ?_
          refine y_common1 h5 hkw (fun μ6 h6 => ?_)
          refine zo_pos rfl ?_
          refine j_L_commons_146 ?_
          refine zo_pos (e1.trans (hs0 rfl).2) ?_
          exact next h6
        · refine zo_neg (by decide) ?_
          refine j_L_commons_127 ?_
          refine zo_pos (e0.trans (hs1 rfl).1) ?_
          refine y_common1 h5 hkw (fun μ6 h6 => ?_)
          refine zo_neg (by decide) ?_
          refine j_L_commons_146 ?_
          refine zo_pos (e1.trans (hs1 rfl).2) ?_
          exact next h6
      have ec : ∀ e, M.cmn (k : Int) e = zcmf e (zck M (k : Int) M.an.length) := fun _ => rfl
      have none' : zcmf 0 (zck M (k : Int) M.an.length) = -1 → zcmf 1 (zck M (k : Int) M.an.length) = -1 → zo (f_L_commons_108 (f_L_commons_2 n) x (k : Int) lo hi (S, μ4)) (Dn B x M L K inp out c p) := by
        intro g0 g1
        refine j_L_commons_108 ?_
        exact fin (Or.inl rfl) ((ec 0).trans g0) ((ec 1).trans g1) (fun _ => ⟨rfl, rfl⟩) (fun z => absurd z (by decide))
      refine j_L_commons_95 ?_
      rcases hlh with ⟨e1, e2, e3⟩ | ⟨e1, e2, e3, e4⟩
      · refine zo_pos (by omega) ?_
        refine none' ?_ ?_ <;> rw [e3] <;> exact if_pos rfl
      · refine zo_neg (by omega) ?_
        have n0 : ¬ (zck M (k : Int) M.an.length).1 = 0 := by omega
        refine zo_ite (fun c1 => ?_) (fun c1 => ?_)
        · refine none' ((if_neg n0).trans (if_pos (by omega))) ((if_neg n0).trans (if_pos (by omega)))
        · refine fin (v0 := lo) (v1 := hi) (Or.inr rfl) ?_ ?_ (fun z => absurd z (by decide)) (fun _ => ⟨rfl, rfl⟩)
          · rw [ec]
            exact ((if_neg n0).trans (if_neg (by omega))).trans ((if_pos rfl).trans e3)
          · rw [ec]
            exact ((if_neg n0).trans (if_neg (by omega))).trans ((if_neg (by decide)).trans e4)
  · refine j_L_commons_157 ?_
    refine zo_lk (F := fun m (b : Int × zM) => f_L_commons_159 m x b.1 (S, b.2)) (b0 := (0, μ2)) M.an.length (fun k b => b.1 = (k : Int) ∧ Sd B x S μ0 b.2 M L K inp out c p) ?_ ⟨rfl, h2⟩ (by show M.an.length < 1000000; omega)
    rintro n k ⟨a, μ3⟩ hk ⟨hw, h3⟩ ih
    dsimp only at hw h3 ih ⊢
    subst hw
    refine j_L_commons_159 ?_
    refine y_property0 h3 (fun μ4 h4 => ?_)
    refine zo_ite (fun hk2 => ?_) (fun hk2 => ?_)
    · have hk3 : k < M.an.length := by omega
      have hka : 0 ≤ (k : Int) ∧ (k : Int) < (M.an.length : Int) := by omega
      refine zo_lk (F := fun m (b : Int × zM) => f_L_commons_170 (f_L_commons_159 n) m x (k : Int) b.1 (S, b.2)) (b0 := (0, μ4)) M.an.length (fun k b => b.1 = (k : Int) ∧ Sd B x S μ0 b.2 M L K inp out c p) ?_ ⟨rfl, h4⟩ (by show M.an.length < 1000000; omega)
      rintro n2 i ⟨b, μ5⟩ hi ⟨hii, h5⟩ ih2
      dsimp only at hii h5 ih2 ⊢
      subst hii
      refine j_L_commons_170 ?_
      refine y_property0 h5 (fun μ6 h6 => ?_)
      refine zo_ite (fun hi2 => ?_) (fun hi2 => ?_)
      · have hi3 : i < M.an.length := by omega
        have hia : 0 ≤ (i : Int) ∧ (i : Int) < (M.an.length : Int) := by omega
        refine zo_lk (F := fun m (b : Int × Int × zM) => f_L_commons_184 (f_L_commons_159 n) (f_L_commons_170 (f_L_commons_159 n) n2) m x (k : Int) (i : Int) b.1 b.2.1 (S, b.2.2)) (b0 := (0, 0, μ6)) M.wn.length (fun j b => b.2.1 = (j : Int) ∧ b.1 = zlp (zags M (k : Int) (i : Int)) 0 j 0 ∧ (0 ≤ b.1 ∧ b.1 ≤ (j : Int)) ∧ Sd B x S μ0 b.2.2 M L K inp out c p) ?_ ⟨rfl, rfl, ⟨Int.le_refl _, Int.le_refl _⟩, h6⟩ (by show M.wn.length < 1000000; omega)
        rintro n3 j ⟨cn, jj, μ7⟩ hj ⟨hjj, hcn, hcr, h7⟩ ih3
        dsimp only at hjj hcn hcr h7 ih3 ⊢
        subst hjj
        refine j_L_commons_184 ?_
        refine y_property1 h7 (fun μ8 h8 => ?_)
        refine zo_ite (fun hj2 => ?_) (fun hj2 => ?_)
        · have hj3 : j < M.wn.length := by omega
          have hjw : 0 ≤ (j : Int) ∧ (j : Int) < (M.wn.length : Int) := by omega
          refine y_belief0 h8 hka hjw (fun μ9 h9 => ?_)
          refine y_belief0 h9 hia hjw (fun μA hA => ?_)
          refine y_belief1 hA hka hjw (fun μB hB => ?_)
          refine y_belief1 hB hia hjw (fun μC hC => ?_)
          refine zo_ite (fun c1 => ?_) (fun c1 => ?_)
          · refine j_L_commons_241 ?_
            rw [w32_s (by omega), w32_e (z := cn + 0) (by omega)]
            refine ih3 hj3 (cn + 0, ((j + 1 : Nat) : Int), μC) ⟨rfl, ?_, ⟨by show 0 ≤ cn + 0; omega, by show cn + 0 ≤ ((j + 1 : Nat) : Int); omega⟩, hC⟩
            rw [zlp_s0, ← hcn]
            exact (Int.add_zero cn).trans (if_pos c1).symm
          · refine j_L_commons_241 ?_
            rw [w32_s (by omega), w32_e (z := cn + 1) (by omega)]
            refine ih3 hj3 (cn + 1, ((j + 1 : Nat) : Int), μC) ⟨rfl, ?_, ⟨by show 0 ≤ cn + 1; omega, by show cn + 1 ≤ ((j + 1 : Nat) : Int); omega⟩, hC⟩
            rw [zlp_s0, ← hcn]
            exact (if_neg c1).symm
        · have hj3 : j = M.wn.length := by omega
          rw [hj3] at hcn
          refine j_L_commons_249 ?_
          refine y_agreeing h8 hka hia (fun μ9 h9 => ?_)
          refine zo_pos hcn.symm ?_
          rw [w32_s (by omega)]
          exact ih2 hi3 (((i + 1 : Nat) : Int), μ9) ⟨rfl, h9⟩
      · refine j_L_commons_267 ?_
        rw [w32_s (by omega)]
        exact ih hk3 (((k + 1 : Nat) : Int), μ6) ⟨rfl, h6⟩
    · exact zo_rt ⟨_, _, rfl, h4.1⟩
theorem l_holdsAll (h0 : Wd B x S μ0 M L K inp out c p) : zo (f_L_holds x (S, μ0)) (Dn B x M L K inp out c p) := by
  have W := h0.w.M
  have hwl := W.wl
  have hal := W.al
  refine j_L_holds ?_
  refine zo_lk (F := fun m (b : Int × zG × zM) => f_L_holds_2 m x b.1 (b.2.1, b.2.2)) (b0 := (0, S, μ0)) M.an.length (fun k b => b.1 = (k : Int) ∧ Wd B x b.2.1 b.2.2 M L K inp out c p) ?_ ⟨rfl, h0⟩ (by omega)
  rintro n k ⟨a, S2, μ1⟩ hk ⟨hw, h1⟩ ih
  dsimp only at hw h1 ih ⊢
  subst hw
  refine j_L_holds_2 ?_
  refine y_property0 h1.sd (fun μ2 h2 => ?_)
  refine zo_ite (fun hk2 => ?_) (fun hk2 => ?_)
  · have hk3 : k < M.an.length := by omega
    have hka : 0 ≤ (k : Int) ∧ (k : Int) < (M.an.length : Int) := by omega
    refine zo_lk (F := fun m (b : Int × zG × zM) => f_L_holds_13 (f_L_holds_2 n) m x (k : Int) b.1 (b.2.1, b.2.2)) (b0 := (0, S2, μ2)) M.wn.length (fun k b => b.1 = (k : Int) ∧ Wd B x b.2.1 b.2.2 M L K inp out c p) ?_ ⟨rfl, h2.1⟩ (by omega)
    rintro n2 i ⟨b, S3, μ3⟩ hi ⟨hii, h3⟩ ih2
    dsimp only at hii h3 ih2 ⊢
    subst hii
    refine j_L_holds_13 ?_
    refine y_property1 h3.sd (fun μ4 h4 => ?_)
    refine zo_ite (fun hi2 => ?_) (fun hi2 => ?_)
    · have hi3 : i < M.wn.length := by omega
      refine zo_bd (l_believes h4.1 hka (show 0 ≤ (i : Int) ∧ (i : Int) < (M.wn.length : Int) by omega)) (fun S5 μ5 h5 => ?_)
      refine zo_neg (by decide) ?_
      rw [w32_s (by omega)]
      exact ih2 hi3 (((i + 1 : Nat) : Int), S5, μ5) ⟨rfl, h5⟩
    · refine j_L_holds_39 ?_
      refine zo_bd (l_chooses h4.1 hka) (fun S5 μ5 h5 => ?_)
      refine zo_neg (by decide) ?_
      rw [w32_s (by omega)]
      exact ih hk3 (((k + 1 : Nat) : Int), S5, μ5) ⟨rfl, h5⟩
  · refine j_L_holds_55 ?_
    refine zo_bd (l_commons h2.1) (fun S5 μ5 h5 => ?_)
    refine zo_pos (Or.inr rfl) ?_
    exact zo_rt ⟨_, _, rfl, h5⟩
end R6
