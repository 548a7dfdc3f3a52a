/-! C 83: a text is read -/
section C83
variable {S S' S2 : zG} {μ μ' μ1 μ2 : zM} {x m B A A2 : Int} {M M' X : zD} {L L' : List zD} {K : zKs} {l inp out inp' : List Int} {c p c2 p2 : Int} {t : zTk} {Q : zR × zS → Prop}
theorem zG_eq (h1 : S2.1 = S.1) (h2 : ∀ a j, S2.2.1 a j = S.2.1 a j) (h3 : S2.2.2 = S.2.2) : S2 = S := Prod.ext h1 (Prod.ext (funext fun a => funext fun j => h2 a j) h3)
theorem MSh.pr (h : MSh S m A) (hs : S2.1 = S.1) (h3 : S2.2.1 m 3 = A2) (hr : ∀ i, i ≠ 3 → S2.2.1 m i = S.2.1 m i) (hA : A2 = m + 1 ∨ A2 = m + 2) : MSh S2 m A2 := by
  obtain ⟨k1, k2, k3, k4, _, k5, k6, k7, k8, k9, k10, k11, k12, k13, _, k14⟩ := h
  unfold MSh
  rw [hs, h3, hr 1 (by decide), hr 2 (by decide), hr 7 (by decide), hr 8 (by decide), hr 9 (by decide), hr 10 (by decide), hr 21 (by decide), hr 22 (by decide), hr 23 (by decide), hr 24 (by decide), hr 26 (by decide)]
  exact ⟨k1, k2, k3, k4, rfl, k5, k6, k7, k8, k9, k10, k11, k12, k13, hA, k14⟩
theorem b_clear (h : S.1 A = some (1, 2405)) : ∃ μ', f_X8_clear A (S, μ) = some (.inl 0, (S, μ')) ∧ ((∀ j, 0 ≤ j → j < 2405 → μ' A j = if 21 ≤ j ∧ j < 57 then -1 else 0) ∧ FA A μ μ') := by
  apply zo_ux
  refine j_X8_clear ?_
  refine zo_l2 (F := fun n (k : Nat) (μ2 : zM) => f_X8_clear_2 n A (k : Int) (S, μ2)) (fun k μ2 => k ≤ 2405 ∧ (∀ j, 0 ≤ j → j < (k : Int) → μ2 A j = 0) ∧ FA A μ μ2) (fun k _ => 2405 - k) ?_ zFU 0 μ ⟨by omega, fun j h1 h2 => absurd h2 (by show ¬ j < 0; omega), FA.rf⟩ (by show 2405 - 0 < 1000000; decide)
  rintro n k μ2 ⟨hk, hv, hf⟩ ih
  refine j_X8_clear_2 ?_
  by_cases e : k < 2405
  · refine zo_pos (by omega) ?_
    refine zo_si h (by omega) ?_
    rw [w32_s (k := k) (by omega)]
    refine ih (k + 1) _ ⟨by omega, ?_, FA.tr hf FA.up⟩ (by omega)
    intro j h1 h2
    by_cases ej : j = (k : Int)
    · rw [ej, zup_at]
    · rw [zup_j ej]
      exact hv j h1 (by omega)
  · refine zo_neg (by omega) ?_
    refine j_X8_clear_19 ?_
    refine zo_l2 (F := fun n (i : Nat) (μ3 : zM) => f_X8_clear_21 n A (i : Int) (S, μ3)) (fun i μ3 => i ≤ 36 ∧ (∀ j, 0 ≤ j → j < 2405 → μ3 A j = if 21 ≤ j ∧ j < 21 + (i : Int) then -1 else 0) ∧ FA A μ μ3) (fun i _ => 36 - i) ?_ zFU 0 μ2 ⟨by omega, fun j h1 h2 => ?_, hf⟩ (by show 36 - 0 < 1000000; decide)
    · rintro n i μ3 ⟨hi, hv3, hf3⟩ ih3
      refine j_X8_clear_21 ?_
      by_cases e3 : i < 36
      · refine zo_pos (by omega) ?_
        have ew : w32 (21 + (i : Int)) = 21 + (i : Int) := w32_e (by omega)
        rw [ew]
        refine zo_si h (by omega) ?_
        rw [w32_s (k := i) (by omega)]
        refine ih3 (i + 1) _ ⟨by omega, ?_, FA.tr hf3 FA.up⟩ (by omega)
        intro j h1 h2
        by_cases ej : j = 21 + (i : Int)
        · rw [ej, zup_at, if_pos (by omega)]
        · rw [zup_j ej, hv3 j h1 h2]
          by_cases c1 : 21 ≤ j ∧ j < 21 + (i : Int)
          · rw [if_pos c1, if_pos (by omega)]
          · rw [if_neg c1, if_neg (by omega)]
      · refine zo_neg (by omega) ?_
        refine zo_rt ⟨μ3, rfl, fun j h1 h2 => ?_, hf3⟩
        rw [hv3 j h1 h2]
        by_cases c1 : 21 ≤ j ∧ j < 21 + (i : Int)
        · rw [if_pos c1, if_pos (by omega)]
        · rw [if_neg c1, if_neg (by omega)]
    · rw [hv j h1 (by omega), if_neg (by omega)]
theorem d8_0 {g : zAr} (h : ∀ j, 0 ≤ j → j < 2405 → g j = if 21 ≤ j ∧ j < 57 then -1 else 0) : D8 g (zD0.wru (fun _ => 0)) := by
  refine D8.mk ⟨by decide, by decide, fun i _ _ => by show ([] : List zP).length ≤ 36; decide, by decide, ?_, ?_, ?_, ?_, ?_, ?_, ?_, ?_, ?_, ?_⟩
  · exact h 0 (by decide) (by decide)
  · exact h 1 (by decide) (by decide)
  · exact h 2 (by decide) (by decide)
  · intro i h1 h2
    show g (3 + i) = 0
    rw [h _ (by omega) (by omega), if_neg (by omega)]
  · intro k nm hk
    exact absurd (show ([] : List (List Int))[k]? = some nm from hk) (by simp)
  · intro k nm hk
    exact absurd (show ([] : List (List Int))[k]? = some nm from hk) (by simp)
  · intro i j h1 h2 h3 h4
    show g (21 + 6 * i + j) = -1
    rw [h _ (by omega) (by omega), if_pos (by omega)]
  · intro i j h1 h2 h3 h4
    show g (57 + 5 * i + j) = 0
    rw [h _ (by omega) (by omega), if_neg (by omega)]
  · intro i h1 h2
    refine ⟨?_, fun k q hk => absurd (show ([] : List zP)[k]? = some q from hk) (by simp)⟩
    show g (87 + 253 * i) = 0
    rw [h _ (by omega) (by omega), if_neg (by omega)]
  · refine ⟨?_, fun k q hk => absurd (show ([] : List zP)[k]? = some q from hk) (by simp)⟩
    exact h 8 (by decide) (by decide)
theorem b_semiQ {q : zPr} (P : PM S μ m l) (h : QM S m l μ q) : ∃ μ', f_X8_semicolon m (S, μ) = some (.inl 0, (S, μ')) ∧ (OM S m l μ' q ∧ FPZ m μ μ') := by
  rcases h with ⟨e, hp, hE⟩ | ⟨t, X, hp, ht, G⟩
  · exact ⟨μ, b_semicolonE P hE, by rw [hp]; exact hE, FPZ.rf⟩
  · obtain ⟨μ1, e1, h1, f1⟩ := b_semicolon G.P ht G.G
    refine ⟨μ1, e1, ?_, f1.z⟩
    rw [hp]
    unfold pEnd
    cases hs : pSemi l t with
    | inl e => rw [hs] at h1; exact h1
    | inr t2 => rw [hs] at h1; exact G.rd f1 h1
theorem b_good2 (H : MSh S m A) : f_X8_good m (S, μ) = some (.inl (zbl (μ m 17 = 0)), (S, μ)) := by
  apply zo_un
  refine j_X8_good ?_
  refine zo_gf H.o (v := μ m 17) (j := 17) rfl (by omega) (by omega) ?_
  refine zo_ite (fun z => zo_rt (by rw [zbl_p z])) (fun z => zo_rt (by rw [zbl_n z]))
/-- the statements -/
theorem b_loadLoop (hB : (0 : Int) ≤ B) (P : PM S μ m l) (W0 : ∀ t X, pRules l (ztk l 0) = .inr (t, X) → WF B X ∧ TOk l t) (h0 : OM S m l μ (pRules l (ztk l 0))) (q : ∀ μ', FPZ m μ μ' → ((∃ e, pParse l = .inl e ∧ EM μ' m e) ∨ (∃ t X, pParse l = .inr (t, X) ∧ WF B X ∧ GD S μ' m l t X)) → zo (f_X8_load_81 m (S, μ')) Q) : zo (f_X8_load_60 zFU m (S, μ)) Q := by
  refine zo_lp (β := Nat × zM) (F := fun n (b : Nat × zM) => f_X8_load_60 n m (S, b.2)) (fun b => FPZ m μ b.2 ∧ ((∃ e, pParse l = .inl e ∧ EM b.2 m e) ∨ (∃ t X g, GD S b.2 m l t X ∧ TOk l t ∧ WF B X ∧ pLoop l g X t = pParse l ∧ l.length - t.2.1 ≤ g ∧ l.length - t.2.1 < b.1))) (fun b => b.1) ?_ zFU (l.length + 1, μ) ⟨FPZ.rf, ?_⟩ (by have := P.n; show l.length + 1 < 1000000; omega)
  · rintro n ⟨k, μ1⟩ ⟨F1, hor⟩ ih
    dsimp only at F1 hor ih ⊢
    have P1 := P.upZ F1
    refine j_X8_load_60 ?_
    refine zo_ob P.H.o (by omega) ?_
    rcases hor with ⟨e, hp, hE⟩ | ⟨t, X, g, G, ht, W, hp, hg, hk⟩
    · refine zo_bn (good0 P1 hE) ?_
      refine zo_pos rfl ?_
      exact q μ1 F1 (Or.inl ⟨e, hp, hE⟩)
    · refine zo_bn (good1 P1 G.G) ?_
      refine zo_neg (by decide) ?_
      refine zo_gf P.H.o (v := t.1) (j := 15) G.G.1.k (by omega) (by omega) ?_
      refine zo_ite (fun z0 => ?_) (fun z0 => ?_)
      · have hv : pLoop l g X t = .inr (t, X) := by
          cases g with
          | zero => rfl
          | succ g => exact if_pos z0
        exact q μ1 F1 (Or.inr ⟨t, X, by rw [← hp, hv], W, G⟩)
      · have hst : ¬ l.length ≤ t.2.1 := fun z => z0 (ht.k0.mpr z)
        have hkp := ht.kp z0
        obtain ⟨g2, rfl⟩ : ∃ g2, g = g2 + 1 := ⟨g - 1, by omega⟩
        have hpl : pBnd (pStat l X t) (fun z => pLoop l g2 z.2 z.1) = pParse l := by
          rw [← hp]
          exact (if_neg z0).symm
        obtain ⟨v2, μ2, e2, h2, f2⟩ := b_parseStatement G ht W
        refine zo_ob P.H.o (by omega) ?_
        refine zo_bn e2 ?_
        cases hs : pStat l X t with
        | inl e =>
          rw [hs] at h2 hpl
          exact ih (k - 1, μ2) ⟨FPZ.tr F1 f2, Or.inl ⟨e, hpl.symm, h2⟩⟩ (by show k - 1 < k; omega)
        | inr z =>
          rw [hs] at h2 hpl
          obtain ⟨W', ht', hle⟩ := stat_inv P.g ht W (show pStat l X t = .inr (z.1, z.2) from hs)
          exact ih (k - 1, μ2) ⟨FPZ.tr F1 f2, Or.inr ⟨z.1, z.2, g2, h2, ht', W', hpl, by omega, by show l.length - z.1.2.1 < k - 1; omega⟩⟩ (by show k - 1 < k; omega)
  · show (∃ e, pParse l = .inl e ∧ EM μ m e) ∨ (∃ t X g, GD S μ m l t X ∧ TOk l t ∧ WF B X ∧ pLoop l g X t = pParse l ∧ l.length - t.2.1 ≤ g ∧ l.length - t.2.1 < l.length + 1)
    have hn := P.n
    cases hr : pRules l (ztk l 0) with
    | inl e =>
      rw [hr] at h0
      refine Or.inl ⟨e, ?_, h0⟩
      unfold pParse
      rw [hr]
      rfl
    | inr z =>
      rw [hr] at h0
      obtain ⟨W, ht⟩ := W0 z.1 z.2 hr
      refine Or.inr ⟨z.1, z.2, 601, h0, ht, W, ?_, by omega, by omega⟩
      unfold pParse
      rw [hr]
      rfl
theorem b_load105 (H : MSh S m (m + 1)) (h : D8 (μ (m + 2)) X) : zo (f_X8_load_105 zFU m 0 (S, μ)) (fun r => ∃ μ', r = (.inl (X.an.length : Int), (S, μ')) ∧ (D8 (μ' (m + 1)) X ∧ FA (m + 1) μ μ')) := by
  refine zo_l2 (F := fun n (k : Nat) (μ2 : zM) => f_X8_load_105 n m (k : Int) (S, μ2)) (fun k μ2 => k ≤ 2405 ∧ (∀ j, 0 ≤ j → j < (k : Int) → μ2 (m + 1) j = μ (m + 2) j) ∧ FA (m + 1) μ μ2) (fun k _ => 2405 - k) ?_ zFU 0 μ ⟨by omega, fun j h1 h2 => absurd h2 (by show ¬ j < 0; omega), FA.rf⟩ (by show 2405 - 0 < 1000000; decide)
  rintro n k μ2 ⟨hk, hv, hf⟩ ih
  refine j_X8_load_105 ?_
  by_cases e : k < 2405
  · refine zo_pos (by omega) ?_
    refine zo_gr H.o H.r1 (by omega) (by omega) ?_
    refine zo_gr H.o H.r2 (by omega) (by omega) ?_
    refine zo_ld H.a2 (by omega) (v := μ (m + 2) (k : Int)) (by rw [hf _ (by omega)]) ?_
    refine zo_si H.a1 (by omega) ?_
    rw [w32_s (k := k) (by omega)]
    refine ih (k + 1) _ ⟨by omega, ?_, FA.tr hf FA.up⟩ (by omega)
    intro j h1 h2
    by_cases ej : j = (k : Int)
    · rw [ej, zup_at]
    · rw [zup_j ej]
      exact hv j h1 (by omega)
  · refine zo_neg (by omega) ?_
    have hD : D8 (μ2 (m + 1)) X := h.keep (fun j h1 h2 => hv j h1 (by omega))
    refine j_X8_load_130 ?_
    refine zo_ob H.o (by omega) ?_
    refine zo_bn (b_agents H hD) ?_
    exact zo_rt ⟨μ2, rfl, hD, hf⟩
theorem W8.lod (h : W8 S μ m M L K inp out c p) (f : ∀ y, y ≠ m → y ≠ m + 2 → μ' y = μ y) (f4 : ∀ k, k = 4 ∨ k = 25 ∨ k = 27 → μ' m k = μ m k) (f11 : μ' m 11 = 0) (hc : μ' m 17 = c2) (hp : μ' m 18 = p2) : W8 S μ' m M L K [] out c2 p2 := by
  refine W8.mk ⟨h.H, by rw [f _ (by omega) (by omega)]; exact h.D, HRel.mk ⟨h.R.n, by rw [f4 _ (by decide)]; exact h.R.c, fun i X hi => by rw [f _ (by omega) (by omega)]; exact h.R.v i X hi⟩, fun i hi hk => by rw [f _ (by omega) (by omega)]; exact h.K0 i hi hk, fun i X hi hk => by rw [f _ (by omega) (by omega), f _ (by omega) (by omega)]; exact h.K1 i X hi hk, LBy.mk ⟨f11, fun k y hk => absurd hk (by simp), fun y hy => absurd hy (by simp)⟩, h.lo.keep (f4 _ (by decide)) (fun k => by rw [f _ (by omega) (by omega)]), by rw [f4 _ (by decide)]; exact h.w, hc, hp⟩
theorem b_load (h : W8 S μ m M L K inp out c p) (hil : inp.length ≤ 600) (hB : (0 : Int) ≤ B ∧ B ≤ 1000000) : ∃ v μ', f_X8_load m (S, μ) = some (.inl v, (S, μ')) ∧ ((∀ y, y < m ∨ m + 12 ≤ y → μ' y = μ y) ∧ ((∃ e, pParse inp = .inl e ∧ v = -4 ∧ W8 S μ' m M L K [] out e.1 (e.2 : Int)) ∨ (∃ t X, pParse inp = .inr (t, X) ∧ WF B X ∧ v = (X.an.length : Int) ∧ W8 S μ' m X (zpush L M) K [] out 0 (-1)))) := by
  have H := h.H
  have k0 := tk_ok (l := inp) (Nat.zero_le inp.length)
  refine zo_xb ?_
  refine j_X8_load ?_
  refine zo_pf 0 H.o (by omega) (by omega) ?_
  refine zo_gf H.o (v := (inp.length : Int)) (j := 11) (by rw [zup_j (by decide)]; exact h.li.n) (by omega) (by omega) ?_
  refine zo_pf 12 H.o (by omega) (by omega) ?_
  refine zo_pf 11 H.o (by omega) (by omega) ?_
  refine zo_pf 13 H.o (by omega) (by omega) ?_
  refine zo_pf 17 H.o (by omega) (by omega) ?_
  refine zo_pf 18 H.o (by omega) (by omega) ?_
  obtain ⟨μ0, hμ⟩ : ∃ μ0, μ0 = zup (zup (zup (zup (zup (zup μ m 0 0) m 12 (inp.length : Int)) m 11 0) m 13 0) m 17 0) m 18 (-1) := ⟨_, rfl⟩
  rw [← hμ]
  have m12 : μ0 m 12 = (inp.length : Int) := by rw [hμ, zup_j (by decide), zup_j (by decide), zup_j (by decide), zup_j (by decide)]; exact zup_at
  have m11 : μ0 m 11 = 0 := by rw [hμ, zup_j (by decide), zup_j (by decide), zup_j (by decide)]; exact zup_at
  have m13 : μ0 m 13 = ((0 : Nat) : Int) := by rw [hμ, zup_j (by decide), zup_j (by decide)]; exact zup_at
  have m17 : μ0 m 17 = 0 := by rw [hμ, zup_j (by decide)]; exact zup_at
  have m18 : μ0 m 18 = -1 := by rw [hμ]; exact zup_at
  have mk : ∀ k, k = 4 ∨ k = 25 ∨ k = 27 → μ0 m k = μ m k := fun k hk => by rw [hμ, zup_j (by omega), zup_j (by omega), zup_j (by omega), zup_j (by omega), zup_j (by omega), zup_j (by omega)]
  have my : ∀ y, y ≠ m → μ0 y = μ y := fun y hy => by rw [hμ, zup_c hy, zup_c hy, zup_c hy, zup_c hy, zup_c hy, zup_c hy]
  clear hμ
  refine zo_gr H.o H.r2 (by omega) (by omega) ?_
  obtain ⟨μ1, e1, z1, f1⟩ := b_clear (μ := μ0) H.a2
  refine zo_bn e1 ?_
  refine zo_gr H.o H.r2 (by omega) (by omega) ?_
  refine zo_pr2 (σ := (S, μ1)) (j := 3) H.o (by omega) (by omega) ?_
  rintro ⟨S1, μx⟩ k1
  have ek : μx = μ1 := k1.m
  subst ek
  have H1 : MSh S1 m (m + 2) := H.pr k1.sh k1.at0 k1.rj (Or.inr rfl)
  have P1 : PM S1 μx m inp := PM.mk ⟨H1, by rw [f1 _ (by omega)]; exact m12, fun k y hk => by rw [f1 _ (by omega), my _ (by omega)]; exact h.li.v k y hk, h.li.g, hil⟩
  obtain ⟨μ2, e2, h2, f2⟩ := b_scan P1 (Nat.zero_le _) (by rw [f1 _ (by omega)]; exact m13)
  refine zo_ob H1.o (by omega) ?_
  refine zo_bn e2 ?_
  have G2 : GD S1 μ2 m inp (ztk inp 0) (zD0.wru (fun _ => 0)) := GD.mk ⟨P1.up8 f2.p, ⟨h2, by rw [f2.f _ (by decide) (by decide) (by decide) (by decide), f1 _ (by omega)]; exact m17, by rw [f2.f _ (by decide) (by decide) (by decide) (by decide), f1 _ (by omega)]; exact m18⟩, by rw [f2.e _ (by omega)]; exact d8_0 z1⟩
  refine zo_ob H1.o (by omega) ?_
  refine zo_bzz (zo_mono (b_parseRules G2 k0.1) ?_)
  rintro r ⟨v3, μ3, hr3, h3, f3⟩
  refine ⟨v3, (S1, μ3), hr3, ?_⟩
  have P3 := G2.P.upZ f3
  obtain ⟨μ4, e4, h4, f4⟩ := b_semiQ P3 h3
  refine zo_ob H1.o (by omega) ?_
  refine zo_bn e4 ?_
  have P4 := P3.upZ f4
  refine b_loadLoop (B := B) hB.1 P4 (fun t X hp => rules_inv hB.1 hB.2 k0.1 hp) h4 ?_
  intro μ5 f5 hor
  have F5 := FPZ.tr (FPZ.tr (FPZ.tr (FPZ.tr f1.z2 f2.p.z) f3) f4) f5
  have fy : ∀ y, y ≠ m → y ≠ m + 2 → μ5 y = μ y := fun y hy1 hy2 => (F5.e y hy1 hy2).trans (my y hy1)
  have fk : ∀ k, k = 4 ∨ k = 25 ∨ k = 27 → μ5 m k = μ m k := fun k hk => (F5.f k (by omega)).trans (mk k hk)
  have f11 : μ5 m 11 = 0 := (F5.f 11 (by decide)).trans m11
  refine j_X8_load_81 ?_
  refine zo_gr H1.o H1.r1 (by omega) (by omega) ?_
  refine zo_pr2 (σ := (S1, μ5)) (j := 3) H1.o (by omega) (by omega) ?_
  rintro ⟨S3, μy⟩ k3
  have ek : μy = μ5 := k3.m
  subst ek
  have eS : S3 = S := by
    refine zG_eq (k3.sh.trans k1.sh) (fun a j => ?_) (k3.nx.trans k1.nx)
    by_cases ea : a = m
    · by_cases ej : j = 3
      · rw [ea, ej, k3.at0]
        exact H.r3.symm
      · rw [ea]
        exact (k3.rj j ej).trans (k1.rj j ej)
    · exact (k3.rf a j ea).trans (k1.rf a j ea)
  subst eS
  refine zo_ob H.o (by omega) ?_
  refine zo_bn (b_good2 H) ?_
  rcases hor with ⟨e, hp, hE⟩ | ⟨t, X, hp, W, G⟩
  · rw [zbl_n (by rw [hE.1]; exact hE.2.2)]
    refine zo_pos rfl ?_
    exact zo_rt ⟨-4, μy, rfl, fun y hy => fy y (by omega) (by omega), Or.inl ⟨e, hp, rfl, h.lod fy fk f11 hE.1 hE.2.1⟩⟩
  · rw [zbl_p G.G.2.1]
    refine zo_neg (by decide) ?_
    have g6 : W8 S3 μy m M L K [] out 0 (-1) := h.lod fy fk f11 G.G.2.1 G.G.2.2
    obtain ⟨μ6, e6, g7, f6⟩ := g6.rem
    refine zo_ob H.o (by omega) ?_
    refine zo_bn e6 ?_
    refine zo_mono (b_load105 g7.H (X := X) (by rw [f6.x _ (by omega) (by omega)]; exact G.D)) ?_
    rintro r ⟨μ7, hr, h7, f7⟩
    exact ⟨_, μ7, hr, fun y hy => by rw [f7 _ (by omega), f6.x _ (by omega) (by omega)]; exact fy y (by omega) (by omega), Or.inr ⟨t, X, hp, W, rfl, g7.desk h7 f7⟩⟩
theorem W7.lod (h : W7 S μ x M L K inp out c p) (f : ∀ y, (y < x + 37 ∨ x + 63 ≤ y) → y ≠ x + 1 → μ' y = μ y) (hl : LBy μ' inp' (x + 1) 1 (x + 2)) (hn : inp'.length ≤ 600) (he : μ' (x + 45) 1 = 0) (hc : μ' (x + 62) 6 = c2) (hp : μ' (x + 62) 7 = p2) : W7 S μ' x M L K inp' out c2 p2 := by
  obtain ⟨r, hr⟩ := h.H
  have hx := h.C.x0
  exact W7.mk ⟨h.C, h.D.keep (fun y h1 h2 => f y (by omega) (by omega)), h.ts, he, ⟨r, hr.keep (fun y hy => f y (by omega) (by omega))⟩, h.bi, hl, h.bo, h.lo.keep (by rw [f _ (by omega) (by omega)]) (fun k => by rw [f _ (by omega) (by omega)]), h.po, h.p0, h.p1, hc, hp, hn, h.ol⟩
theorem opq_val {f7 f8 : zS → zFn} {v : Int} {P : zG → zM → Prop} {B' : Int} (h : Wd B x S μ M L K inp out c p) {S1 : zG} (e : f7 (S, μ) = some (.inl v, (S1, μ1))) (a : W7 S1 μ1 x M' L' K inp' out c2 p2) (fx : FX x S S1 μ μ1) (w : WB B' M' L' K)
    (g : W8 S1 μ1 (x + 66) M L K inp out c p → ∃ μ3, f8 (S1, μ1) = some (.inl v, (S1, μ3)) ∧ W8 S1 μ3 (x + 66) M' L' K inp' out c2 p2 ∧ ∀ y, y < x + 66 ∨ x + 78 ≤ y → μ3 y = μ1 y)
    (hP : ∀ μ3, Wd B' x S1 μ3 M' L' K inp' out c2 p2 → P S1 μ3) : zOpq x P f7 f8 S μ := by
  have hx := h.o.x0
  have h8 : W8 S1 μ1 (x + 66) M L K inp out c p := h.b.keep (fun y h1 h2 => fx.sh y h1 (by omega)) (fun j => fx.rf _ j (by omega) (by omega)) (fun y h1 h2 _ _ _ _ => by rw [fx.m y (by omega) (by omega)]) (fun k _ => by rw [fx.m _ (by omega) (by omega)])
  obtain ⟨μ3, e3, g3, f3⟩ := g h8
  exact ⟨v, S1, μ1, e, μ3, e3, h8.H.o, hP μ3 (Wd.mk ⟨a.keep (fun y hy => f3 y (by omega)), g3, w, h.o.keep fx⟩)⟩
end C83
theorem o_load {B x : Int} {S : zG} {μ : zM} {M : zD} {L : List zD} {K : zKs} {inp out : List Int} {c p : Int} {P : zG → zM → Prop} (h : Wd B x S μ M L K inp out c p) (hB : B + 99 ≤ 1000000) (hP : zPP B x P) : zOpq x P (f_X7_load x) (f_X8_load (x + 66)) S μ := by
  have hx := h.o.x0
  have hil := h.a.il
  have C := h.a.C
  have htm := h.w.M.tm
  have hB' : (0 : Int) ≤ B ∧ B ≤ 1000000 := by omega
  have PC0 : PC S μ x inp := PC.mk ⟨hx, h.a.po, h.a.p0, h.a.p1, h.a.bi, by rw [show x + 1 + 1 = x + 2 by omega]; exact h.a.li, hil⟩
  obtain ⟨b, μ1, e1, h1, f1⟩ := c_parse PC0 h.a.ts h.a.te hB'
  have W8ok : ∀ S1 μ2, W8 S1 μ2 (x + 66) M L K inp out c p → _ := fun S1 μ2 h8 => b_load h8 hil hB'
  have fz : ∀ y, (y < x + 37 ∨ x + 63 ≤ y) → y ≠ x + 1 → zup μ1 (x + 1) 1 0 y = μ y := fun y h1 h2 => by rw [zup_c h2, f1 y h1]
  have l0 : LBy (zup μ1 (x + 1) 1 0) [] (x + 1) 1 (x + 2) := LBy.mk ⟨zup_at, fun k y hk => absurd hk (by simp), fun y hy => absurd hy (by simp)⟩
  cases hp : pParse inp with
  | inl e =>
    rw [hp] at h1
    obtain ⟨hb, hc, hpp, X, hX⟩ := h1
    have W1 : W7 S (zup μ1 (x + 1) 1 0) x M L K [] out e.1 (e.2 : Int) := h.a.lod fz l0 (by decide) (by rw [zup_c (by omega)]; exact hX.em37) (by rw [zup_c (by omega)]; exact hc) (by rw [zup_c (by omega)]; exact hpp)
    refine opq_val (v := -4) h ?_ W1 (FX.mem (fun y h2 h3 => fz y (by omega) (by omega))) (h.w.same (show B ≤ B + 99 by omega) hB) ?_ (fun μ3 h3 => hP _ _ _ _ _ _ _ _ _ h3)
    · apply zo_un
      refine j_X7_load ?_
      refine zo_gr C.o C.r5 (by omega) (by omega) ?_
      refine zo_ob h.a.po (by omega) ?_
      refine zo_bn e1 ?_
      refine zo_gr C.o C.r0 (by omega) (by omega) ?_
      refine zo_pf 1 h.a.bi.o (by omega) (by omega) ?_
      exact zo_pos hb (zo_rt rfl)
    · intro h8
      obtain ⟨v, μ3, e3, f3, hor⟩ := W8ok _ _ h8
      rcases hor with ⟨e2, q1, q2, q3⟩ | ⟨t, X2, q1, _⟩
      · rw [hp] at q1
        have ee : e = e2 := Sum.inl.inj q1
        subst ee
        subst q2
        exact ⟨μ3, e3, q3, fun y hy => f3 y (by omega)⟩
      · rw [hp] at q1
        exact absurd q1 (by simp)
  | inr z =>
    rw [hp] at h1
    obtain ⟨hb, G⟩ := h1
    have D0 : D7 S (zup μ1 (x + 1) 1 0) (x + 37) z.2 := G.D.keep (fun y h1 h2 => zup_c (by omega))
    have W1 : W7 S (zup μ1 (x + 1) 1 0) x M L K [] out 0 (-1) := h.a.lod fz l0 (by decide) (by rw [zup_c (by omega)]; exact G.D.em37) (by rw [zup_c (by omega)]; exact G.c.1) (by rw [zup_c (by omega)]; exact G.c.2)
    obtain ⟨r, hr⟩ := W1.H
    obtain ⟨S2, μ2, r2, e2, h2, f2, _⟩ := c_push hr W1.D
    have W2 := W1.hist f2 h2
    have D2 : D7 S2 μ2 (x + 37) z.2 := D0.keep2 (fun y h3 h4 => f2.sh y (by omega)) (fun y j h3 h4 => f2.rf y j (by omega) (by omega) (by omega)) (fun y h3 h4 => f2.m y (by omega) (by omega))
    obtain ⟨μ3, e3, h3, f3⟩ := d_become W2.D.sh (by omega) W2.D.em D2 (by omega)
    have fx1 : FX x S S2 μ μ2 := FX.mk ⟨fun y h4 h5 => f2.sh y (by omega), fun y j h4 h5 => f2.rf y j (by omega) (by omega) (by omega), fun y h4 h5 => (f2.m y (by omega) (by omega)).trans (fz y (by omega) (by omega)), f2.nx⟩
    have fx2 : FX x S S2 μ μ3 := FX.mk ⟨fx1.sh, fx1.rf, fun y h4 h5 => (f3 y (by omega)).trans (fx1.m y h4 h5), fx1.nx⟩
    have WX : WF B z.2 := by
      obtain ⟨zr, hzr, hzl⟩ := bnd_inv (show pBnd (pRules inp (ztk inp 0)) (fun z => pLoop inp 601 z.2 z.1) = .inr z from hp)
      have k0 := tk_ok (l := inp) (Nat.zero_le inp.length)
      obtain ⟨w1, w2⟩ := rules_inv hB'.1 hB'.2 k0.1 (show pRules inp (ztk inp 0) = .inr (zr.1, zr.2) from hzr)
      exact loop_inv h.a.li.g 601 zr.2 zr.1 w2 w1 (show pLoop inp 601 zr.2 zr.1 = .inr (z.1, z.2) from hzl)
    refine opq_val (v := (z.2.an.length : Int)) h ?_ (W2.desk h3 f3) fx2 (h.w.psh (WX.up hB) hB) ?_ (fun μ3 h3 => hP _ _ _ _ _ _ _ _ _ h3)
    · apply zo_un
      refine j_X7_load ?_
      refine zo_gr C.o C.r5 (by omega) (by omega) ?_
      refine zo_ob h.a.po (by omega) ?_
      refine zo_bn e1 ?_
      refine zo_gr C.o C.r0 (by omega) (by omega) ?_
      refine zo_pf 1 h.a.bi.o (by omega) (by omega) ?_
      refine zo_neg (by rw [hb]; decide) ?_
      refine zo_gr C.o C.r6 (by omega) (by omega) ?_
      refine zo_gr C.o C.r3 (by omega) (by omega) ?_
      refine zo_ob hr.o (by omega) ?_
      refine zo_bn e2 ?_
      refine zo_gr W2.C.o W2.C.r3 (by omega) (by omega) ?_
      refine zo_gr W2.C.o W2.C.r4 (by omega) (by omega) ?_
      refine zo_ob W2.D.sh.o (by omega) ?_
      refine zo_bn e3 ?_
      refine zo_gr W2.C.o W2.C.r3 (by omega) (by omega) ?_
      refine zo_gr h3.sh.o h3.sh.r1 (by omega) (by omega) ?_
      refine zo_gf h3.sh.ag.o h3.an0 (by omega) (by omega) ?_
      exact zo_rt rfl
    · intro h8
      obtain ⟨v, μ4, e4, f4, hor⟩ := W8ok _ _ h8
      rcases hor with ⟨e2, q1, _⟩ | ⟨t, X2, q1, _, q2, q3⟩
      · rw [hp] at q1
        exact absurd q1 (by simp)
      · rw [hp] at q1
        have ee : z = (t, X2) := Sum.inr.inj q1
        subst ee
        subst q2
        exact ⟨μ4, e4, q3, fun y hy => f4 y (by omega)⟩
