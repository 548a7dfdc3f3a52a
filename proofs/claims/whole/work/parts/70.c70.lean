/-! C 70: messages, the next probe, what is saved, who agrees -/
noncomputable def zD.msg (M : zD) (w : Int) (q : zP) : Int := if w = 0 then q 1 else if w = 1 then q 7 else if w = 2 then q 0 else if w = 3 then q 2 else if w = 4 then q 3 else M.ref q
theorem ref_rng (M : zD) (q : zP) : 0 ≤ M.ref q ∧ M.ref q ≤ 3 := by
  unfold zD.ref
  split
  · decide
  · split
    · decide
    · split
      · decide
      · split <;> decide
theorem msg_rng {M : zD} {w A W t : Int} {q : zP} (h : QOk A W t q) (hA : A ≤ 6) (hW : W ≤ 6) : zI (M.msg w q) := by
  have h0 := h.1
  have h1 := h.2.1
  have h2 := h.2.2.1
  have h3 := h.2.2.2.1
  have h7 := h.2.2.2.2.2.2.1
  have hr := ref_rng M q
  unfold zD.msg zI
  repeat' split
  all_goals omega
/-- the next probe -/
noncomputable def znps (M : zD) (a b r : Int) (k : Nat) (c : Int × Int) : Int × Int := @ite _ (((k : Int) = b ∨ zand (zshr r (k : Int)) 1 = 1) ∧ c.2 < M.wid a (k : Int) (-1)) (Classical.propDecidable _) ((k : Int), M.wid a (k : Int) (-1)) c
theorem nps_p {M : zD} {a b r : Int} {k : Nat} {c : Int × Int} (h1 : (k : Int) = b ∨ zand (zshr r (k : Int)) 1 = 1) (h2 : c.2 < M.wid a (k : Int) (-1)) : znps M a b r k c = ((k : Int), M.wid a (k : Int) (-1)) := if_pos ⟨h1, h2⟩
theorem nps_n {M : zD} {a b r : Int} {k : Nat} {c : Int × Int} (h : ¬ (((k : Int) = b ∨ zand (zshr r (k : Int)) 1 = 1) ∧ c.2 < M.wid a (k : Int) (-1))) : znps M a b r k c = c := if_neg h
noncomputable def zD.nxp (M : zD) (a : Int) : Int := if M.riv a (M.bst a 0) = 0 then -1 else (zlp (znps M a (M.bst a 0) (M.riv a (M.bst a 0))) 0 M.wn.length (-1, -1)).1
theorem nxp_rng {M : zD} {a : Int} (h6 : M.wn.length ≤ 6) : -1 ≤ M.nxp a ∧ M.nxp a < 6 := by
  unfold zD.nxp
  split
  · decide
  · refine zlp_inv (P := fun c : Int × Int => -1 ≤ c.1 ∧ c.1 < 6) (N := M.wn.length) ?_ _ 0 (-1, -1) (by omega) (by decide)
    intro k c hk hc
    unfold znps
    split
    · show -1 ≤ (k : Int) ∧ (k : Int) < 6
      omega
    · exact hc
theorem riv_64 {M : zD} {a b : Int} (h6 : M.wn.length ≤ 6) : 0 ≤ M.riv a b ∧ M.riv a b < 64 := by
  unfold zD.riv
  split
  · decide
  · refine zlp_inv (P := fun c : Int => 0 ≤ c ∧ c < 64) (N := M.wn.length) ?_ _ 0 0 (by omega) (by decide)
    intro k c hk hc
    unfold zriv
    split
    · exact or_rng hc (by omega)
    · exact hc
theorem wid_rng (M : zD) (a w x : Int) : 0 ≤ M.wid a w x ∧ M.wid a w x ≤ 999 := by
  have h := bel_rng M a w x
  unfold zD.wid
  rw [w32_e (by omega)]
  omega
theorem bnd_rng (M : zD) (a w e : Int) : 0 ≤ M.bnd a w e ∧ M.bnd a w e ≤ 999 := by
  have h := bel_rng M a w (-1)
  unfold zD.bnd
  split <;> omega
/-- what is saved -/
noncomputable def zsvs (M : zD) (a : Int) (k : Nat) (c : Int) : Int := @ite _ (zfi (zq a (k : Int)) (zqD a (k : Int)) (M.li a) 0 = -1 ∧ ¬ M.wid a (k : Int) (-1) = 999) (Classical.propDecidable _) (c + 1) c
theorem svs_p {M : zD} {a c : Int} {k : Nat} (h1 : zfi (zq a (k : Int)) (zqD a (k : Int)) (M.li a) 0 = -1) (h2 : ¬ M.wid a (k : Int) (-1) = 999) : zsvs M a k c = c + 1 := if_pos ⟨h1, h2⟩
theorem svs_n {M : zD} {a c : Int} {k : Nat} (h : ¬ (zfi (zq a (k : Int)) (zqD a (k : Int)) (M.li a) 0 = -1 ∧ ¬ M.wid a (k : Int) (-1) = 999)) : zsvs M a k c = c := if_neg h
noncomputable def zD.svd (M : zD) (a : Int) : Int := zlp (zsvs M a) 0 M.wn.length 0
theorem cnt_rng {f : Nat → Int → Int} (hf : ∀ k c, f k c = c ∨ f k c = c + 1) : ∀ n, 0 ≤ zlp f 0 n 0 ∧ zlp f 0 n 0 ≤ (n : Int) := by
  intro n
  induction n with
  | zero => exact ⟨Int.le_refl _, Int.le_refl _⟩
  | succ n ih =>
    rw [zlp_s0]
    rcases hf n (zlp f 0 n 0) with h | h <;> rw [h] <;> omega
theorem svs_cs (M : zD) (a : Int) (k : Nat) (c : Int) : zsvs M a k c = c ∨ zsvs M a k c = c + 1 := by
  unfold zsvs
  split
  · exact Or.inr rfl
  · exact Or.inl rfl
/-- where two agree -/
noncomputable def zags (M : zD) (a o : Int) (k : Nat) (c : Int) : Int := if min (M.bnd a (k : Int) 1) (M.bnd o (k : Int) 1) < max (M.bnd a (k : Int) 0) (M.bnd o (k : Int) 0) then c else c + 1
theorem ags_p {M : zD} {a o c : Int} {k : Nat} (h : min (M.bnd a (k : Int) 1) (M.bnd o (k : Int) 1) < max (M.bnd a (k : Int) 0) (M.bnd o (k : Int) 0)) : zags M a o k c = c := if_pos h
theorem ags_n {M : zD} {a o c : Int} {k : Nat} (h : ¬ min (M.bnd a (k : Int) 1) (M.bnd o (k : Int) 1) < max (M.bnd a (k : Int) 0) (M.bnd o (k : Int) 0)) : zags M a o k c = c + 1 := if_neg h
noncomputable def zD.agr (M : zD) (a o : Int) : Int := zlp (zags M a o) 0 M.wn.length 0
theorem ags_cs (M : zD) (a o : Int) (k : Nat) (c : Int) : zags M a o k c = c ∨ zags M a o k c = c + 1 := by
  unfold zags
  split
  · exact Or.inl rfl
  · exact Or.inr rfl
/-- what own reports have in common -/
noncomputable def zcms (M : zD) (w : Int) (k : Nat) (c : Int × Int × Int) : Int × Int × Int :=
  match (M.li (k : Int)).find? (zqb (k : Int) w) with
  | none => c
  | some p => (1, max c.2.1 (zlo p (M.dr p)), min c.2.2 (zhi p (M.dr p)))
theorem cms_n {M : zD} {w : Int} {k : Nat} {c : Int × Int × Int} (h : (M.li (k : Int)).find? (zqb (k : Int) w) = none) : zcms M w k c = c := by unfold zcms; rw [h]
theorem cms_p {M : zD} {w : Int} {k : Nat} {c : Int × Int × Int} {p : zP} (h : (M.li (k : Int)).find? (zqb (k : Int) w) = some p) : zcms M w k c = (1, max c.2.1 (zlo p (M.dr p)), min c.2.2 (zhi p (M.dr p))) := by unfold zcms; rw [h]
noncomputable def zcmf (e : Int) (c : Int × Int × Int) : Int := if c.1 = 0 then -1 else if c.2.2 < c.2.1 then -1 else if e = 0 then c.2.1 else c.2.2
noncomputable def zD.cmn (M : zD) (w e : Int) : Int := zcmf e (zlp (zcms M w) 0 M.an.length (0, 0, 999))
theorem cms_rng (M : zD) (w : Int) : 0 ≤ (zlp (zcms M w) 0 M.an.length (0, 0, 999)).2.1 ∧ (zlp (zcms M w) 0 M.an.length (0, 0, 999)).2.1 < 2147483648 ∧ -2147483648 ≤ (zlp (zcms M w) 0 M.an.length (0, 0, 999)).2.2 ∧ (zlp (zcms M w) 0 M.an.length (0, 0, 999)).2.2 ≤ 999 := by
  refine zlp_inv (P := fun c : Int × Int × Int => 0 ≤ c.2.1 ∧ c.2.1 < 2147483648 ∧ -2147483648 ≤ c.2.2 ∧ c.2.2 ≤ 999) (f := zcms M w) (N := M.an.length) ?_ M.an.length 0 (0, 0, 999) (by omega) (by decide)
  intro k c hk hc
  cases hf : (M.li (k : Int)).find? (zqb (k : Int) w) with
  | none => rw [cms_n hf]; exact hc
  | some p =>
    rw [cms_p hf]
    have h1 := w32_rng (p 5 - M.dr p)
    have h2 := w32_rng (p 6 + M.dr p)
    show 0 ≤ max c.2.1 (zlo p (M.dr p)) ∧ max c.2.1 (zlo p (M.dr p)) < 2147483648 ∧ -2147483648 ≤ min c.2.2 (zhi p (M.dr p)) ∧ min c.2.2 (zhi p (M.dr p)) ≤ 999
    unfold zlo zhi
    omega
theorem cmn_rng (M : zD) (w e : Int) : zI (M.cmn w e) := by
  have h := cms_rng M w
  unfold zD.cmn zcmf zI
  generalize zlp (zcms M w) 0 M.an.length (0, 0, 999) = c at h
  split
  · decide
  · split
    · decide
    · split <;> omega
section C70
variable {S S' : zG} {μ μ' μ1 : zM} {x m d B A a o t : Int} {M M' : zD} {L : List zD} {K : zKs} {P : zG → zM → Prop} {Q : zR × zS → Prop}
theorem c_nextP {b r : Int} (C : CB S x) (hD : D7 S μ (x + 12) M) (W : WF B M) (ha : 0 ≤ a ∧ a < 6) (f1 : FV (x + 5) μ μ1) : zo (f_X7_nextProbe_38 zFU x a b r (-1) (-1) 0 (S, μ1)) (fun y => ∃ μ', y = (.inl (zlp (znps M a b r) 0 M.wn.length (-1, -1)).1, (S, μ')) ∧ FV (x + 5) μ μ') := by
  have h61 := hD.wl
  refine zo_for (F := fun n (k : Nat) (c : Int × Int) (μ2 : zM) => f_X7_nextProbe_38 n x a b r c.1 c.2 (k : Int) (S, μ2)) (N := M.wn.length) (st := znps M a b r) (c0 := (-1, -1)) (fun _ _ => True) (fun μ2 => FV (x + 5) μ μ2) ?_ True.intro f1 (by show M.wn.length < 1000000; omega)
  intro n k c μ2 hk _ hf ih fin
  have hD2 := hf.d hD
  refine j_X7_nextProbe_38 ?_
  refine zo_gr C.o C.r3 (by omega) (by omega) ?_
  refine zo_gr hD2.sh.o hD2.sh.r2 (by omega) (by omega) ?_
  refine zo_gf hD2.sh.wa.o hD2.wn0 (by omega) (by omega) ?_
  by_cases e : k < M.wn.length
  · obtain ⟨μ3, e3, f3⟩ := c_widthOf (w := (k : Int)) (t := -1) C hD2 W (by omega) ha
    have ih := ih e μ3 (FV.tr hf f3) True.intro
    have no : znps M a b r k c = c → zo (f_X7_nextProbe_97 (f_X7_nextProbe_38 n) x a b r c.1 c.2 (k : Int) (S, μ3)) (fun y => ∃ μ', y = (.inl (zlp (znps M a b r) 0 M.wn.length (-1, -1)).1, (S, μ')) ∧ FV (x + 5) μ μ') := by
      intro es
      rw [es] at ih
      refine j_X7_nextProbe_97 ?_
      rw [w32_s (k := k) (by omega)]
      exact ih
    have mid : ((k : Int) = b ∨ zand (zshr r (k : Int)) 1 = 1) → zo (f_X7_nextProbe_82 (f_X7_nextProbe_38 n) x a b r c.1 c.2 (k : Int) (M.wid a (k : Int) (-1)) (S, μ3)) (fun y => ∃ μ', y = (.inl (zlp (znps M a b r) 0 M.wn.length (-1, -1)).1, (S, μ')) ∧ FV (x + 5) μ μ') := by
      intro hb
      refine j_X7_nextProbe_82 ?_
      refine zo_ite (fun z => ?_) (fun z => no (nps_n (fun y => z y.2)))
      rw [nps_p hb z] at ih
      refine j_X7_nextProbe_97 ?_
      rw [w32_s (k := k) (by omega)]
      exact ih
    refine zo_pos (by omega) ?_
    refine zo_gr C.o C.r3 (by omega) (by omega) ?_
    refine zo_ob C.o (by omega) ?_
    refine zo_bn e3 ?_
    refine zo_ite (fun z => mid (Or.inl z)) (fun z => ?_)
    refine zo_bn c_cont2 ?_
    refine zo_zb (fun y => no (nps_n (fun w => w.1.elim z y))) (fun y => mid (Or.inr y))
  · refine zo_neg (by omega) ?_
    exact zo_rt ⟨μ2, by rw [← fin (by omega)], hf⟩
theorem b_nextP {b r : Int} (H : MSh S m A) (h : D8 (μ A) M) (W : WF B M) (ha : 0 ≤ a ∧ a < 6) (hx : μ m 4 = -1) (f1 : FN m μ μ1) (hr : 0 ≤ r ∧ r < 64) (hb : 0 ≤ b ∧ b < 6) : zo (f_X8_nextProbe_45 zFU m a (zor r (zshl 1 b)) (-1) (-1) 0 (S, μ1)) (fun y => ∃ μ', y = (.inl (zlp (znps M a b r) 0 M.wn.length (-1, -1)).1, (S, μ')) ∧ FN m μ μ') := by
  have h61 := h.wl
  have hor := or_rng hr hb
  refine zo_for (F := fun n (k : Nat) (c : Int × Int) (μ2 : zM) => f_X8_nextProbe_45 n m a (zor r (zshl 1 b)) c.1 c.2 (k : Int) (S, μ2)) (N := M.wn.length) (st := znps M a b r) (c0 := (-1, -1)) (fun _ _ => True) (fun μ2 => FN m μ μ2) ?_ True.intro f1 (by show M.wn.length < 1000000; omega)
  intro n k c μ2 hk _ hf ih fin
  have h2 := hf.D8 H h
  refine j_X8_nextProbe_45 ?_
  refine zo_ob H.o (by omega) ?_
  refine zo_bn (b_ways H h2) ?_
  by_cases e : k < M.wn.length
  · obtain ⟨μ3, e3, f3⟩ := b_widthOf (w := (k : Int)) H h2 W ha (show μ2 m 4 = -1 by rw [hf.f 4 (by decide) (by decide)]; exact hx)
    have ih := ih e μ3 (FN.tr hf f3) True.intro
    have hm := mb_or hr hb (show 0 ≤ (k : Int) ∧ (k : Int) < 6 by omega)
    have h01 := mb_01 hor (show 0 ≤ (k : Int) ∧ (k : Int) < 6 by omega)
    have no : znps M a b r k c = c → zo (f_X8_nextProbe_89 (f_X8_nextProbe_45 n) m a (zor r (zshl 1 b)) c.1 c.2 (k : Int) (S, μ3)) (fun y => ∃ μ', y = (.inl (zlp (znps M a b r) 0 M.wn.length (-1, -1)).1, (S, μ')) ∧ FN m μ μ') := by
      intro es
      rw [es] at ih
      refine j_X8_nextProbe_89 ?_
      rw [w32_s (k := k) (by omega)]
      exact ih
    refine zo_pos (by omega) ?_
    refine zo_ob H.o (by omega) ?_
    refine zo_bn e3 ?_
    refine zo_ite (fun z => no (nps_n (fun y => ?_))) (fun z => ?_)
    · have y1 := hm.mpr y.1
      omega
    · have y1 := hm.mp (by omega)
      refine zo_ite (fun y => ?_) (fun y => no (nps_n (fun w => y w.2)))
      rw [nps_p y1 y] at ih
      refine j_X8_nextProbe_89 ?_
      rw [w32_s (k := k) (by omega)]
      exact ih
  · refine zo_neg (by omega) ?_
    exact zo_rt ⟨μ2, by rw [← fin (by omega)], hf⟩
theorem c_saved (C : CB S x) (hD : D7 S μ (x + 12) M) (W : WF B M) (ha : 0 ≤ a ∧ a < 6) : zo (f_X7_saved_9 zFU x a 0 0 (S, μ)) (fun y => ∃ μ', y = (.inl (M.svd a), (S, μ')) ∧ FV (x + 5) μ μ') := by
  have h61 := hD.wl
  refine zo_for (F := fun n (k : Nat) (c : Int) (μ2 : zM) => f_X7_saved_9 n x a c (k : Int) (S, μ2)) (N := M.wn.length) (st := zsvs M a) (c0 := 0) (fun k c => 0 ≤ c ∧ c ≤ (k : Int)) (fun μ2 => FV (x + 5) μ μ2) ?_ (by decide) FV.rf (by show M.wn.length < 1000000; omega)
  intro n k c μ2 hk hc hf ih fin
  have hD2 := hf.d hD
  refine j_X7_saved_9 ?_
  refine zo_gr C.o C.r3 (by omega) (by omega) ?_
  refine zo_gr hD2.sh.o hD2.sh.r2 (by omega) (by omega) ?_
  refine zo_gf hD2.sh.wa.o hD2.wn0 (by omega) (by omega) ?_
  by_cases e : k < M.wn.length
  · have no : ∀ μ3, FV (x + 5) μ μ3 → zsvs M a k c = c → zo (f_X7_saved_60 (f_X7_saved_9 n) x a c (k : Int) (S, μ3)) (fun y => ∃ μ', y = (.inl (M.svd a), (S, μ')) ∧ FV (x + 5) μ μ') := by
      intro μ3 hf3 es
      have ih := ih e μ3 hf3
      rw [es] at ih
      refine j_X7_saved_60 ?_
      rw [w32_s (k := k) (by omega)]
      exact ih (by omega)
    refine zo_pos (by omega) ?_
    refine zo_gr C.o C.r3 (by omega) (by omega) ?_
    refine zo_ob hD2.sh.o (by omega) ?_
    refine zo_bn (d_listOf hD2 ha) ?_
    refine zo_ob (hD2.sh.ls a ha.1 ha.2).o (by omega) ?_
    refine zo_bn (d_find hD2 ha) ?_
    refine zo_ite (fun z => ?_) (fun z => no μ2 hf (svs_n (fun y => z y.1)))
    obtain ⟨μ3, e3, f3⟩ := c_widthOf (w := (k : Int)) (t := -1) C hD2 W (by omega) ha
    refine zo_gr C.o C.r3 (by omega) (by omega) ?_
    refine zo_ob C.o (by omega) ?_
    refine zo_bn e3 ?_
    refine zo_ite (fun y => no μ3 (FV.tr hf f3) (svs_n (fun w => w.2 y))) (fun y => ?_)
    have ih := ih e μ3 (FV.tr hf f3)
    rw [svs_p z y] at ih
    refine j_X7_saved_60 ?_
    rw [w32_s (k := k) (by omega), w32_e (show -2147483648 ≤ c + 1 ∧ c + 1 < 2147483648 by omega)]
    exact ih (by omega)
  · refine zo_neg (by omega) ?_
    exact zo_rt ⟨μ2, by rw [← fin (by omega)]; rfl, hf⟩
theorem b_saved (H : MSh S m A) (h : D8 (μ A) M) (W : WF B M) (ha : 0 ≤ a ∧ a < 6) (hx : μ m 4 = -1) : zo (f_X8_saved_18 zFU m a 0 0 (S, μ)) (fun y => ∃ μ', y = (.inl (M.svd a), (S, μ')) ∧ FN m μ μ') := by
  have h61 := h.wl
  refine zo_for (F := fun n (k : Nat) (c : Int) (μ2 : zM) => f_X8_saved_18 n m a c (k : Int) (S, μ2)) (N := M.wn.length) (st := zsvs M a) (c0 := 0) (fun k c => 0 ≤ c ∧ c ≤ (k : Int)) (fun μ2 => FN m μ μ2) ?_ (by decide) FN.rf (by show M.wn.length < 1000000; omega)
  intro n k c μ2 hk hc hf ih fin
  have h2 := hf.D8 H h
  refine j_X8_saved_18 ?_
  refine zo_ob H.o (by omega) ?_
  refine zo_bn (b_ways H h2) ?_
  by_cases e : k < M.wn.length
  · have no : ∀ μ3, FN m μ μ3 → zsvs M a k c = c → zo (f_X8_saved_53 (f_X8_saved_18 n) m a (k : Int) c (S, μ3)) (fun y => ∃ μ', y = (.inl (M.svd a), (S, μ')) ∧ FN m μ μ') := by
      intro μ3 hf3 es
      have ih := ih e μ3 hf3
      rw [es] at ih
      refine j_X8_saved_53 ?_
      refine j_X8_saved_54 ?_
      rw [w32_s (k := k) (by omega), Int.add_zero, w32_e (show -2147483648 ≤ c ∧ c < 2147483648 by omega)]
      exact ih (by omega)
    refine zo_pos (by omega) ?_
    refine zo_ob H.o (by omega) ?_
    refine zo_bn (b_ownOf H h2 ha) ?_
    refine zo_ite (fun z => ?_) (fun z => no μ2 hf (svs_n (fun y => z y.1)))
    obtain ⟨μ3, e3, f3⟩ := b_widthOf (w := (k : Int)) H h2 W ha (show μ2 m 4 = -1 by rw [hf.f 4 (by decide) (by decide)]; exact hx)
    have hw := wid_rng M a (k : Int) (-1)
    refine zo_ob H.o (by omega) ?_
    refine zo_bn e3 ?_
    refine zo_ite (fun y => ?_) (fun y => no μ3 (FN.tr hf f3) (svs_n (fun w => y (by omega))))
    have ih := ih e μ3 (FN.tr hf f3)
    rw [svs_p z (by omega)] at ih
    refine j_X8_saved_54 ?_
    rw [w32_s (k := k) (by omega), w32_e (show -2147483648 ≤ c + 1 ∧ c + 1 < 2147483648 by omega)]
    exact ih (by omega)
  · refine zo_neg (by omega) ?_
    exact zo_rt ⟨μ2, by rw [← fin (by omega)]; rfl, hf⟩
theorem c_agree (C : CB S x) (hD : D7 S μ (x + 12) M) (W : WF B M) (ha : 0 ≤ a ∧ a < 6) (ho : 0 ≤ o ∧ o < 6) : zo (f_X7_agreeing_15 zFU x a o 0 0 (S, μ)) (fun y => ∃ μ', y = (.inl (M.agr a o), (S, μ')) ∧ FV (x + 5) μ μ') := by
  have h61 := hD.wl
  refine zo_for (F := fun n (k : Nat) (c : Int) (μ2 : zM) => f_X7_agreeing_15 n x a o c (k : Int) (S, μ2)) (N := M.wn.length) (st := zags M a o) (c0 := 0) (fun k c => 0 ≤ c ∧ c ≤ (k : Int)) (fun μ2 => FV (x + 5) μ μ2) ?_ (by decide) FV.rf (by show M.wn.length < 1000000; omega)
  intro n k c μ2 hk hc hf ih fin
  have hD2 := hf.d hD
  refine j_X7_agreeing_15 ?_
  refine zo_gr C.o C.r3 (by omega) (by omega) ?_
  refine zo_gr hD2.sh.o hD2.sh.r2 (by omega) (by omega) ?_
  refine zo_gf hD2.sh.wa.o hD2.wn0 (by omega) (by omega) ?_
  by_cases e : k < M.wn.length
  · obtain ⟨μ3, e3, f3⟩ := c_believed (w := (k : Int)) (e := 0) C hD2 W (by omega) ha
    have hf3 := FV.tr hf f3
    obtain ⟨μ4, e4, f4⟩ := c_believed (w := (k : Int)) (e := 0) C (hf3.d hD) W (by omega) ho
    have hf4 := FV.tr hf3 f4
    obtain ⟨μ5, e5, f5⟩ := c_believed (w := (k : Int)) (e := 1) C (hf4.d hD) W (by omega) ha
    have hf5 := FV.tr hf4 f5
    obtain ⟨μ6, e6, f6⟩ := c_believed (w := (k : Int)) (e := 1) C (hf5.d hD) W (by omega) ho
    have ih := ih e μ6 (FV.tr hf5 f6)
    refine zo_pos (by omega) ?_
    refine zo_gr C.o C.r3 (by omega) (by omega) ?_
    refine zo_ob C.o (by omega) ?_
    refine zo_bn e3 ?_
    refine zo_gr C.o C.r3 (by omega) (by omega) ?_
    refine zo_ob C.o (by omega) ?_
    refine zo_bn e4 ?_
    refine zo_gr C.o C.r3 (by omega) (by omega) ?_
    refine zo_ob C.o (by omega) ?_
    refine zo_bn e5 ?_
    refine zo_gr C.o C.r3 (by omega) (by omega) ?_
    refine zo_ob C.o (by omega) ?_
    refine zo_bn e6 ?_
    refine zo_ite (fun z => ?_) (fun z => ?_)
    · rw [ags_p z] at ih
      refine j_X7_agreeing_98 ?_
      rw [w32_s (k := k) (by omega)]
      exact ih (by omega)
    · rw [ags_n z] at ih
      refine j_X7_agreeing_98 ?_
      rw [w32_s (k := k) (by omega), w32_e (show -2147483648 ≤ c + 1 ∧ c + 1 < 2147483648 by omega)]
      exact ih (by omega)
  · refine zo_neg (by omega) ?_
    exact zo_rt ⟨μ2, by rw [← fin (by omega)]; rfl, hf⟩
theorem b_agree (H : MSh S m A) (h : D8 (μ A) M) (W : WF B M) (ha : 0 ≤ a ∧ a < 6) (ho : 0 ≤ o ∧ o < 6) (hx : μ m 4 = -1) : zo (f_X8_agreeing_20 zFU m a o 0 0 (S, μ)) (fun y => ∃ μ', y = (.inl (M.agr a o), (S, μ')) ∧ FN m μ μ') := by
  have h61 := h.wl
  refine zo_for (F := fun n (k : Nat) (c : Int) (μ2 : zM) => f_X8_agreeing_20 n m a o c (k : Int) (S, μ2)) (N := M.wn.length) (st := zags M a o) (c0 := 0) (fun k c => 0 ≤ c ∧ c ≤ (k : Int)) (fun μ2 => FN m μ μ2) ?_ (by decide) FN.rf (by show M.wn.length < 1000000; omega)
  intro n k c μ2 hk hc hf ih fin
  have h2 := hf.D8 H h
  refine j_X8_agreeing_20 ?_
  refine zo_ob H.o (by omega) ?_
  refine zo_bn (b_ways H h2) ?_
  by_cases e : k < M.wn.length
  · obtain ⟨μ3, e3, f3⟩ := b_boundOf (w := (k : Int)) (e := 0) H h2 W ha (by rw [hf.f 4 (by decide) (by decide)]; exact hx)
    have hf3 := FN.tr hf f3
    obtain ⟨μ4, e4, f4⟩ := b_boundOf (w := (k : Int)) (e := 0) H (hf3.D8 H h) W ho (by rw [hf3.f 4 (by decide) (by decide)]; exact hx)
    have hf4 := FN.tr hf3 f4
    obtain ⟨μ5, e5, f5⟩ := b_boundOf (w := (k : Int)) (e := 1) H (hf4.D8 H h) W ha (by rw [hf4.f 4 (by decide) (by decide)]; exact hx)
    have hf5 := FN.tr hf4 f5
    obtain ⟨μ6, e6, f6⟩ := b_boundOf (w := (k : Int)) (e := 1) H (hf5.D8 H h) W ho (by rw [hf5.f 4 (by decide) (by decide)]; exact hx)
    have ih := ih e μ6 (FN.tr hf5 f6)
    refine zo_pos (by omega) ?_
    refine zo_ob H.o (by omega) ?_
    refine zo_bn e3 ?_
    refine zo_ob H.o (by omega) ?_
    refine zo_bn e4 ?_
    refine zo_ob H.o (by omega) ?_
    refine zo_bn e5 ?_
    refine zo_ob H.o (by omega) ?_
    refine zo_bn e6 ?_
    refine zo_ite (fun z => ?_) (fun z => ?_)
    · rw [ags_p z] at ih
      refine j_X8_agreeing_80 ?_
      rw [w32_s (k := k) (by omega), Int.add_zero, w32_e (show -2147483648 ≤ c ∧ c < 2147483648 by omega)]
      exact ih (by omega)
    · rw [ags_n z] at ih
      refine j_X8_agreeing_80 ?_
      rw [w32_s (k := k) (by omega), w32_e (show -2147483648 ≤ c + 1 ∧ c + 1 < 2147483648 by omega)]
      exact ih (by omega)
  · refine zo_neg (by omega) ?_
    exact zo_rt ⟨μ2, by rw [← fin (by omega)]; rfl, hf⟩
theorem c_comm {w e : Int} (C : CB S x) (hD : D7 S μ (x + 12) M) : zo (f_X7_common_24 zFU x w e 0 0 999 0 (S, μ)) (fun y => y = (.inl (M.cmn w e), (S, μ))) := by
  have h60 := hD.al
  refine zo_fon (F := fun n (k : Nat) (c : Int × Int × Int) => f_X7_common_24 n x w e c.1 c.2.1 c.2.2 (k : Int) (S, μ)) (N := M.an.length) (st := zcms M w) (c0 := (0, 0, 999)) (fun _ _ => True) ?_ True.intro (by show M.an.length < 1000000; omega)
  intro n k c hk _ ih fin
  refine j_X7_common_24 ?_
  refine zo_gr C.o C.r3 (by omega) (by omega) ?_
  refine zo_gr hD.sh.o hD.sh.r1 (by omega) (by omega) ?_
  refine zo_gf hD.sh.ag.o hD.an0 (by omega) (by omega) ?_
  by_cases e1 : k < M.an.length
  · have ih := ih e1 True.intro
    have hk6 : 0 ≤ (k : Int) ∧ (k : Int) < 6 := by omega
    have hls := hD.sh.ls (k : Int) hk6.1 hk6.2
    refine zo_pos (by omega) ?_
    refine zo_gr C.o C.r3 (by omega) (by omega) ?_
    refine zo_ob hD.sh.o (by omega) ?_
    refine zo_bn (d_listOf hD hk6) ?_
    refine zo_ob hls.o (by omega) ?_
    refine zo_bn (d_find hD hk6) ?_
    rcases zfi_cs (k : Int) w (M.li (k : Int)) with ⟨z1, z2, -⟩ | ⟨j, p, z1, z2, z3, -, -⟩
    · rw [cms_n z2] at ih
      rw [z1]
      refine zo_pos rfl ?_
      refine j_X7_common_113 ?_
      rw [w32_s (k := k) (by omega)]
      exact ih
    · rw [cms_p z3] at ih
      rw [z1]
      refine zo_neg (by omega) ?_
      refine zo_gr C.o C.r3 (by omega) (by omega) ?_
      refine zo_ob hD.sh.o (by omega) ?_
      refine zo_bn (d_driftOf hD hk6 z2) ?_
      refine zo_ob hls.o (by omega) ?_
      refine zo_bn (d_lowMoved hD hk6 z2) ?_
      refine zo_ob hls.o (by omega) ?_
      refine zo_bn (d_highMoved hD hk6 z2) ?_
      refine j_X7_common_113 ?_
      rw [w32_s (k := k) (by omega)]
      exact ih
  · refine zo_neg (by omega) ?_
    refine j_X7_common_119 ?_
    have e9 := fin (by omega)
    have ef : M.cmn w e = zcmf e c := by unfold zD.cmn; rw [e9]
    rw [ef]
    unfold zcmf
    refine zo_ite (fun z => zo_rt (by rw [if_pos z])) (fun z => ?_)
    rw [if_neg z]
    refine zo_ite (fun y => zo_rt (by rw [if_pos y])) (fun y => ?_)
    rw [if_neg y]
    refine zo_ite (fun u => zo_rt (by rw [if_pos u])) (fun u => zo_rt (by rw [if_neg u]))
theorem b_comm {w e : Int} (H : MSh S m A) (h : D8 (μ A) M) : zo (f_X8_common_34 zFU m w e 0 999 0 0 (S, μ)) (fun y => y = (.inl (M.cmn w e), (S, μ))) := by
  have h60 := h.al
  refine zo_fon (F := fun n (k : Nat) (c : Int × Int × Int) => f_X8_common_34 n m w e c.2.1 c.2.2 c.1 (k : Int) (S, μ)) (N := M.an.length) (st := zcms M w) (c0 := (0, 0, 999)) (fun _ _ => True) ?_ True.intro (by show M.an.length < 1000000; omega)
  intro n k c hk _ ih fin
  refine j_X8_common_34 ?_
  refine zo_ob H.o (by omega) ?_
  refine zo_bn (b_agents H h) ?_
  by_cases e1 : k < M.an.length
  · have ih := ih e1 True.intro
    have hk6 : 0 ≤ (k : Int) ∧ (k : Int) < 6 := by omega
    refine zo_pos (by omega) ?_
    refine zo_ob H.o (by omega) ?_
    refine zo_bn (b_ownOf H h hk6) ?_
    rcases zfi_cs (k : Int) w (M.li (k : Int)) with ⟨z1, z2, -⟩ | ⟨j, p, z1, z2, z3, -, -⟩
    · rw [cms_n z2] at ih
      rw [z1]
      refine zo_pos rfl ?_
      refine j_X8_common_108 ?_
      rw [w32_s (k := k) (by omega)]
      exact ih
    · rw [cms_p z3] at ih
      rw [z1]
      refine zo_neg (by omega) ?_
      refine zo_ob H.o (by omega) ?_
      refine zo_bn (b_driftOf H h hk6 z2) ?_
      refine zo_ob H.o (by omega) ?_
      refine zo_bn (b_lowBy H h hk6 z2) ?_
      refine zo_ob H.o (by omega) ?_
      refine zo_bn (b_driftOf H h hk6 z2) ?_
      refine zo_ob H.o (by omega) ?_
      refine zo_bn (b_topBy H h hk6 z2) ?_
      refine j_X8_common_108 ?_
      rw [w32_s (k := k) (by omega)]
      exact ih
  · refine zo_neg (by omega) ?_
    refine j_X8_common_114 ?_
    have e9 := fin (by omega)
    have ef : M.cmn w e = zcmf e c := by unfold zD.cmn; rw [e9]
    rw [ef]
    unfold zcmf
    refine zo_ite (fun z => zo_rt (by rw [if_pos z])) (fun z => ?_)
    rw [if_neg z]
    refine zo_ite (fun y => zo_rt (by rw [if_pos y])) (fun y => ?_)
    rw [if_neg y]
    refine zo_ite (fun u => zo_rt (by rw [if_pos u])) (fun u => zo_rt (by rw [if_neg u]))
end C70
theorem o_message {B x : Int} {S : zG} {μ : zM} {M : zD} {L : List zD} {K : zKs} {inp out : List Int} {c p : Int} {P : zG → zM → Prop} {i w : Int} (h : Wd B x S μ M L K inp out c p) (hP : ∀ S1 μ3, Wd B x S1 μ3 M L K inp out c p → P S1 μ3) : zOp x P (f_X7_message x i w) (f_X8_message (x + 66) i w) [(1, 1), (3, 2)] S μ := by
  have h60 := h.a.D.al
  have h61 := h.a.D.wl
  have W := h.w.M
  by_cases h1 : 0 ≤ w ∧ w ≤ 5
  · skip
    by_cases h2 : 0 ≤ i ∧ i < (M.qu.length : Int)
    · skip
      obtain ⟨k, rfl⟩ : ∃ k : Nat, i = (k : Int) := ⟨i.toNat, by omega⟩
      have hkl : k < M.qu.length := by omega
      obtain ⟨q, hq⟩ : ∃ q, M.qu[k]? = some q := ⟨_, List.getElem?_eq_getElem hkl⟩
      have hqo := W.qu q (List.mem_of_getElem? hq)
      refine op_q (v := (M.msg w q)) h ?_ (msg_rng hqo (by omega) (by omega)) ?_ hP
      · refine zo_xq ?_
        refine j_X7_message ?_
        refine zo_bn (k_R h1) ?_
        refine zo_neg (by omega) ?_
        refine zo_gr h.a.C.o h.a.C.r3 (by omega) (by omega) ?_
        refine zo_gr h.a.D.sh.o h.a.D.sh.r6 (by omega) (by omega) ?_
        refine zo_gf h.a.D.sh.qu.o h.a.D.qu.1 (by omega) (by omega) ?_
        refine zo_pos (by omega) ?_
        have hc : w = 0 ∨ w = 1 ∨ w = 2 ∨ w = 3 ∨ w = 4 ∨ w = 5 := by omega
        rcases hc with z | z | z | z | z | z <;> subst z
        · refine zo_tb _ 0 0 rfl (by decide) ?_
          refine zo_gr h.a.C.o h.a.C.r3 (by omega) (by omega) ?_
          refine zo_gr h.a.D.sh.o h.a.D.sh.r6 (by omega) (by omega) ?_
          refine zo_ob h.a.D.sh.qu.o (by omega) ?_
          refine zo_bn (d_qget1 h.a.D hq) ?_
          exact zo_rt ⟨_, rfl, FV.rf⟩
        · refine zo_tb _ 0 1 rfl (by decide) ?_
          refine zo_gr h.a.C.o h.a.C.r3 (by omega) (by omega) ?_
          refine zo_gr h.a.D.sh.o h.a.D.sh.r6 (by omega) (by omega) ?_
          refine zo_ob h.a.D.sh.qu.o (by omega) ?_
          refine zo_bn (d_qget7 h.a.D hq) ?_
          exact zo_rt ⟨_, rfl, FV.rf⟩
        · refine zo_tb _ 0 2 rfl (by decide) ?_
          refine zo_gr h.a.C.o h.a.C.r3 (by omega) (by omega) ?_
          refine zo_gr h.a.D.sh.o h.a.D.sh.r6 (by omega) (by omega) ?_
          refine zo_ob h.a.D.sh.qu.o (by omega) ?_
          refine zo_bn (d_qget0 h.a.D hq) ?_
          exact zo_rt ⟨_, rfl, FV.rf⟩
        · refine zo_tb _ 0 3 rfl (by decide) ?_
          refine zo_gr h.a.C.o h.a.C.r3 (by omega) (by omega) ?_
          refine zo_gr h.a.D.sh.o h.a.D.sh.r6 (by omega) (by omega) ?_
          refine zo_ob h.a.D.sh.qu.o (by omega) ?_
          refine zo_bn (d_qget2 h.a.D hq) ?_
          exact zo_rt ⟨_, rfl, FV.rf⟩
        · refine zo_tb _ 0 4 rfl (by decide) ?_
          refine zo_gr h.a.C.o h.a.C.r3 (by omega) (by omega) ?_
          refine zo_gr h.a.D.sh.o h.a.D.sh.r6 (by omega) (by omega) ?_
          refine zo_ob h.a.D.sh.qu.o (by omega) ?_
          refine zo_bn (d_qget3 h.a.D hq) ?_
          exact zo_rt ⟨_, rfl, FV.rf⟩
        · refine zo_td _ 0 5 rfl (by decide) ?_
          refine zo_gr h.a.C.o h.a.C.r3 (by omega) (by omega) ?_
          refine zo_ob h.a.D.sh.o (by omega) ?_
          refine zo_bn (d_refusal h.a.D W hq) ?_
          exact zo_rt ⟨_, rfl, FV.rf⟩
      · intro S1 μ2 h8
        refine zo_xq ?_
        refine j_X8_message ?_
        refine zo_bn (b_in) ?_
        refine zo_ob h8.H.o (by omega) ?_
        refine zo_bn (b_isMessage h8.H h8.D) ?_
        refine m_p2 h8.H (zbl_nz h1) (zbl_nz h2) ?_
        have g8 : W8 S1 (zup μ2 (x + 66) 0 0) (x + 66) M L K inp out c p := FM.u0.w8 h8
        have gt : zup μ2 (x + 66) 0 0 (x + 66) 0 = 0 := zup_at
        have hc : w = 0 ∨ w = 1 ∨ w = 2 ∨ w = 3 ∨ w = 4 ∨ w = 5 := by omega
        rcases hc with z | z | z | z | z | z <;> subst z
        · refine zo_tb _ 0 0 rfl (by decide) ?_
          refine zo_ob g8.H.o (by omega) ?_
          refine zo_bn (b_ofMessage g8.H g8.D hq (c := 1) (by decide)) ?_
          exact zo_rt ⟨_, rfl, FM.u0, gt⟩
        · refine zo_tb _ 0 1 rfl (by decide) ?_
          refine zo_ob g8.H.o (by omega) ?_
          refine zo_bn (b_ofMessage g8.H g8.D hq (c := 7) (by decide)) ?_
          exact zo_rt ⟨_, rfl, FM.u0, gt⟩
        · refine zo_tb _ 0 2 rfl (by decide) ?_
          refine zo_ob g8.H.o (by omega) ?_
          refine zo_bn (b_ofMessage g8.H g8.D hq (c := 0) (by decide)) ?_
          exact zo_rt ⟨_, rfl, FM.u0, gt⟩
        · refine zo_tb _ 0 3 rfl (by decide) ?_
          refine zo_ob g8.H.o (by omega) ?_
          refine zo_bn (b_ofMessage g8.H g8.D hq (c := 2) (by decide)) ?_
          exact zo_rt ⟨_, rfl, FM.u0, gt⟩
        · refine zo_tb _ 0 4 rfl (by decide) ?_
          refine zo_ob g8.H.o (by omega) ?_
          refine zo_bn (b_ofMessage g8.H g8.D hq (c := 3) (by decide)) ?_
          exact zo_rt ⟨_, rfl, FM.u0, gt⟩
        · refine zo_td _ 0 5 rfl (by decide) ?_
          refine zo_ob g8.H.o (by omega) ?_
          refine zo_bn (b_refusalOf g8.H g8.D W hq) ?_
          exact zo_rt ⟨_, rfl, FM.u0, gt⟩
    · refine op_t 3 2 h ?_ (by decide) (by decide) ?_ hP
      · apply zo_un
        refine j_X7_message ?_
        refine zo_bn (k_R h1) ?_
        by_cases hz : i < 0
        · exact zo_pos hz (zo_rt rfl)
        · refine zo_neg hz ?_
          refine zo_gr h.a.C.o h.a.C.r3 (by omega) (by omega) ?_
          refine zo_gr h.a.D.sh.o h.a.D.sh.r6 (by omega) (by omega) ?_
          refine zo_gf h.a.D.sh.qu.o h.a.D.qu.1 (by omega) (by omega) ?_
          exact zo_neg (by omega) (zo_rt rfl)
      · intro S1 μ2 h8
        refine zo_xt ?_
        refine j_X8_message ?_
        refine zo_bn (b_in) ?_
        refine zo_ob h8.H.o (by omega) ?_
        refine zo_bn (b_isMessage h8.H h8.D) ?_
        refine m_f2b h8.H (zbl_nz h1) (zbl_n (fun z => h2 z)) ?_
        exact ⟨_, _, rfl, FM.u0, zup_at⟩
  · refine op_t 1 1 h ?_ (by decide) (by decide) ?_ hP
    · apply zo_un
      refine j_X7_message ?_
      exact zo_be (k_R_no h1) rfl
    · intro S1 μ2 h8
      refine zo_xt ?_
      refine j_X8_message ?_
      refine zo_bn (b_in) ?_
      refine zo_ob h8.H.o (by omega) ?_
      refine zo_bn (b_isMessage h8.H h8.D) ?_
      refine m_f2a h8.H (zbl_n (fun z => h1 z)) ?_
      exact ⟨_, _, rfl, FM.u0, zup_at⟩
theorem o_nextProbe {B x : Int} {S : zG} {μ : zM} {M : zD} {L : List zD} {K : zKs} {inp out : List Int} {c p : Int} {P : zG → zM → Prop} {a : Int} (h : Wd B x S μ M L K inp out c p) (hP : ∀ S1 μ3, Wd B x S1 μ3 M L K inp out c p → P S1 μ3) : zOp x P (f_X7_nextProbe x a) (f_X8_nextProbe (x + 66) a) [(2, 1)] S μ := by
  have h60 := h.a.D.al
  have h61 := h.a.D.wl
  have W := h.w.M
  by_cases h1 : 0 ≤ a ∧ a < (M.an.length : Int)
  · skip
    refine op_q (v := (M.nxp a)) h ?_ (by have := nxp_rng (a := a) h61; unfold zI; omega) ?_ hP
    · refine zo_xq ?_
      refine j_X7_nextProbe ?_
      refine zo_ob h.a.C.o (by omega) ?_
      refine zo_bn (k_A h.a.C h.a.D h1) ?_
      obtain ⟨μ4, e4, f4⟩ := c_bestWay (r := 0) h.a.C h.a.D W (by omega) (show 0 ≤ a ∧ a < 6 by omega)
      obtain ⟨μ5, e5, f5⟩ := c_rivalsOf (r := M.bst a 0) h.a.C (f4.d h.a.D) W (show 0 ≤ a ∧ a < 6 by omega)
      refine zo_gr h.a.C.o h.a.C.r3 (by omega) (by omega) ?_
      refine zo_ob h.a.C.o (by omega) ?_
      refine zo_bn e4 ?_
      refine zo_ob h.a.C.o (by omega) ?_
      refine zo_bn e5 ?_
      by_cases hz : M.riv a (M.bst a 0) = 0
      · have er : M.nxp a = -1 := if_pos hz
        refine zo_pos hz ?_
        exact zo_rt ⟨_, by rw [er], FV.tr f4 f5⟩
      · have er : M.nxp a = (zlp (znps M a (M.bst a 0) (M.riv a (M.bst a 0))) 0 M.wn.length (-1, -1)).1 := if_neg hz
        rw [er]
        refine zo_neg hz ?_
        refine zo_mono (c_nextP h.a.C h.a.D W (show 0 ≤ a ∧ a < 6 by omega) (FV.tr f4 f5)) ?_
        rintro r ⟨μ6, hr, f6⟩
        exact ⟨μ6, hr, f6⟩
    · intro S1 μ2 h8
      refine zo_xq ?_
      refine j_X8_nextProbe ?_
      refine zo_ob h8.H.o (by omega) ?_
      refine zo_bn (b_isAgent h8.H h8.D) ?_
      refine m_p1 h8.H (zbl_nz h1) ?_
      have g8 : W8 S1 (zup μ2 (x + 66) 0 0) (x + 66) M L K inp out c p := FM.u0.w8 h8
      have gt : zup μ2 (x + 66) 0 0 (x + 66) 0 = 0 := zup_at
      obtain ⟨μ4, e4, f4⟩ := b_rivalsOf g8.H g8.D W (show 0 ≤ a ∧ a < 6 by omega) g8.w
      refine zo_ob g8.H.o (by omega) ?_
      refine zo_bn e4 ?_
      by_cases hz : M.riv a (M.bst a 0) = 0
      · have er : M.nxp a = -1 := if_pos hz
        refine zo_pos hz ?_
        exact zo_rt ⟨_, by rw [er], FM.tr FM.u0 f4.fm, by rw [f4.f _ (by decide) (by decide)]; exact gt⟩
      · have er : M.nxp a = (zlp (znps M a (M.bst a 0) (M.riv a (M.bst a 0))) 0 M.wn.length (-1, -1)).1 := if_neg hz
        rw [er]
        refine zo_neg hz ?_
        have g4 := f4.fm.w8 g8
        obtain ⟨μ5, e5, f5⟩ := b_bestOf (r := 0) g4.H g4.D W (show 0 ≤ a ∧ a < 6 by omega) g4.w
        have hb : 0 ≤ M.bst a 0 ∧ M.bst a 0 < 6 := by
          rcases bst_rng M a 0 with y | y
          · exact absurd (show M.riv a (M.bst a 0) = 0 from if_pos y.2) hz
          · omega
        refine zo_ob g4.H.o (by omega) ?_
        refine zo_bn e5 ?_
        refine zo_mono (b_nextP g8.H g8.D W (show 0 ≤ a ∧ a < 6 by omega) g8.w (FN.tr f4 f5) (riv_64 h61) hb) ?_
        rintro r ⟨μ6, hr, f6⟩
        exact ⟨μ6, hr, FM.tr FM.u0 f6.fm, by rw [f6.f _ (by decide) (by decide)]; exact gt⟩
  · refine op_t 2 1 h ?_ (by decide) (by decide) ?_ hP
    · apply zo_un
      refine j_X7_nextProbe ?_
      refine zo_ob h.a.C.o (by omega) ?_
      exact zo_be (k_A_no h.a.C h.a.D h1) rfl
    · intro S1 μ2 h8
      refine zo_xt ?_
      refine j_X8_nextProbe ?_
      refine zo_ob h8.H.o (by omega) ?_
      refine zo_bn (b_isAgent h8.H h8.D) ?_
      refine m_f1 h8.H (zbl_n (fun z => h1 z)) ?_
      exact ⟨_, _, rfl, FM.u0, zup_at⟩
theorem o_saved {B x : Int} {S : zG} {μ : zM} {M : zD} {L : List zD} {K : zKs} {inp out : List Int} {c p : Int} {P : zG → zM → Prop} {a : Int} (h : Wd B x S μ M L K inp out c p) (hP : ∀ S1 μ3, Wd B x S1 μ3 M L K inp out c p → P S1 μ3) : zOp x P (f_X7_saved x a) (f_X8_saved (x + 66) a) [(2, 1)] S μ := by
  have h60 := h.a.D.al
  have h61 := h.a.D.wl
  have W := h.w.M
  by_cases h1 : 0 ≤ a ∧ a < (M.an.length : Int)
  · skip
    refine op_q (v := (M.svd a)) h ?_ (by have := cnt_rng (svs_cs M a) M.wn.length; unfold zI zD.svd; omega) ?_ hP
    · refine zo_xq ?_
      refine j_X7_saved ?_
      refine zo_ob h.a.C.o (by omega) ?_
      refine zo_bn (k_A h.a.C h.a.D h1) ?_
      refine zo_mono (c_saved h.a.C h.a.D W (show 0 ≤ a ∧ a < 6 by omega)) ?_
      rintro r ⟨μ4, hr, f4⟩
      exact ⟨μ4, hr, f4⟩
    · intro S1 μ2 h8
      refine zo_xq ?_
      refine j_X8_saved ?_
      refine zo_ob h8.H.o (by omega) ?_
      refine zo_bn (b_isAgent h8.H h8.D) ?_
      refine m_p1 h8.H (zbl_nz h1) ?_
      have g8 : W8 S1 (zup μ2 (x + 66) 0 0) (x + 66) M L K inp out c p := FM.u0.w8 h8
      have gt : zup μ2 (x + 66) 0 0 (x + 66) 0 = 0 := zup_at
      refine zo_mono (b_saved g8.H g8.D W (show 0 ≤ a ∧ a < 6 by omega) g8.w) ?_
      rintro r ⟨μ4, hr, f4⟩
      exact ⟨μ4, hr, FM.tr FM.u0 f4.fm, by rw [f4.f _ (by decide) (by decide)]; exact gt⟩
  · refine op_t 2 1 h ?_ (by decide) (by decide) ?_ hP
    · apply zo_un
      refine j_X7_saved ?_
      refine zo_ob h.a.C.o (by omega) ?_
      exact zo_be (k_A_no h.a.C h.a.D h1) rfl
    · intro S1 μ2 h8
      refine zo_xt ?_
      refine j_X8_saved ?_
      refine zo_ob h8.H.o (by omega) ?_
      refine zo_bn (b_isAgent h8.H h8.D) ?_
      refine m_f1 h8.H (zbl_n (fun z => h1 z)) ?_
      exact ⟨_, _, rfl, FM.u0, zup_at⟩
theorem o_agreeing {B x : Int} {S : zG} {μ : zM} {M : zD} {L : List zD} {K : zKs} {inp out : List Int} {c p : Int} {P : zG → zM → Prop} {a o : Int} (h : Wd B x S μ M L K inp out c p) (hP : ∀ S1 μ3, Wd B x S1 μ3 M L K inp out c p → P S1 μ3) : zOp x P (f_X7_agreeing x a o) (f_X8_agreeing (x + 66) a o) [(2, 1)] S μ := by
  have h60 := h.a.D.al
  have h61 := h.a.D.wl
  have W := h.w.M
  by_cases h1 : 0 ≤ a ∧ a < (M.an.length : Int)
  · skip
    by_cases h2 : 0 ≤ o ∧ o < (M.an.length : Int)
    · skip
      refine op_q (v := (M.agr a o)) h ?_ (by have := cnt_rng (ags_cs M a o) M.wn.length; unfold zI zD.agr; omega) ?_ hP
      · refine zo_xq ?_
        refine j_X7_agreeing ?_
        refine zo_ob h.a.C.o (by omega) ?_
        refine zo_bn (k_A h.a.C h.a.D h1) ?_
        refine zo_ob h.a.C.o (by omega) ?_
        refine zo_bn (k_A h.a.C h.a.D h2) ?_
        refine zo_mono (c_agree h.a.C h.a.D W (show 0 ≤ a ∧ a < 6 by omega) (by omega)) ?_
        rintro r ⟨μ4, hr, f4⟩
        exact ⟨μ4, hr, f4⟩
      · intro S1 μ2 h8
        refine zo_xq ?_
        refine j_X8_agreeing ?_
        refine zo_ob h8.H.o (by omega) ?_
        refine zo_bn (b_areAgents h8.H h8.D) ?_
        refine m_p1 h8.H (zbl_nz ⟨h1, h2⟩) ?_
        have g8 : W8 S1 (zup μ2 (x + 66) 0 0) (x + 66) M L K inp out c p := FM.u0.w8 h8
        have gt : zup μ2 (x + 66) 0 0 (x + 66) 0 = 0 := zup_at
        refine zo_mono (b_agree g8.H g8.D W (show 0 ≤ a ∧ a < 6 by omega) (by omega) g8.w) ?_
        rintro r ⟨μ4, hr, f4⟩
        exact ⟨μ4, hr, FM.tr FM.u0 f4.fm, by rw [f4.f _ (by decide) (by decide)]; exact gt⟩
    · refine op_t 2 1 h ?_ (by decide) (by decide) ?_ hP
      · apply zo_un
        refine j_X7_agreeing ?_
        refine zo_ob h.a.C.o (by omega) ?_
        refine zo_bn (k_A h.a.C h.a.D h1) ?_
        refine zo_ob h.a.C.o (by omega) ?_
        exact zo_be (k_A_no h.a.C h.a.D h2) rfl
      · intro S1 μ2 h8
        refine zo_xt ?_
        refine j_X8_agreeing ?_
        refine zo_ob h8.H.o (by omega) ?_
        refine zo_bn (b_areAgents h8.H h8.D) ?_
        refine m_f1 h8.H (zbl_n (fun z => h2 z.2)) ?_
        exact ⟨_, _, rfl, FM.u0, zup_at⟩
  · refine op_t 2 1 h ?_ (by decide) (by decide) ?_ hP
    · apply zo_un
      refine j_X7_agreeing ?_
      refine zo_ob h.a.C.o (by omega) ?_
      exact zo_be (k_A_no h.a.C h.a.D h1) rfl
    · intro S1 μ2 h8
      refine zo_xt ?_
      refine j_X8_agreeing ?_
      refine zo_ob h8.H.o (by omega) ?_
      refine zo_bn (b_areAgents h8.H h8.D) ?_
      refine m_f1 h8.H (zbl_n (fun z => h1 z.1)) ?_
      exact ⟨_, _, rfl, FM.u0, zup_at⟩
theorem o_common {B x : Int} {S : zG} {μ : zM} {M : zD} {L : List zD} {K : zKs} {inp out : List Int} {c p : Int} {P : zG → zM → Prop} {w e : Int} (h : Wd B x S μ M L K inp out c p) (hP : ∀ S1 μ3, Wd B x S1 μ3 M L K inp out c p → P S1 μ3) : zOp x P (f_X7_common x w e) (f_X8_common (x + 66) w e) [(2, 1), (1, 2)] S μ := by
  have h60 := h.a.D.al
  have h61 := h.a.D.wl
  have W := h.w.M
  by_cases h1 : 0 ≤ w ∧ w < (M.wn.length : Int)
  · skip
    by_cases h2 : 0 ≤ e ∧ e ≤ 1
    · skip
      refine op_q (v := (M.cmn w e)) h ?_ (cmn_rng _ _ _) ?_ hP
      · refine zo_xq ?_
        refine j_X7_common ?_
        refine zo_ob h.a.C.o (by omega) ?_
        refine zo_bn (k_W h.a.C h.a.D h1) ?_
        refine zo_bn (k_R h2) ?_
        refine zo_mono (c_comm h.a.C h.a.D) ?_
        rintro r rfl
        exact ⟨_, rfl, FV.rf⟩
      · intro S1 μ2 h8
        refine zo_xq ?_
        refine j_X8_common ?_
        refine zo_ob h8.H.o (by omega) ?_
        refine zo_bn (b_isWay h8.H h8.D) ?_
        refine zo_bn (b_in) ?_
        refine m_p2 h8.H (zbl_nz h1) (zbl_nz h2) ?_
        have g8 : W8 S1 (zup μ2 (x + 66) 0 0) (x + 66) M L K inp out c p := FM.u0.w8 h8
        have gt : zup μ2 (x + 66) 0 0 (x + 66) 0 = 0 := zup_at
        refine zo_mono (b_comm g8.H g8.D) ?_
        rintro r rfl
        exact ⟨_, rfl, FM.u0, gt⟩
    · refine op_t 1 2 h ?_ (by decide) (by decide) ?_ hP
      · apply zo_un
        refine j_X7_common ?_
        refine zo_ob h.a.C.o (by omega) ?_
        refine zo_bn (k_W h.a.C h.a.D h1) ?_
        exact zo_be (k_R_no h2) rfl
      · intro S1 μ2 h8
        refine zo_xt ?_
        refine j_X8_common ?_
        refine zo_ob h8.H.o (by omega) ?_
        refine zo_bn (b_isWay h8.H h8.D) ?_
        refine zo_bn (b_in) ?_
        refine m_f2b h8.H (zbl_nz h1) (zbl_n (fun z => h2 z)) ?_
        exact ⟨_, _, rfl, FM.u0, zup_at⟩
  · refine op_t 2 1 h ?_ (by decide) (by decide) ?_ hP
    · apply zo_un
      refine j_X7_common ?_
      refine zo_ob h.a.C.o (by omega) ?_
      exact zo_be (k_W_no h.a.C h.a.D h1) rfl
    · intro S1 μ2 h8
      refine zo_xt ?_
      refine j_X8_common ?_
      refine zo_ob h8.H.o (by omega) ?_
      refine zo_bn (b_isWay h8.H h8.D) ?_
      refine zo_bn (b_in) ?_
      refine m_f2a h8.H (zbl_n (fun z => h1 z)) ?_
      exact ⟨_, _, rfl, FM.u0, zup_at⟩
