/-! C 70: messages, the next probe, what is saved, who agrees -/
noncomputable def znps (M : zD) (a b r : Int) (k : Nat) (c : Int × Int) : Int × Int := @ite _ (((k : Int) = b ∨ zand (zshr r (k : Int)) 1 = 1) ∧ c.2 < M.wid a (k : Int) (-1)) (Classical.propDecidable _) ((k : Int), M.wid a (k : Int) (-1)) c
theorem nps_p {M : zD} {a b r : Int} {k : Nat} {c : Int × Int} (h1 : (k : Int) = b ∨ zand (zshr r (k : Int)) 1 = 1) (h2 : c.2 < M.wid a (k : Int) (-1)) : znps M a b r k c = ((k : Int), M.wid a (k : Int) (-1)) := if_pos ⟨h1, h2⟩
theorem nps_n {M : zD} {a b r : Int} {k : Nat} {c : Int × Int} (h : ¬ (((k : Int) = b ∨ zand (zshr r (k : Int)) 1 = 1) ∧ c.2 < M.wid a (k : Int) (-1))) : znps M a b r k c = c := if_neg h
noncomputable def zD.nxp (M : zD) (a : Int) : Int := if M.riv a (M.bst a 0) = 0 then -1 else (zlp (znps M a (M.bst a 0) (M.riv a (M.bst a 0))) 0 M.wn.length (-1, -1)).1
noncomputable def zsvs (M : zD) (a : Int) (k : Nat) (c : Int) : Int := @ite _ (zfi (zq a (k : Int)) (zqD a (k : Int)) (M.li a) 0 = -1 ∧ ¬ M.wid a (k : Int) (-1) = 999) (Classical.propDecidable _) (c + 1) c
theorem svs_p {M : zD} {a c : Int} {k : Nat} (h1 : zfi (zq a (k : Int)) (zqD a (k : Int)) (M.li a) 0 = -1) (h2 : ¬ M.wid a (k : Int) (-1) = 999) : zsvs M a k c = c + 1 := if_pos ⟨h1, h2⟩
theorem svs_n {M : zD} {a c : Int} {k : Nat} (h : ¬ (zfi (zq a (k : Int)) (zqD a (k : Int)) (M.li a) 0 = -1 ∧ ¬ M.wid a (k : Int) (-1) = 999)) : zsvs M a k c = c := if_neg h
noncomputable def zD.svd (M : zD) (a : Int) : Int := zlp (zsvs M a) 0 M.wn.length 0
noncomputable def zags (M : zD) (a o : Int) (k : Nat) (c : Int) : Int := if min (M.bnd a (k : Int) 1) (M.bnd o (k : Int) 1) < max (M.bnd a (k : Int) 0) (M.bnd o (k : Int) 0) then c else c + 1
theorem ags_p {M : zD} {a o c : Int} {k : Nat} (h : min (M.bnd a (k : Int) 1) (M.bnd o (k : Int) 1) < max (M.bnd a (k : Int) 0) (M.bnd o (k : Int) 0)) : zags M a o k c = c := if_pos h
theorem ags_n {M : zD} {a o c : Int} {k : Nat} (h : ¬ min (M.bnd a (k : Int) 1) (M.bnd o (k : Int) 1) < max (M.bnd a (k : Int) 0) (M.bnd o (k : Int) 0)) : zags M a o k c = c + 1 := if_neg h
noncomputable def zD.agr (M : zD) (a o : Int) : Int := zlp (zags M a o) 0 M.wn.length 0
noncomputable def zcms (M : zD) (w : Int) (k : Nat) (c : Int × Int × Int) : Int × Int × Int :=
  match (M.li (k : Int)).find? (zqb (k : Int) w) with
  | none => c
  | some p => (1, max c.2.1 (zlo p (M.dr p)), min c.2.2 (zhi p (M.dr p)))
theorem cms_n {M : zD} {w : Int} {k : Nat} {c : Int × Int × Int} (h : (M.li (k : Int)).find? (zqb (k : Int) w) = none) : zcms M w k c = c := by unfold zcms; rw [h]
theorem cms_p {M : zD} {w : Int} {k : Nat} {c : Int × Int × Int} {p : zP} (h : (M.li (k : Int)).find? (zqb (k : Int) w) = some p) : zcms M w k c = (1, max c.2.1 (zlo p (M.dr p)), min c.2.2 (zhi p (M.dr p))) := by unfold zcms; rw [h]
noncomputable def zcmf (e : Int) (c : Int × Int × Int) : Int := if c.1 = 0 then -1 else if c.2.2 < c.2.1 then -1 else if e = 0 then c.2.1 else c.2.2
noncomputable def zD.cmn (M : zD) (w e : Int) : Int := zcmf e (zlp (zcms M w) 0 M.an.length (0, 0, 999))
section C70
variable {S S' : zG} {μ μ' μ1 : zM} {x m d B A a o t : Int} {M M' : zD} {L : List zD} {K : zKs} {P : zG → zM → Prop} {Q : zR × zS → Prop}
theorem c_nextP {b r : Int} (C : CB S x) (hD : D7 S μ (x + 12) M) (W : WF B M) (ha : 0 ≤ a ∧ a < 6) (f1 : FV (x + 5) μ μ1) : zo (f_X7_nextProbe_38 zFU x a b r (-1) (-1) 0 (S, μ1)) (fun y => ∃ μ', y = (.inl (zlp (znps M a b r) 0 M.wn.length (-1, -1)).1, (S, μ')) ∧ FV (x + 5) μ μ') := by
  have h61 := hD.wl
  refine zo_for (F := fun n (k : Nat) (c : Int × Int) (μ2 : zM) => f_X7_nextProbe_38 n x a b r c.1 c.2 (k : Int) (S, μ2)) (N := M.wn.length) (st := znps M a b r) (c0 := (-1, -1)) (fun _ _ => True) (fun μ2 => FV (x + 5) μ μ2) ?_ True.intro f1 (by show M.wn.length < 1000000; omega)
  intro n k c μ2 hk _ hf ih fin
  have hD2 := hf.d hD
  refine j_X7_nextProbe_38 ?_
  refine zo_gr C.o C.r3 (by omega) (by omega) ?_
  refine zo_gr hD2.sh.o hD2.sh.r2 (by omega) (by omega) ?_
  refine zo_gf hD2.sh.wa.o hD2.wn0 (by omega) (by omega) ?_
  by_cases e : k < M.wn.length
  · obtain ⟨μ3, e3, f3⟩ := c_widthOf (w := (k : Int)) (t := -1) C hD2 W (by omega) ha
    have ih := ih e μ3 (FV.tr hf f3) True.intro
    have no : znps M a b r k c = c → zo (f_X7_nextProbe_97 (f_X7_nextProbe_38 n) x a b r c.1 c.2 (k : Int) (S, μ3)) (fun y => ∃ μ', y = (.inl (zlp (znps M a b r) 0 M.wn.length (-1, -1)).1, (S, μ')) ∧ FV (x + 5) μ μ') := by
      intro es
      rw [es] at ih
      refine j_X7_nextProbe_97 ?_
      rw [w32_s (k := k) (by omega)]
      exact ih
    have mid : ((k : Int) = b ∨ zand (zshr r (k : Int)) 1 = 1) → zo (f_X7_nextProbe_82 (f_X7_nextProbe_38 n) x a b r c.1 c.2 (k : Int) (M.wid a (k : Int) (-1)) (S, μ3)) (fun y => ∃ μ', y = (.inl (zlp (znps M a b r) 0 M.wn.length (-1, -1)).1, (S, μ')) ∧ FV (x + 5) μ μ') := by
      intro hb
      refine j_X7_nextProbe_82 ?_
      refine zo_ite (fun z => ?_) (fun z => no (nps_n (fun y => z y.2)))
      rw [nps_p hb z] at ih
      refine j_X7_nextProbe_97 ?_
      rw [w32_s (k := k) (by omega)]
      exact ih
    refine zo_pos (by omega) ?_
    refine zo_gr C.o C.r3 (by omega) (by omega) ?_
    refine zo_ob C.o (by omega) ?_
    refine zo_bn e3 ?_
    refine zo_ite (fun z => mid (Or.inl z)) (fun z => ?_)
    refine zo_bn c_cont2 ?_
    refine zo_zb (fun y => no (nps_n (fun w => w.1.elim z y))) (fun y => mid (Or.inr y))
  · refine zo_neg (by omega) ?_
    exact zo_rt ⟨μ2, by rw [← fin (by omega)], hf⟩
theorem c_saved (C : CB S x) (hD : D7 S μ (x + 12) M) (W : WF B M) (ha : 0 ≤ a ∧ a < 6) : zo (f_X7_saved_9 zFU x a 0 0 (S, μ)) (fun y => ∃ μ', y = (.inl (M.svd a), (S, μ')) ∧ FV (x + 5) μ μ') := by
  have h61 := hD.wl
  refine zo_for (F := fun n (k : Nat) (c : Int) (μ2 : zM) => f_X7_saved_9 n x a c (k : Int) (S, μ2)) (N := M.wn.length) (st := zsvs M a) (c0 := 0) (fun k c => 0 ≤ c ∧ c ≤ (k : Int)) (fun μ2 => FV (x + 5) μ μ2) ?_ (by decide) FV.rf (by show M.wn.length < 1000000; omega)
  intro n k c μ2 hk hc hf ih fin
  have hD2 := hf.d hD
  refine j_X7_saved_9 ?_
  refine zo_gr C.o C.r3 (by omega) (by omega) ?_
  refine zo_gr hD2.sh.o hD2.sh.r2 (by omega) (by omega) ?_
  refine zo_gf hD2.sh.wa.o hD2.wn0 (by omega) (by omega) ?_
  by_cases e : k < M.wn.length
  · have no : ∀ μ3, FV (x + 5) μ μ3 → zsvs M a k c = c → zo (f_X7_saved_60 (f_X7_saved_9 n) x a c (k : Int) (S, μ3)) (fun y => ∃ μ', y = (.inl (M.svd a), (S, μ')) ∧ FV (x + 5) μ μ') := by
      intro μ3 hf3 es
      have ih := ih e μ3 hf3
      rw [es] at ih
      refine j_X7_saved_60 ?_
      rw [w32_s (k := k) (by omega)]
      exact ih (by omega)
    refine zo_pos (by omega) ?_
    refine zo_gr C.o C.r3 (by omega) (by omega) ?_
    refine zo_ob hD2.sh.o (by omega) ?_
    refine zo_bn (d_listOf hD2 ha) ?_
    refine zo_ob (hD2.sh.ls a ha.1 ha.2).o (by omega) ?_
    refine zo_bn (d_find hD2 ha) ?_
    refine zo_ite (fun z => ?_) (fun z => no μ2 hf (svs_n (fun y => z y.1)))
    obtain ⟨μ3, e3, f3⟩ := c_widthOf (w := (k : Int)) (t := -1) C hD2 W (by omega) ha
    refine zo_gr C.o C.r3 (by omega) (by omega) ?_
    refine zo_ob C.o (by omega) ?_
    refine zo_bn e3 ?_
    refine zo_ite (fun y => no μ3 (FV.tr hf f3) (svs_n (fun w => w.2 y))) (fun y => ?_)
    have ih := ih e μ3 (FV.tr hf f3)
    rw [svs_p z y] at ih
    refine j_X7_saved_60 ?_
    rw [w32_s (k := k) (by omega), w32_e (show -2147483648 ≤ c + 1 ∧ c + 1 < 2147483648 by omega)]
    exact ih (by omega)
  · refine zo_neg (by omega) ?_
    exact zo_rt ⟨μ2, by rw [← fin (by omega)]; rfl, hf⟩
theorem c_agree (C : CB S x) (hD : D7 S μ (x + 12) M) (W : WF B M) (ha : 0 ≤ a ∧ a < 6) (ho : 0 ≤ o ∧ o < 6) : zo (f_X7_agreeing_15 zFU x a o 0 0 (S, μ)) (fun y => ∃ μ', y = (.inl (M.agr a o), (S, μ')) ∧ FV (x + 5) μ μ') := by
  have h61 := hD.wl
  refine zo_for (F := fun n (k : Nat) (c : Int) (μ2 : zM) => f_X7_agreeing_15 n x a o c (k : Int) (S, μ2)) (N := M.wn.length) (st := zags M a o) (c0 := 0) (fun k c => 0 ≤ c ∧ c ≤ (k : Int)) (fun μ2 => FV (x + 5) μ μ2) ?_ (by decide) FV.rf (by show M.wn.length < 1000000; omega)
  intro n k c μ2 hk hc hf ih fin
  have hD2 := hf.d hD
  refine j_X7_agreeing_15 ?_
  refine zo_gr C.o C.r3 (by omega) (by omega) ?_
  refine zo_gr hD2.sh.o hD2.sh.r2 (by omega) (by omega) ?_
  refine zo_gf hD2.sh.wa.o hD2.wn0 (by omega) (by omega) ?_
  by_cases e : k < M.wn.length
  · obtain ⟨μ3, e3, f3⟩ := c_believed (w := (k : Int)) (e := 0) C hD2 W (by omega) ha
    have hf3 := FV.tr hf f3
    obtain ⟨μ4, e4, f4⟩ := c_believed (w := (k : Int)) (e := 0) C (hf3.d hD) W (by omega) ho
    have hf4 := FV.tr hf3 f4
    obtain ⟨μ5, e5, f5⟩ := c_believed (w := (k : Int)) (e := 1) C (hf4.d hD) W (by omega) ha
    have hf5 := FV.tr hf4 f5
    obtain ⟨μ6, e6, f6⟩ := c_believed (w := (k : Int)) (e := 1) C (hf5.d hD) W (by omega) ho
    have ih := ih e μ6 (FV.tr hf5 f6)
    refine zo_pos (by omega) ?_
    refine zo_gr C.o C.r3 (by omega) (by omega) ?_
    refine zo_ob C.o (by omega) ?_
    refine zo_bn e3 ?_
    refine zo_gr C.o C.r3 (by omega) (by omega) ?_
    refine zo_ob C.o (by omega) ?_
    refine zo_bn e4 ?_
    refine zo_gr C.o C.r3 (by omega) (by omega) ?_
    refine zo_ob C.o (by omega) ?_
    refine zo_bn e5 ?_
    refine zo_gr C.o C.r3 (by omega) (by omega) ?_
    refine zo_ob C.o (by omega) ?_
    refine zo_bn e6 ?_
    refine zo_ite (fun z => ?_) (fun z => ?_)
    · rw [ags_p z] at ih
      refine j_X7_agreeing_98 ?_
      rw [w32_s (k := k) (by omega)]
      exact ih (by omega)
    · rw [ags_n z] at ih
      refine j_X7_agreeing_98 ?_
      rw [w32_s (k := k) (by omega), w32_e (show -2147483648 ≤ c + 1 ∧ c + 1 < 2147483648 by omega)]
      exact ih (by omega)
  · refine zo_neg (by omega) ?_
    exact zo_rt ⟨μ2, by rw [← fin (by omega)]; rfl, hf⟩
theorem c_comm {w e : Int} (C : CB S x) (hD : D7 S μ (x + 12) M) : zo (f_X7_common_24 zFU x w e 0 0 999 0 (S, μ)) (fun y => y = (.inl (M.cmn w e), (S, μ))) := by
  have h60 := hD.al
  refine zo_fon (F := fun n (k : Nat) (c : Int × Int × Int) => f_X7_common_24 n x w e c.1 c.2.1 c.2.2 (k : Int) (S, μ)) (N := M.an.length) (st := zcms M w) (c0 := (0, 0, 999)) (fun _ _ => True) ?_ True.intro (by show M.an.length < 1000000; omega)
  intro n k c hk _ ih fin
  refine j_X7_common_24 ?_
  refine zo_gr C.o C.r3 (by omega) (by omega) ?_
  refine zo_gr hD.sh.o hD.sh.r1 (by omega) (by omega) ?_
  refine zo_gf hD.sh.ag.o hD.an0 (by omega) (by omega) ?_
  by_cases e1 : k < M.an.length
  · have ih := ih e1 True.intro
    have hk6 : 0 ≤ (k : Int) ∧ (k : Int) < 6 := by omega
    have hls := hD.sh.ls (k : Int) hk6.1 hk6.2
    refine zo_pos (by omega) ?_
    refine zo_gr C.o C.r3 (by omega) (by omega) ?_
    refine zo_ob hD.sh.o (by omega) ?_
    refine zo_bn (d_listOf hD hk6) ?_
    refine zo_ob hls.o (by omega) ?_
    refine zo_bn (d_find hD hk6) ?_
    rcases zfi_cs (k : Int) w (M.li (k : Int)) with ⟨z1, z2, -⟩ | ⟨j, p, z1, z2, z3, -, -⟩
    · rw [cms_n z2] at ih
      rw [z1]
      refine zo_pos rfl ?_
      refine j_X7_common_113 ?_
      rw [w32_s (k := k) (by omega)]
      exact ih
    · rw [cms_p z3] at ih
      rw [z1]
      refine zo_neg (by omega) ?_
      refine zo_gr C.o C.r3 (by omega) (by omega) ?_
      refine zo_ob hD.sh.o (by omega) ?_
      refine zo_bn (d_driftOf hD hk6 z2) ?_
      refine zo_ob hls.o (by omega) ?_
      refine zo_bn (d_lowMoved hD hk6 z2) ?_
      refine zo_ob hls.o (by omega) ?_
      refine zo_bn (d_highMoved hD hk6 z2) ?_
      refine j_X7_common_113 ?_
      rw [w32_s (k := k) (by omega)]
      exact ih
  · refine zo_neg (by omega) ?_
    refine j_X7_common_119 ?_
    have e9 := fin (by omega)
    have ef : M.cmn w e = zcmf e c := by unfold zD.cmn; rw [e9]
    rw [ef]
    unfold zcmf
    refine zo_ite (fun z => zo_rt (by rw [if_pos z])) (fun z => ?_)
    rw [if_neg z]
    refine zo_ite (fun y => zo_rt (by rw [if_pos y])) (fun y => ?_)
    rw [if_neg y]
    refine zo_ite (fun u => zo_rt (by rw [if_pos u])) (fun u => zo_rt (by rw [if_neg u]))
end C70
