/-! C 44: the view is formed -/
theorem zent_c (w x : Int) (p : zP) (r : List zP) (k : Nat) : zent w x (p :: r) k = if p 3 = w ∧ ¬ p 1 = x then (k, p) :: zent w x r (k + 1) else zent w x r (k + 1) := rfl
theorem zent_mem {w x : Int} : ∀ (l : List zP) (k r : Nat) (p : zP), (r, p) ∈ zent w x l k → k ≤ r ∧ l[r - k]? = some p ∧ p 3 = w ∧ ¬ p 1 = x := by
  intro l
  induction l with
  | nil => intro k r p h; cases h
  | cons q s ih =>
    intro k r p h
    rw [zent_c] at h
    have next : (r, p) ∈ zent w x s (k + 1) → k ≤ r ∧ (q :: s)[r - k]? = some p ∧ p 3 = w ∧ ¬ p 1 = x := by
      intro h
      obtain ⟨h1, h2, h3⟩ := ih (k + 1) r p h
      refine ⟨by omega, ?_, h3⟩
      have e : r - k = (r - (k + 1)) + 1 := by omega
      rw [e]
      exact h2
    split at h
    · rename_i hq
      rcases List.mem_cons.mp h with e | h
      · have e1 : r = k := congrArg Prod.fst e
        have e2 : p = q := congrArg Prod.snd e
        subst e1
        subst e2
        exact ⟨Nat.le_refl _, by rw [Nat.sub_self]; rfl, hq⟩
      · exact next h
    · exact next h
theorem zent_sub {w x : Int} : ∀ (l : List zP) (k : Nat), ((zent w x l k).map Prod.snd).Sublist l := by
  intro l
  induction l with
  | nil => intro k; exact List.Sublist.slnil
  | cons q s ih =>
    intro k
    rw [zent_c]
    split
    · exact (ih (k + 1)).cons_cons q
    · exact (ih (k + 1)).cons q
theorem zent_nd {B : Int} {M : zD} (W : WF B M) (a w x : Int) : (zent w x (M.li a) 0).Pairwise (fun e f => e.2 0 ≠ f.2 0) := by
  have h1 : ((zent w x (M.li a) 0).map Prod.snd).Pairwise (fun p q => ¬ (p 0 = q 0 ∧ p 3 = q 3)) := (W.nd a).sublist (zent_sub _ _)
  refine List.Pairwise.imp_of_mem ?_ (List.pairwise_map.mp h1)
  rintro ⟨r, p⟩ ⟨s, q⟩ hp hq h e
  exact h ⟨e, (zent_mem _ _ _ _ hp).2.2.1.trans (zent_mem _ _ _ _ hq).2.2.1.symm⟩
theorem zent_dis {B : Int} {M : zD} (W : WF B M) (a w x : Int) : zdis (zent w x (M.li a) 0) := by
  have h := List.pairwise_iff_getElem.mp (zent_nd W a w x)
  intro i j r s p q hi hj hij
  obtain ⟨i1, i2⟩ := List.getElem?_eq_some_iff.mp hi
  obtain ⟨j1, j2⟩ := List.getElem?_eq_some_iff.mp hj
  rcases Nat.lt_or_gt_of_ne hij with hlt | hlt
  · have := h i j i1 j1 hlt
    rw [i2, j2] at this
    exact this
  · have := h j i j1 i1 hlt
    rw [i2, j2] at this
    exact fun e => this e.symm
theorem zent_len {B : Int} {M : zD} (W : WF B M) (a w x : Int) : (zent w x (M.li a) 0).length ≤ 6 := by
  have h1 := nd_len 6 ((zent w x (M.li a) 0).map (fun e => e.2 0)) (List.pairwise_map.mpr (zent_nd W a w x)) (by
    intro y hy
    obtain ⟨⟨r, p⟩, hp, e⟩ := List.mem_map.mp hy
    have h2 := zent_mem _ _ _ _ hp
    have h3 := (W.li a p (List.mem_of_getElem? h2.2.1)).o
    have h4 := W.al
    dsimp only at e
    omega)
  rw [List.length_map] at h1
  exact h1
theorem zst0_mem {M : zD} {a : Int} {X : zEn} (hd : zdis X) {i r : Nat} {p : zP} (hi : X[i]? = some (r, p)) : zst0 M a X (p 0) = 3 - zbl (M.out a p) := by
  unfold zst0
  cases hf : X.find? (fun e => decide (e.2 0 = p 0)) with
  | none =>
    have := List.find?_eq_none.mp hf (r, p) (List.mem_of_getElem? hi)
    exact absurd (decide_eq_true rfl) this
  | some e =>
    have h1' : (fun e : Nat × zP => decide (e.2 0 = p 0)) e = true := List.find?_some (p := fun e : Nat × zP => decide (e.2 0 = p 0)) hf
    have h1 : e.2 0 = p 0 := of_decide_eq_true h1'
    obtain ⟨j, hj⟩ := List.getElem?_of_mem (List.mem_of_find?_eq_some hf)
    by_cases e1 : i = j
    · subst e1
      have e2 : e = (r, p) := Option.some.inj (hj.symm.trans hi)
      rw [e2]
    · obtain ⟨s, q⟩ := e
      exact absurd h1.symm (hd i j r s p q hi hj e1)
theorem snoc_get {α : Type} {l : List α} {x y : α} {k : Nat} (h : (l ++ [x])[k]? = some y) : (k < l.length ∧ l[k]? = some y) ∨ (k = l.length ∧ y = x) := by
  by_cases e : k < l.length
  · rw [List.getElem?_append_left e] at h
    exact Or.inl ⟨e, h⟩
  · have e9 : k = l.length := by
      have := (List.getElem?_eq_some_iff.mp h).1
      rw [List.length_append, List.length_singleton] at this
      omega
    subst e9
    rw [List.getElem?_append_right (Nat.le_refl _), Nat.sub_self] at h
    exact Or.inr ⟨rfl, (Option.some.inj h).symm⟩
theorem snoc_g2 {l : zEn} {r r' : Nat} {p q : zP} {k : Nat} (h : (l ++ [(r, p)])[k]? = some (r', q)) : (k < l.length ∧ l[k]? = some (r', q)) ∨ (k = l.length ∧ r' = r ∧ q = p) := by
  rcases snoc_get h with h | ⟨h1, h2⟩
  · exact Or.inl h
  · exact Or.inr ⟨h1, congrArg Prod.fst h2, congrArg Prod.snd h2⟩
section C44
variable {S : zG} {μ μ' μ1 : zM} {d B a v w x : Int} {M : zD} {Q : zR × zS → Prop} {X : zEn} {s : zBs}
set_option maxHeartbeats 2000000 in
theorem c_note78 (V : VSh S v) (h : VRel M a μ v X s) (hD : D7 S μ d M) (hvd : v + 7 ≤ d ∨ d + 25 ≤ v) (ha : 0 ≤ a ∧ a < 6) {r : Nat} {p : zP} (hk : (M.li a)[r]? = some p) (hX : X.length < 6) {s0 : Int} (hs : s.1 (p 0) = 3 - zbl (M.out a p)) (h0 : (s0 = 0 ∧ ¬ M.out a p) ∨ (s0 = 1 ∧ M.out a p)) :
    zo (f_X6_note_78 v (r : Int) (X.length : Int) (d + 13 + 2 * a) (M.tv a p) (M.sp a p) s0 (S, μ)) (fun y => ∃ μ', y = (.inl 0, (S, μ')) ∧ (VRel M a (zup μ' v 6 ((X.length : Int) + 1)) v (X ++ [(r, p)]) s ∧ FV v μ μ' ∧ μ' v 6 = (X.length : Int))) := by
  have L := hD.sh.ls a ha.1 ha.2
  have hfin : ∀ t, s.1 (p 0) = t → zo (some ((.inl 0 : zR), (S, zup (zup (zup (zup (zup (zup μ (v + 1) (X.length : Int) (r : Int)) (v + 2) (X.length : Int) (p 0)) (v + 3) (X.length : Int) (M.rk a p)) (v + 4) (X.length : Int) (M.lo a p)) (v + 5) (X.length : Int) (M.hi a p)) (v + 6) (X.length : Int) t))) (fun y => ∃ μ', y = (.inl 0, (S, μ')) ∧ (VRel M a (zup μ' v 6 ((X.length : Int) + 1)) v (X ++ [(r, p)]) s ∧ FV v μ μ' ∧ μ' v 6 = (X.length : Int))) := by
    intro t ht
    refine zo_rt ⟨_, rfl, VRel.mk ⟨by rw [List.length_append]; exact hX, by rw [zup_at, List.length_append]; rfl, ?_, ?_, ?_, ?_, ?_, ?_, ?_, ?_⟩, ?_, ?_⟩
    · rw [zup_j (by decide), zup_b (by omega), zup_b (by omega), zup_b (by omega), zup_b (by omega), zup_b (by omega), zup_b (by omega)]
      exact h.lo
    · rw [zup_j (by decide), zup_b (by omega), zup_b (by omega), zup_b (by omega), zup_b (by omega), zup_b (by omega), zup_b (by omega)]
      exact h.hi
    · intro i r' q hi
      rw [zup_b (by omega), zup_b (by omega), zup_b (by omega), zup_b (by omega), zup_b (by omega), zup_b (by omega)]
      rcases snoc_g2 hi with ⟨h1, h2⟩ | ⟨h1, h2, h3⟩
      · rw [zup_j (by omega)]; exact h.e0 i r' q h2
      · rw [h1, zup_at, h2]
    · intro i r' q hi
      rw [zup_b (by omega), zup_b (by omega), zup_b (by omega), zup_b (by omega), zup_b (by omega)]
      rcases snoc_g2 hi with ⟨h1, h2⟩ | ⟨h1, h2, h3⟩
      · rw [zup_j (by omega), zup_b (by omega)]; exact h.e1 i r' q h2
      · rw [h1, zup_at, h3]
    · intro i r' q hi
      rw [zup_b (by omega), zup_b (by omega), zup_b (by omega), zup_b (by omega)]
      rcases snoc_g2 hi with ⟨h1, h2⟩ | ⟨h1, h2, h3⟩
      · rw [zup_j (by omega), zup_b (by omega), zup_b (by omega)]; exact h.e2 i r' q h2
      · rw [h1, zup_at, h3]
    · intro i r' q hi
      rw [zup_b (by omega), zup_b (by omega), zup_b (by omega)]
      rcases snoc_g2 hi with ⟨h1, h2⟩ | ⟨h1, h2, h3⟩
      · rw [zup_j (by omega), zup_b (by omega), zup_b (by omega), zup_b (by omega)]; exact h.e3 i r' q h2
      · rw [h1, zup_at, h3]
    · intro i r' q hi
      rw [zup_b (by omega), zup_b (by omega)]
      rcases snoc_g2 hi with ⟨h1, h2⟩ | ⟨h1, h2, h3⟩
      · rw [zup_j (by omega), zup_b (by omega), zup_b (by omega), zup_b (by omega), zup_b (by omega)]; exact h.e4 i r' q h2
      · rw [h1, zup_at, h3]
    · intro i r' q hi
      rw [zup_b (by omega)]
      rcases snoc_g2 hi with ⟨h1, h2⟩ | ⟨h1, h2, h3⟩
      · rw [zup_j (by omega), zup_b (by omega), zup_b (by omega), zup_b (by omega), zup_b (by omega), zup_b (by omega)]; exact h.e5 i r' q h2
      · rw [h1, zup_at, h3, ht]
    · intro y hy
      rw [zup_c (by omega), zup_c (by omega), zup_c (by omega), zup_c (by omega), zup_c (by omega), zup_c (by omega)]
    · rw [zup_b (by omega), zup_b (by omega), zup_b (by omega), zup_b (by omega), zup_b (by omega), zup_b (by omega)]
      exact h.c
  refine j_X6_note_78 ?_
  refine zo_gr V.o V.r0 (by omega) (by omega) ?_
  refine zo_si V.a0 (by omega) ?_
  refine zo_gr V.o V.r1 (by omega) (by omega) ?_
  refine zo_ob L.o (by omega) ?_
  refine zo_bn (d_get0 (hD.keep (fun y h1 h2 => by rw [zup_c (by omega)])) ha hk) ?_
  refine zo_si V.a1 (by omega) ?_
  refine zo_gr V.o V.r2 (by omega) (by omega) ?_
  refine zo_ob L.o (by omega) ?_
  refine zo_bn (d_get2 (hD.keep (fun y h1 h2 => by rw [zup_c (by omega), zup_c (by omega)])) ha hk) ?_
  refine zo_gr V.o V.r1 (by omega) (by omega) ?_
  refine zo_ld V.a1 (by omega) zup_at ?_
  refine zo_si V.a2 (by omega) ?_
  refine zo_gr V.o V.r3 (by omega) (by omega) ?_
  refine zo_ob L.o (by omega) ?_
  refine zo_bn (d_lowMoved (hD.keep (fun y h1 h2 => by rw [zup_c (by omega), zup_c (by omega), zup_c (by omega)])) ha hk) ?_
  refine zo_si V.a3 (by omega) ?_
  refine zo_gr V.o V.r4 (by omega) (by omega) ?_
  refine zo_ob L.o (by omega) ?_
  refine zo_bn (d_highMoved (hD.keep (fun y h1 h2 => by rw [zup_c (by omega), zup_c (by omega), zup_c (by omega), zup_c (by omega)])) ha hk) ?_
  refine zo_si V.a4 (by omega) ?_
  refine zo_gr V.o V.r5 (by omega) (by omega) ?_
  rcases h0 with ⟨h1, h2⟩ | ⟨h1, h2⟩
  · refine zo_pos h1 ?_
    refine zo_si V.a5 (by omega) ?_
    exact hfin 3 (by rw [hs, zbl_n h2]; rfl)
  · refine zo_neg (by omega) ?_
    refine zo_si V.a5 (by omega) ?_
    exact hfin 2 (by rw [hs, zbl_p h2]; rfl)
theorem c_note (V : VSh S v) (h : VRel M a μ v X s) (hD : D7 S μ d M) (hvd : v + 7 ≤ d ∨ d + 25 ≤ v) (ha : 0 ≤ a ∧ a < 6) {r : Nat} {p : zP} (hk : (M.li a)[r]? = some p) (hp1 : 0 ≤ p 1 ∧ p 1 < 6) (hX : X.length < 6) (hr2 : M.ru 2 ≤ 10) (hs : s.1 (p 0) = 3 - zbl (M.out a p)) :
    ∃ μ', f_X6_note v d a (r : Int) (X.length : Int) (S, μ) = some (.inl 0, (S, μ')) ∧ (VRel M a (zup μ' v 6 ((X.length : Int) + 1)) v (X ++ [(r, p)]) s ∧ FV v μ μ' ∧ μ' v 6 = (X.length : Int)) := by
  have D := hD.sh
  have L := D.ls a ha.1 ha.2
  apply zo_ux
  refine j_X6_note ?_
  refine zo_neg (by omega) ?_
  refine zo_pos (by omega) ?_
  refine zo_ob D.o (by omega) ?_
  refine zo_bn (d_listOf hD ha) ?_
  refine zo_ob L.o (by omega) ?_
  refine zo_bn (d_get1 hD ha hk) ?_
  have tail : zo (f_X6_note_47 v d a (r : Int) (X.length : Int) (d + 13 + 2 * a) (M.tv a p) (S, μ)) (fun y => ∃ μ', y = (.inl 0, (S, μ')) ∧ (VRel M a (zup μ' v 6 ((X.length : Int) + 1)) v (X ++ [(r, p)]) s ∧ FV v μ μ' ∧ μ' v 6 = (X.length : Int))) := by
    refine j_X6_note_47 ?_
    refine zo_ob D.o (by omega) ?_
    refine zo_bn (d_spreadOf hD ha hk hp1) ?_
    by_cases h1 : M.tv a p = -1
    · refine zo_pos h1 ?_
      refine j_X6_note_73 ?_
      exact c_note78 V h hD hvd ha hk hX hs (Or.inr ⟨rfl, Or.inl h1⟩)
    · refine zo_neg h1 ?_
      refine zo_ob D.o (by omega) ?_
      refine zo_bn (d_rule hD (show 0 ≤ (2 : Int) ∧ (2 : Int) < 5 by decide)) ?_
      by_cases h2 : M.tv a p < M.ru 2
      · refine zo_pos h2 ?_
        refine j_X6_note_73 ?_
        exact c_note78 V h hD hvd ha hk hX hs (Or.inr ⟨rfl, Or.inr h2⟩)
      · refine zo_neg h2 ?_
        exact c_note78 V h hD hvd ha hk hX hs (Or.inl ⟨rfl, fun z => z.elim h1 h2⟩)
  by_cases h1 : p 1 = a
  · have e : M.tv a p = 11 := if_pos h1
    rw [e] at tail
    refine zo_pos h1 tail
  · have e : M.tv a p = M.T a (p 1) := if_neg h1
    rw [e] at tail
    refine zo_neg h1 ?_
    refine zo_ob D.o (by omega) ?_
    refine zo_bn (d_trustIn hD ha hp1) ?_
    exact tail
theorem c_form (V : VSh S v) (hD : D7 S μ d M) (W : WF B M) (hvd : v + 7 ≤ d ∨ d + 25 ≤ v) (ha : 0 ≤ a ∧ a < 6) :
    ∃ μ', f_X6_form v d a w x (S, μ) = some (.inl 0, (S, μ')) ∧ (VRel M a μ' v (zent w x (M.li a) 0) (M.bel a w x) ∧ FV v μ μ') := by
  have D := hD.sh
  have L := D.ls a ha.1 ha.2
  have hll := hD.ll a ha.1 ha.2
  have hdis := zent_dis W a w x
  have hlen := zent_len W a w x
  have hal := W.al
  apply zo_ux
  refine j_X6_form ?_
  refine zo_pf 6 V.o (by omega) (by omega) ?_
  refine zo_pf 7 V.o (by omega) (by omega) ?_
  refine zo_pf 8 V.o (by omega) (by omega) ?_
  have f0 : FV v μ (zup (zup (zup μ v 6 0) v 7 0) v 8 999) := FV.tr (FV.up (by omega)) (FV.tr (FV.up (by omega)) (FV.up (by omega)))
  have h0 : VRel M a (zup (zup (zup μ v 6 0) v 7 0) v 8 999) v [] (zst0 M a (zent w x (M.li a) 0), 0, 999) :=
    VRel.mk ⟨by decide, by rw [zup_j (by decide), zup_j (by decide), zup_at]; rfl, by rw [zup_j (by decide), zup_at], zup_at, fun i r p hi => (by cases hi), fun i r p hi => (by cases hi), fun i r p hi => (by cases hi), fun i r p hi => (by cases hi), fun i r p hi => (by cases hi), fun i r p hi => (by cases hi)⟩
  generalize zup (zup (zup μ v 6 0) v 7 0) v 8 999 = μ0 at *
  have keep : ∀ μ2, FV v μ μ2 → D7 S μ2 d M := fun μ2 f => hD.keep (fun y h1 h2 => f y (by omega))
  refine zo_ob D.o (by omega) ?_
  refine zo_bn (d_listOf (keep μ0 f0) ha) ?_
  refine zo_l2 (F := fun m (k : Nat) (μ2 : zM) => f_X6_form_27 m v d a w x (d + 13 + 2 * a) (k : Int) (S, μ2)) (fun k μ2 => k ≤ (M.li a).length ∧ ∃ X, VRel M a μ2 v X (zst0 M a (zent w x (M.li a) 0), 0, 999) ∧ X ++ zent w x ((M.li a).drop k) k = zent w x (M.li a) 0 ∧ FV v μ μ2) (fun k _ => (M.li a).length - k) ?_ zFU 0 μ0 ⟨by omega, [], h0, rfl, f0⟩ (by show (M.li a).length - 0 < 1000000; omega)
  rintro m k μ2 ⟨hk, X, h2, hX, f2⟩ ih
  have hD2 := keep μ2 f2
  refine j_X6_form_27 ?_
  refine zo_gf L.o (hD2.li a ha.1 ha.2).1 (by omega) (by omega) ?_
  by_cases e : k < (M.li a).length
  · obtain ⟨p, hp, hd, hpm⟩ := drop_cons e
    refine zo_pos (by omega) ?_
    rw [hd, zent_c] at hX
    refine zo_ob L.o (by omega) ?_
    refine zo_bn (d_get3 hD2 ha hp) ?_
    have skip : ¬ (p 3 = w ∧ ¬ p 1 = x) → zo (f_X6_form_93 (f_X6_form_27 m) v d a w x (d + 13 + 2 * a) (k : Int) (S, μ2)) (fun r => ∃ μ', r = (.inl 0, (S, μ')) ∧ (VRel M a μ' v (zent w x (M.li a) 0) (M.bel a w x) ∧ FV v μ μ')) := by
      intro hn
      rw [if_neg hn] at hX
      refine j_X6_form_93 ?_
      rw [w32_s (k := k) (by omega)]
      exact ih (k + 1) μ2 ⟨by omega, X, h2, hX, f2⟩ (by omega)
    by_cases h3 : p 3 = w
    · refine zo_pos h3 ?_
      refine zo_ob L.o (by omega) ?_
      refine zo_bn (d_get1 hD2 ha hp) ?_
      by_cases h1 : p 1 = x
      · refine zo_pos h1 ?_
        exact skip (fun z => z.2 h1)
      · refine zo_neg h1 ?_
        rw [if_pos ⟨h3, h1⟩] at hX
        have hXl : X.length < 6 := by
          have := congrArg List.length hX
          rw [List.length_append, List.length_cons] at this
          omega
        have hXk : (zent w x (M.li a) 0)[X.length]? = some (k, p) := by
          rw [← hX, List.getElem?_append_right (Nat.le_refl _), Nat.sub_self]
          rfl
        refine zo_gf V.o h2.c (by omega) (by omega) ?_
        refine zo_pos (by omega) ?_
        refine zo_gf V.o h2.c (by omega) (by omega) ?_
        refine zo_ob V.o (by omega) ?_
        have hpv := (W.li a p hpm).v
        obtain ⟨μ3, e3, h3', f3, hc3⟩ := c_note V h2 hD2 hvd ha hp (by omega) hXl W.r2.2 (zst0_mem hdis hXk)
        refine zo_bn e3 ?_
        refine zo_gf V.o hc3 (by omega) (by omega) ?_
        refine zo_pf 6 V.o (by omega) (by omega) ?_
        refine j_X6_form_93 ?_
        have ew : w32 ((X.length : Int) + 1) = (X.length : Int) + 1 := w32_e (by omega)
        rw [w32_s (k := k) (by omega), ew]
        exact ih (k + 1) _ ⟨by omega, X ++ [(k, p)], h3', by rw [List.append_assoc]; exact hX, FV.tr f2 (FV.tr f3 (FV.up (by omega)))⟩ (by omega)
    · refine zo_neg h3 ?_
      exact skip (fun z => h3 z.1)
  · refine zo_neg (by omega) ?_
    have e1 : k = (M.li a).length := by omega
    rw [e1, List.drop_length] at hX
    have hX' : X = zent w x (M.li a) 0 := by rw [← hX]; exact (List.append_nil X).symm
    subst hX'
    obtain ⟨μ3, e3, h3, f3⟩ := c_turns V h2 hdis
    exact ⟨_, e3, μ3, rfl, h3, FV.tr f2 f3⟩
end C44
