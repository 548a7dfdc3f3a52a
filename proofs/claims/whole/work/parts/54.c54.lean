/-! C 54: the model's questions about beliefs -/
theorem znx_none {R : zP → Int} {st : Int → Int} : ∀ (X : zEn) (b : Option zP), znx R st X b = none → b = none ∧ ∀ e, e ∈ X → ¬ st (e.2 0) = 3 := by
  intro X
  induction X with
  | nil => intro b h; exact ⟨h, fun e he => by cases he⟩
  | cons e s ih =>
    intro b h
    rw [znx_c] at h
    split at h
    · exact absurd (ih _ h).1 (by intro z; cases z)
    · rename_i hc
      obtain ⟨h1, h2⟩ := ih _ h
      refine ⟨h1, fun f hf => ?_⟩
      rcases List.mem_cons.mp hf with hf | hf
      · rw [hf]
        exact fun z => hc ⟨z, fun q hq => by rw [h1] at hq; cases hq⟩
      · exact h2 f hf
theorem zwc_zero {st : Int → Int} : ∀ X : zEn, (∀ e, e ∈ X → ¬ st (e.2 0) = 3) → zwc st X = 0 := by
  intro X
  induction X with
  | nil => intro _; rfl
  | cons e s ih =>
    intro h
    unfold zwc
    rw [if_neg (h e (List.mem_cons_self ..)), ih (fun f hf => h f (List.mem_cons_of_mem _ hf))]
theorem zwc_mem {st : Int → Int} : ∀ (X : zEn) (e : Nat × zP), zwc st X = 0 → e ∈ X → ¬ st (e.2 0) = 3 := by
  intro X
  induction X with
  | nil => intro e _ h; cases h
  | cons f s ih =>
    intro e h he h3
    unfold zwc at h
    rcases List.mem_cons.mp he with he | he
    · rw [← he, if_pos h3] at h
      omega
    · exact ih e (by omega) he h3
theorem zbs_wc (M : zD) (a : Int) (X : zEn) (s : zBs) : zwc (zbs M a X s).1 X ≤ zwc s.1 X - 1 := by
  cases h : znx (M.rk a) s.1 X none with
  | none =>
    have h1 := zwc_zero X (znx_none X none h).2
    have e : zbs M a X s = s := by unfold zbs; rw [h]
    rw [e, h1]
    exact Nat.zero_le _
  | some p =>
    rcases znx_mem X none p h with ⟨r, hr, h3⟩ | h1
    · have e : zbs M a X s = if min s.2.2 (M.hi a p) < max s.2.1 (M.lo a p) then (zup1 s.1 (p 0) 1, s.2.1, s.2.2) else (zup1 s.1 (p 0) 0, max s.2.1 (M.lo a p), min s.2.2 (M.hi a p)) := by unfold zbs; rw [h]
      rw [e]
      split
      · have := zwc_lt (st := s.1) (o := p 0) (t := 1) (by decide) X r p hr h3 rfl
        dsimp only
        omega
      · have := zwc_lt (st := s.1) (o := p 0) (t := 0) (by decide) X r p hr h3 rfl
        dsimp only
        omega
    · cases h1
theorem bel_done (M : zD) (a w x : Int) : ∀ e, e ∈ zent w x (M.li a) 0 → ¬ (M.bel a w x).1 (e.2 0) = 3 := by
  have h : ∀ (n k : Nat) (s : zBs), zwc (zlp (fun _ s => zbs M a (zent w x (M.li a) 0) s) k n s).1 (zent w x (M.li a) 0) ≤ zwc s.1 (zent w x (M.li a) 0) - n := by
    intro n
    induction n with
    | zero => intro k s; exact Nat.le_refl _
    | succ n ih =>
      intro k s
      have h1 := ih (k + 1) (zbs M a (zent w x (M.li a) 0) s)
      have h2 := zbs_wc M a (zent w x (M.li a) 0) s
      show zwc (zlp (fun _ s => zbs M a (zent w x (M.li a) 0) s) (k + 1) n (zbs M a (zent w x (M.li a) 0) s)).1 _ ≤ _
      omega
  have h2 := h (zent w x (M.li a) 0).length 0 (zst0 M a (zent w x (M.li a) 0), 0, 999)
  have h3 := zwc_len (zst0 M a (zent w x (M.li a) 0)) (zent w x (M.li a) 0)
  dsimp only at h2
  intro e he
  exact zwc_mem _ e (by show zwc (M.bel a w x).1 _ = 0; unfold zD.bel; omega) he
theorem zso_row {w x : Int} {s : zBs} : ∀ (l : List zP) (j k : Nat) (p : zP), l[k]? = some p → (p 3 = w ∧ ¬ p 1 = x) → zso s (j + k) (zent w x l j) = s.1 (p 0) := by
  intro l
  induction l with
  | nil => intro j k p h; cases h
  | cons q r ih =>
    intro j k p h hr
    rw [zent_c]
    cases k with
    | zero =>
      have e : q = p := Option.some.inj h
      rw [e, if_pos hr]
      unfold zso
      exact if_pos rfl
    | succ k =>
      have h1 := ih (j + 1) k p h hr
      have e : j + 1 + k = j + (k + 1) := by omega
      rw [e] at h1
      split
      · unfold zso
        rw [if_neg (by omega)]
        exact h1
      · exact h1
theorem zor_rng (a b : Int) : -2147483648 ≤ zor a b ∧ zor a b < 2147483648 := by
  unfold zor
  have h1 := Int32.le_toInt (Int32.ofInt a ||| Int32.ofInt b)
  have h2 := Int32.toInt_lt (Int32.ofInt a ||| Int32.ofInt b)
  omega
theorem zor_0 {c : Int} (h : -2147483648 ≤ c ∧ c < 2147483648) : zor c 0 = c := by
  unfold zor
  have e : Int32.ofInt c ||| Int32.ofInt 0 = Int32.ofInt c := Int32.or_zero
  rw [e]
  exact Int32.toInt_ofInt_of_le h.1 h.2
section C54
variable {S : zG} {μ μ' : zM} {m A B a w x r : Int} {M X : zD} {Q : zR × zS → Prop} {s : zBs}
theorem b_boundOf {e : Int} (H : MSh S m A) (h : D8 (μ A) M) (W : WF B M) (ha : 0 ≤ a ∧ a < 6) (hx : μ m 4 = -1) : ∃ μ', f_X8_boundOf m a w e (S, μ) = some (.inl (M.bnd a w e), (S, μ')) ∧ FN m μ μ' := by
  obtain ⟨μ1, e1, b1, f1⟩ := b_lay (w := w) H h W ha hx
  apply zo_ux
  refine j_X8_boundOf ?_
  refine zo_ob H.o (by omega) ?_
  refine zo_bn e1 ?_
  refine zo_ite (fun h0 => ?_) (fun h0 => ?_)
  · have ez : M.bnd a w e = (M.bel a w (-1)).2.1 := if_pos h0
    rw [ez]
    refine zo_gf H.o b1.lo (by omega) (by omega) ?_
    exact zo_rt ⟨μ1, rfl, f1⟩
  · have ez : M.bnd a w e = (M.bel a w (-1)).2.2 := if_neg h0
    rw [ez]
    refine zo_gf H.o b1.hi (by omega) (by omega) ?_
    exact zo_rt ⟨μ1, rfl, f1⟩
theorem b_widthOf (H : MSh S m A) (h : D8 (μ A) M) (W : WF B M) (ha : 0 ≤ a ∧ a < 6) (hx : μ m 4 = x) : ∃ μ', f_X8_widthOf m a w (S, μ) = some (.inl (M.wid a w x), (S, μ')) ∧ FN m μ μ' := by
  obtain ⟨μ1, e1, b1, f1⟩ := b_lay (w := w) H h W ha hx
  apply zo_ux
  refine j_X8_widthOf ?_
  refine zo_ob H.o (by omega) ?_
  refine zo_bn e1 ?_
  refine zo_gf H.o b1.hi (by omega) (by omega) ?_
  refine zo_gf H.o b1.lo (by omega) (by omega) ?_
  exact zo_rt ⟨μ1, rfl, f1⟩
theorem b_valueOf (H : MSh S m A) (h : D8 (μ A) M) (W : WF B M) (ha : 0 ≤ a ∧ a < 6) (hx : μ m 4 = -1) : ∃ μ', f_X8_valueOf m a w r (S, μ) = some (.inl (M.val a w r), (S, μ')) ∧ FN m μ μ' := by
  obtain ⟨μ1, e1, b1, f1⟩ := b_lay (w := w) H h W ha hx
  apply zo_ux
  refine j_X8_valueOf ?_
  refine zo_ob H.o (by omega) ?_
  refine zo_bn e1 ?_
  refine zo_ite (fun h0 => ?_) (fun h0 => ?_)
  · have ez : M.val a w r = (M.bel a w (-1)).2.2 := if_pos h0
    rw [ez]
    refine zo_gf H.o b1.hi (by omega) (by omega) ?_
    exact zo_rt ⟨μ1, rfl, f1⟩
  · refine zo_ite (fun h1 => ?_) (fun h1 => ?_)
    · have ez : M.val a w r = (M.bel a w (-1)).2.1 := (if_neg h0).trans (if_pos h1)
      rw [ez]
      refine zo_gf H.o b1.lo (by omega) (by omega) ?_
      exact zo_rt ⟨μ1, rfl, f1⟩
    · have ez : M.val a w r = w32 ((M.bel a w (-1)).2.1 + (M.bel a w (-1)).2.2) := (if_neg h0).trans (if_neg h1)
      rw [ez]
      refine zo_gf H.o b1.lo (by omega) (by omega) ?_
      refine zo_gf H.o b1.hi (by omega) (by omega) ?_
      exact zo_rt ⟨μ1, rfl, f1⟩
theorem FN.D8 (H : MSh S m A) (h : D8 (μ A) M) (f : FN m μ μ') : D8 (μ' A) M := by
  have hA0 := H.A0
  rw [f.x A (by omega) (by omega) (by omega)]
  exact h
theorem b_bestOf (H : MSh S m A) (h : D8 (μ A) M) (W : WF B M) (ha : 0 ≤ a ∧ a < 6) (hx : μ m 4 = -1) : ∃ μ', f_X8_bestOf m a r (S, μ) = some (.inl (M.bst a r), (S, μ')) ∧ FN m μ μ' := by
  have hwl := h.wl
  apply zo_ux
  refine j_X8_bestOf ?_
  refine zo_l4 (F := fun n (k : Nat) (f l : Int) (μ2 : zM) => f_X8_bestOf_8 n m a r f l (k : Int) (S, μ2)) (fun k f l μ2 => k ≤ M.wn.length ∧ zlp (zbst M a r) k (M.wn.length - k) (f, l) = zlp (zbst M a r) 0 M.wn.length (-1, 0) ∧ FN m μ μ2) (fun k _ _ _ => M.wn.length - k) ?_ zFU 0 (-1) 0 μ ⟨by omega, rfl, FN.rf⟩ (by show M.wn.length - 0 < 1000000; omega)
  rintro n k f l μ2 ⟨hk, hz, hf⟩ ih
  have h2 := hf.D8 H h
  refine j_X8_bestOf_8 ?_
  refine zo_ob H.o (by omega) ?_
  refine zo_bn (b_ways H h2) ?_
  by_cases e : k < M.wn.length
  · have e9 : M.wn.length - k = (M.wn.length - (k + 1)) + 1 := by omega
    rw [e9] at hz
    have hz' : zlp (zbst M a r) (k + 1) (M.wn.length - (k + 1)) (zbst M a r k (f, l)) = zlp (zbst M a r) 0 M.wn.length (-1, 0) := hz
    unfold zbst at hz'
    obtain ⟨μ3, e3, f3⟩ := b_valueOf (w := (k : Int)) (r := r) H h2 W ha (by rw [hf.f 4 (by decide) (by decide)]; exact hx)
    have take : (f = -1 ∨ M.val a (k : Int) r < l) → zo (f_X8_bestOf_42 (f_X8_bestOf_8 n) m a r (k : Int) (M.val a (k : Int) r) (S, μ3)) (fun y => ∃ μ', y = (.inl (M.bst a r), (S, μ')) ∧ FN m μ μ') := by
      intro hc
      rw [if_pos hc] at hz'
      refine j_X8_bestOf_42 ?_
      refine j_X8_bestOf_49 ?_
      rw [w32_s (k := k) (by omega)]
      exact ih (k + 1) _ _ μ3 ⟨by omega, hz', FN.tr hf f3⟩ (by omega)
    refine zo_pos (by omega) ?_
    refine zo_ob H.o (by omega) ?_
    refine zo_bn e3 ?_
    refine zo_ite (fun h1 => take (Or.inl h1)) (fun h1 => ?_)
    refine zo_ite (fun h3 => take (Or.inr h3)) (fun h3 => ?_)
    rw [if_neg (fun z => z.elim h1 h3)] at hz'
    refine j_X8_bestOf_49 ?_
    rw [w32_s (k := k) (by omega)]
    exact ih (k + 1) _ _ μ3 ⟨by omega, hz', FN.tr hf f3⟩ (by omega)
  · have e9 : M.wn.length - k = 0 := by omega
    rw [e9] at hz
    have hz' : (f, l) = zlp (zbst M a r) 0 M.wn.length (-1, 0) := hz
    refine zo_neg (by omega) ?_
    refine zo_rt ⟨μ2, ?_, hf⟩
    unfold zD.bst
    rw [← hz']
theorem bst_rng (M : zD) (a r : Int) : (M.wn.length = 0 ∧ M.bst a r = -1) ∨ (0 ≤ M.bst a r ∧ M.bst a r < (M.wn.length : Int)) := by
  have h : ∀ (n k : Nat) (z : Int × Int), (z.1 = -1 ∨ (0 ≤ z.1 ∧ z.1 < ((k + n : Nat) : Int))) → (n = 0 ∧ zlp (zbst M a r) k n z = z) ∨ (0 ≤ (zlp (zbst M a r) k n z).1 ∧ (zlp (zbst M a r) k n z).1 < ((k + n : Nat) : Int)) := by
    intro n
    induction n with
    | zero => intro k z _; exact Or.inl ⟨rfl, rfl⟩
    | succ n ih =>
      intro k z hz
      right
      show 0 ≤ (zlp (zbst M a r) (k + 1) n (zbst M a r k z)).1 ∧ (zlp (zbst M a r) (k + 1) n (zbst M a r k z)).1 < _
      have h1 : 0 ≤ (zbst M a r k z).1 ∧ (zbst M a r k z).1 < ((k + 1 + n : Nat) : Int) := by
        unfold zbst
        split
        · dsimp only
          omega
        · rename_i hc
          rcases hz with hz | hz
          · exact absurd (Or.inl hz) hc
          · omega
      have e : k + 1 + n = k + (n + 1) := by omega
      rcases ih (k + 1) (zbst M a r k z) (Or.inr h1) with ⟨h2, h3⟩ | h2
      · rw [h3]
        rw [e] at h1
        exact h1
      · rw [e] at h2
        exact h2
  rcases h M.wn.length 0 (-1, 0) (Or.inl rfl) with ⟨h1, h2⟩ | h1
  · exact Or.inl ⟨h1, by unfold zD.bst; rw [h2]⟩
  · refine Or.inr ?_
    rw [Nat.zero_add] at h1
    exact h1
theorem b_rivalsOf (H : MSh S m A) (h : D8 (μ A) M) (W : WF B M) (ha : 0 ≤ a ∧ a < 6) (hx : μ m 4 = -1) : ∃ μ', f_X8_rivalsOf m a (S, μ) = some (.inl (M.riv a (M.bst a 0)), (S, μ')) ∧ FN m μ μ' := by
  have hwl := h.wl
  apply zo_ux
  refine j_X8_rivalsOf ?_
  obtain ⟨μ1, e1, f1⟩ := b_bestOf (r := 0) H h W ha hx
  refine zo_ob H.o (by omega) ?_
  refine zo_bn e1 ?_
  have hb := bst_rng M a 0
  generalize M.bst a 0 = b at *
  have hfin : M.riv a b = zlp (zriv M a b (M.bel a b (-1)).2.2) 0 M.wn.length 0 := by
    rcases hb with ⟨h1, h2⟩ | h1
    · have e2 : M.riv a b = 0 := if_pos h2
      rw [e2, h1]
      rfl
    · exact if_neg (by omega)
  rw [hfin]
  have ehi : M.val a b 0 = (M.bel a b (-1)).2.2 := if_pos rfl
  refine zo_l3 (F := fun n (k : Nat) (c : Int) (μ2 : zM) => f_X8_rivalsOf_12 n m a b c (k : Int) (S, μ2)) (fun k c μ2 => k ≤ M.wn.length ∧ zlp (zriv M a b (M.bel a b (-1)).2.2) k (M.wn.length - k) c = zlp (zriv M a b (M.bel a b (-1)).2.2) 0 M.wn.length 0 ∧ FN m μ μ2 ∧ (-2147483648 ≤ c ∧ c < 2147483648)) (fun k _ _ => M.wn.length - k) ?_ zFU 0 0 μ1 ⟨by omega, rfl, f1, by decide⟩ (by show M.wn.length - 0 < 1000000; omega)
  rintro n k c μ2 ⟨hk, hz, hf, hc⟩ ih
  have h2 := hf.D8 H h
  refine j_X8_rivalsOf_12 ?_
  refine zo_ob H.o (by omega) ?_
  refine zo_bn (b_ways H h2) ?_
  by_cases e : k < M.wn.length
  · have e9 : M.wn.length - k = (M.wn.length - (k + 1)) + 1 := by omega
    rw [e9] at hz
    have hz' : zlp (zriv M a b (M.bel a b (-1)).2.2) (k + 1) (M.wn.length - (k + 1)) (zriv M a b (M.bel a b (-1)).2.2 k c) = zlp (zriv M a b (M.bel a b (-1)).2.2) 0 M.wn.length 0 := hz
    have no : ∀ μ3, FN m μ μ3 → zriv M a b (M.bel a b (-1)).2.2 k c = c → zo (f_X8_rivalsOf_53 (f_X8_rivalsOf_12 n) m a b (k : Int) c (S, μ3)) (fun y => ∃ μ', y = (.inl (zlp (zriv M a b (M.bel a b (-1)).2.2) 0 M.wn.length 0), (S, μ')) ∧ FN m μ μ') := by
      intro μ3 hf3 hr
      rw [hr] at hz'
      refine j_X8_rivalsOf_53 ?_
      refine j_X8_rivalsOf_54 ?_
      rw [zor_0 hc, w32_s (k := k) (by omega)]
      exact ih (k + 1) c μ3 ⟨by omega, hz', hf3, hc⟩ (by omega)
    refine zo_pos (by omega) ?_
    refine zo_ite (fun h0 => no μ2 hf (if_neg (fun z => z.1 h0))) (fun h0 => ?_)
    obtain ⟨μ3, e3, f3⟩ := b_valueOf (w := (k : Int)) (r := 1) H h2 W ha (by rw [hf.f 4 (by decide) (by decide)]; exact hx)
    have hf3 := FN.tr hf f3
    have h3 := hf3.D8 H h
    obtain ⟨μ4, e4, f4⟩ := b_valueOf (w := b) (r := 0) H h3 W ha (by rw [hf3.f 4 (by decide) (by decide)]; exact hx)
    have elo : M.val a (k : Int) 1 = (M.bel a (k : Int) (-1)).2.1 := (if_neg (by decide)).trans (if_pos rfl)
    rw [elo] at e3
    rw [ehi] at e4
    refine zo_ob H.o (by omega) ?_
    refine zo_bn e3 ?_
    refine zo_ob H.o (by omega) ?_
    refine zo_bn e4 ?_
    refine zo_ite (fun h5 => ?_) (fun h5 => no μ4 (FN.tr hf3 f4) (if_neg (fun z => h5 z.2)))
    have er : zriv M a b (M.bel a b (-1)).2.2 k c = zor c (zshl 1 (k : Int)) := if_pos ⟨h0, h5⟩
    rw [er] at hz'
    refine j_X8_rivalsOf_54 ?_
    rw [w32_s (k := k) (by omega)]
    exact ih (k + 1) _ μ4 ⟨by omega, hz', FN.tr hf3 f4, zor_rng _ _⟩ (by omega)
  · have e9 : M.wn.length - k = 0 := by omega
    rw [e9] at hz
    have hz' : c = zlp (zriv M a b (M.bel a b (-1)).2.2) 0 M.wn.length 0 := hz
    refine zo_neg (by omega) ?_
    exact zo_rt ⟨μ2, by rw [← hz'], hf⟩
theorem zws_c (s : zBs) (t : Int) (e : Nat × zP) (r : zEn) (c : Int) : zws s t (e :: r) c = zws s t r (if s.1 (e.2 0) = t then zor c (zshl 1 (e.2 0)) else c) := rfl
theorem b_originsWith {t : Int} (H : MSh S m A) (h : D8 (μ A) M) (W : WF B M) (ha : 0 ≤ a ∧ a < 6) (hx : μ m 4 = -1) (ht : t = 0 ∨ t = 1) : ∃ μ', f_X8_originsWith m a w t (S, μ) = some (.inl (M.ors a w t), (S, μ')) ∧ FN m μ μ' := by
  have h36 := h.ll a ha.1 ha.2
  obtain ⟨μ1, e1, b1, f1⟩ := b_lay (w := w) H h W ha hx
  have h1 := f1.D8 H h
  apply zo_ux
  refine j_X8_originsWith ?_
  refine zo_ob H.o (by omega) ?_
  refine zo_bn e1 ?_
  refine zo_l2 (F := fun n (k : Nat) (c : Int) => f_X8_originsWith_12 n m a t c (k : Int) (S, μ1)) (fun k c => k ≤ (M.li a).length ∧ zws (M.bel a w (-1)) t (zent w (-1) ((M.li a).drop k) k) c = M.ors a w t ∧ (-2147483648 ≤ c ∧ c < 2147483648)) (fun k _ => (M.li a).length - k) ?_ zFU 0 0 ⟨by omega, rfl, by decide⟩ (by show (M.li a).length - 0 < 1000000; omega)
  rintro n k c ⟨hk, hz, hc⟩ ih
  refine j_X8_originsWith_12 ?_
  refine zo_ob H.o (by omega) ?_
  refine zo_bn (b_manyOf H h1 ha) ?_
  by_cases e : k < (M.li a).length
  · obtain ⟨p, hp, hd, hpm⟩ := drop_cons e
    rw [hd, zent_c] at hz
    have no : zws (M.bel a w (-1)) t (zent w (-1) ((M.li a).drop (k + 1)) (k + 1)) c = M.ors a w t → zo (f_X8_originsWith_49 (f_X8_originsWith_12 n) m a t (k : Int) c 0 (S, μ1)) (fun y => ∃ μ', y = (.inl (M.ors a w t), (S, μ')) ∧ FN m μ μ') := by
      intro hz2
      refine j_X8_originsWith_49 ?_
      rw [zor_0 hc, w32_s (k := k) (by omega)]
      exact ih (k + 1) c ⟨by omega, hz2, hc⟩ (by omega)
    refine zo_pos (by omega) ?_
    refine zo_gr H.o H.r7 (by omega) (by omega) ?_
    by_cases hr : p 3 = w ∧ ¬ p 1 = -1
    · rw [if_pos hr, zws_c] at hz
      dsimp only at hz
      have hmem := zent_has (M.li a) 0 k p hp hr
      have hn3 := bel_done M a w (-1) _ hmem
      dsimp only at hn3
      refine zo_ld H.a3 (by omega) (v := (M.bel a w (-1)).1 (p 0)) (by rw [b1.s1 k p hp hr, if_neg hn3]) ?_
      refine zo_ite (fun h5 => ?_) (fun h5 => ?_)
      · rw [if_pos h5] at hz
        refine zo_ob H.o (by omega) ?_
        refine zo_bn (b_ofR0 H h1 ha hp) ?_
        refine j_X8_originsWith_49 ?_
        rw [w32_s (k := k) (by omega)]
        exact ih (k + 1) _ ⟨by omega, hz, zor_rng _ _⟩ (by omega)
      · rw [if_neg h5] at hz
        exact no hz
    · rw [if_neg hr] at hz
      refine zo_ld H.a3 (by omega) (b1.s2 k p hp hr) ?_
      refine zo_neg (by omega) ?_
      exact no hz
  · refine zo_neg (by omega) ?_
    have e2 : k = (M.li a).length := by omega
    rw [e2, List.drop_length] at hz
    have hz' : c = M.ors a w t := hz
    exact zo_rt ⟨μ1, by rw [hz'], f1⟩
theorem b_statusAt {k : Nat} {p : zP} (H : MSh S m A) (h : D8 (μ A) M) (W : WF B M) (ha : 0 ≤ a ∧ a < 6) (hx : μ m 4 = -1) (hk : (M.li a)[k]? = some p) : ∃ μ', f_X8_statusAt m a (k : Int) (S, μ) = some (.inl (M.sts a k p), (S, μ')) ∧ FN m μ μ' := by
  have hkl := (List.getElem?_eq_some_iff.mp hk).1
  have h36 := h.ll a ha.1 ha.2
  have hp := (W.li a p (List.mem_of_getElem? hk)).v
  have hr : p 3 = p 3 ∧ ¬ p 1 = -1 := ⟨rfl, by omega⟩
  obtain ⟨μ1, e1, b1, f1⟩ := b_lay (w := p 3) H h W ha hx
  have hmem := zent_has (M.li a) 0 k p hk hr
  have hn3 := bel_done M a (p 3) (-1) _ hmem
  dsimp only at hn3
  have es : M.sts a k p = (M.bel a (p 3) (-1)).1 (p 0) := by
    have := zso_row (s := M.bel a (p 3) (-1)) (M.li a) 0 k p hk hr
    rw [Nat.zero_add] at this
    exact this
  rw [es]
  apply zo_ux
  refine j_X8_statusAt ?_
  refine zo_ob H.o (by omega) ?_
  refine zo_bn (b_ofR3 H h ha hk) ?_
  refine zo_ob H.o (by omega) ?_
  refine zo_bn e1 ?_
  refine zo_gr H.o H.r7 (by omega) (by omega) ?_
  refine zo_ld H.a3 (by omega) (v := (M.bel a (p 3) (-1)).1 (p 0)) (by rw [b1.s1 k p hk hr, if_neg hn3]) ?_
  exact zo_rt ⟨μ1, rfl, f1⟩
end C54
