/-! R1: the belief, by the sorted order -/
section R1
variable {B x a w o t v : Int} {M : zD} {k i : Nat} {q p : zP} {X Y Z P : zEn} {s : zBs} {e f : Nat × zP} {R : zP → Int} {st : Int → Int}
theorem mask_ext {s t : Int} (hs : 0 ≤ s ∧ s < 64) (ht : 0 ≤ t ∧ t < 64) (h : ∀ k, 0 ≤ k → k < 6 → (zand (zshr s k) 1 = 1 ↔ zand (zshr t k) 1 = 1)) : s = t := by
  have h1 := sub_cu hs ht (fun k h1 h2 => (h k h1 h2).mp)
  have h2 := sub_cu ht hs (fun k h1 h2 => (h k h1 h2).mpr)
  exact h1.2 (Int.le_antisymm h1.1 h2.1)
def zb1 (M : zD) (a : Int) (s : zBs) (p : zP) : zBs := if min s.2.2 (M.hi a p) < max s.2.1 (M.lo a p) then (zup1 s.1 (p 0) 1, s.2.1, s.2.2) else (zup1 s.1 (p 0) 0, max s.2.1 (M.lo a p), min s.2.2 (M.hi a p))
noncomputable def zb2 (M : zD) (a : Int) (s : zBs) (e : Nat × zP) : zBs := @ite _ (M.out a e.2) (Classical.propDecidable _) s (zb1 M a s e.2)
theorem zb2_o (h : M.out a e.2) : zb2 M a s e = s := if_pos h
theorem zb2_n (h : ¬ M.out a e.2) : zb2 M a s e = zb1 M a s e.2 := if_neg h
theorem zb1_st (M : zD) (a : Int) (s : zBs) (p : zP) : (zb1 M a s p).1 = zup1 s.1 (p 0) 0 ∨ (zb1 M a s p).1 = zup1 s.1 (p 0) 1 := by
  unfold zb1
  split
  · exact Or.inr rfl
  · exact Or.inl rfl
theorem znx_ok : ∀ (X : zEn) (b : Option zP), (znx R st X b = b ∨ ∃ e, e ∈ X ∧ st (e.2 0) = 3 ∧ znx R st X b = some e.2) ∧ (∀ e, e ∈ X → st (e.2 0) = 3 → ∃ q, znx R st X b = some q ∧ R q ≤ R e.2) ∧ (∀ q', b = some q' → ∃ q, znx R st X b = some q ∧ R q ≤ R q') := by
  intro X
  induction X with
  | nil => exact fun b => ⟨Or.inl rfl, fun e he => absurd he List.not_mem_nil, fun q' h => ⟨q', h, Int.le_refl _⟩⟩
  | cons e r ih =>
    intro b
    by_cases h : st (e.2 0) = 3 ∧ (∀ q, b = some q → R e.2 < R q)
    · have c : znx R st (e :: r) b = znx R st r (some e.2) := by
        simp only [znx]
        exact if_pos h
      rw [c]
      obtain ⟨i1, i2, i3⟩ := ih (some e.2)
      refine ⟨Or.inr ?_, fun f hf hs => ?_, fun q' hb => ?_⟩
      · rcases i1 with i1 | ⟨f, hf, h2, h3⟩
        · exact ⟨e, List.mem_cons_self, h.1, i1⟩
        · exact ⟨f, List.mem_cons_of_mem _ hf, h2, h3⟩
      · rcases List.mem_cons.mp hf with h2 | h2
        · rw [h2]
          exact i3 e.2 rfl
        · exact i2 f h2 hs
      · obtain ⟨q, h1, h2⟩ := i3 e.2 rfl
        have h3 := h.2 q' hb
        exact ⟨q, h1, by omega⟩
    · have c : znx R st (e :: r) b = znx R st r b := by
        simp only [znx]
        exact if_neg h
      rw [c]
      obtain ⟨i1, i2, i3⟩ := ih b
      refine ⟨?_, fun f hf hs => ?_, i3⟩
      · rcases i1 with i1 | ⟨f, hf, h2, h3⟩
        · exact Or.inl i1
        · exact Or.inr ⟨f, List.mem_cons_of_mem _ hf, h2, h3⟩
      · rcases List.mem_cons.mp hf with h2 | h2
        · by_cases hb : ∃ q', b = some q' ∧ R q' ≤ R e.2
          · obtain ⟨q', h3, h4⟩ := hb
            obtain ⟨q, h5, h6⟩ := i3 q' h3
            exact ⟨q, h5, by rw [h2]; omega⟩
          · exfalso
            apply h
            refine ⟨by rw [← h2]; exact hs, fun q hq => ?_⟩
            by_cases h4 : R e.2 < R q
            · exact h4
            · exact absurd ⟨q, hq, by omega⟩ hb
        · exact i2 f h2 hs
theorem znx_hd (hZ : Z.Pairwise (fun e f => R e.2 < R f.2)) (hm : ∀ e, e ∈ X → (st (e.2 0) = 3 ↔ e ∈ Z)) (hs : ∀ e, e ∈ Z → e ∈ X) : znx R st X none = Z.head?.map Prod.snd := by
  have h := znx_ok (R := R) (st := st) X none
  cases Z with
  | nil =>
    rcases h.1 with h1 | ⟨e, he, h2, h3⟩
    · exact h1
    · exact absurd ((hm e he).mp h2) List.not_mem_nil
  | cons z Z =>
    obtain ⟨q, h1, h2⟩ := h.2.1 z (hs z List.mem_cons_self) ((hm z (hs z List.mem_cons_self)).mpr List.mem_cons_self)
    rcases h.1 with h3 | ⟨e, he, h3, h4⟩
    · rw [h3] at h1
      cases h1
    · have h5 := (hm e he).mp h3
      have h6 : e.2 = q := Option.some.inj (h4.symm.trans h1)
      rcases List.mem_cons.mp h5 with h7 | h7
      · show _ = some z.2
        rw [h4, h7]
      · have h8 := (List.pairwise_cons.mp hZ).1 e h7
        rw [h6] at h8
        omega
theorem bel_go (hX : ∀ e f, e ∈ X → f ∈ X → e.2 0 = f.2 0 → e = f) : ∀ (n k : Nat) (Z : zEn) (s : zBs), Z.length ≤ n → Z.Pairwise (fun e f => M.rk a e.2 < M.rk a f.2) → (∀ e, e ∈ X → (s.1 (e.2 0) = 3 ↔ e ∈ Z)) → (∀ e, e ∈ Z → e ∈ X) → zlp (fun _ s => zbs M a X s) k n s = Z.foldl (fun s e => zb1 M a s e.2) s := by
  intro n
  induction n with
  | zero =>
    intro k Z s hl _ _ _
    have hz : Z = [] := List.length_eq_zero_iff.mp (by omega)
    rw [hz]
    rfl
  | succ n ih =>
    intro k Z s hl hZ hm hs
    have hn := znx_hd hZ hm hs
    show zlp (fun _ s => zbs M a X s) (k + 1) n (zbs M a X s) = _
    cases Z with
    | nil =>
      have e1 : zbs M a X s = s := by
        unfold zbs
        rw [hn]
        rfl
      rw [e1]
      exact ih (k + 1) [] s (by simp) hZ hm hs
    | cons z Z =>
      have e1 : zbs M a X s = zb1 M a s z.2 := by
        unfold zbs
        rw [hn]
        rfl
      rw [e1]
      obtain ⟨h3, h4⟩ := List.pairwise_cons.mp hZ
      refine ih (k + 1) Z (zb1 M a s z.2) (by simp at hl; omega) h4 (fun e he => ?_) (fun e he => hs e (List.mem_cons_of_mem _ he))
      by_cases h5 : e.2 0 = z.2 0
      · have h6 : e = z := hX e z he (hs z List.mem_cons_self) h5
        have h7 : ¬ e ∈ Z := fun h8 => by
          have h9 := h3 e h8
          rw [h6] at h9
          omega
        have h8 : ¬ (zb1 M a s z.2).1 (e.2 0) = 3 := by
          rw [h5]
          rcases zb1_st M a s z.2 with h9 | h9 <;> rw [h9, zup1_at] <;> decide
        exact ⟨fun h9 => absurd h9 h8, fun h9 => absurd h9 h7⟩
      · have h6 : (zb1 M a s z.2).1 (e.2 0) = s.1 (e.2 0) := by
          rcases zb1_st M a s z.2 with h9 | h9 <;> rw [h9, zup1_b h5]
        rw [h6, hm e he]
        exact ⟨fun h7 => (List.mem_cons.mp h7).resolve_left (fun h8 => h5 (by rw [h8])), fun h7 => List.mem_cons_of_mem _ h7⟩
noncomputable def zno (M : zD) (a : Int) (e : Nat × zP) : Bool := @decide (¬ M.out a e.2) (Classical.propDecidable _)
theorem zno_t (h : ¬ M.out a e.2) : zno M a e = true := @decide_eq_true _ (Classical.propDecidable _) h
theorem zno_f (h : M.out a e.2) : zno M a e = false := @decide_eq_false _ (Classical.propDecidable _) (fun z => z h)
theorem zno_e : zno M a e = true ↔ ¬ M.out a e.2 := ⟨fun h z => Bool.false_ne_true ((zno_f z).symm.trans h), zno_t⟩
theorem fold_fil : ∀ (Y : zEn) (s : zBs), (Y.filter (zno M a)).foldl (fun s e => zb1 M a s e.2) s = Y.foldl (zb2 M a) s := by
  intro Y
  induction Y with
  | nil => exact fun _ => rfl
  | cons e Y ih =>
    intro s
    show _ = Y.foldl (zb2 M a) (zb2 M a s e)
    by_cases h : M.out a e.2
    · rw [fil_cons_f (zno_f h), zb2_o h]
      exact ih s
    · rw [fil_cons_t (zno_t h), zb2_n h]
      exact ih _
theorem zent_inj (W : WF B M) : ∀ e f, e ∈ zent w x (M.li a) 0 → f ∈ zent w x (M.li a) 0 → e.2 0 = f.2 0 → e = f := by
  rintro ⟨r1, p1⟩ ⟨r2, p2⟩ he hf h
  obtain ⟨i, hi⟩ := List.mem_iff_getElem?.mp he
  obtain ⟨j, hj⟩ := List.mem_iff_getElem?.mp hf
  by_cases hij : i = j
  · rw [hij] at hi
    exact Option.some.inj (hi.symm.trans hj)
  · exact absurd h (zent_dis W a w x i j r1 r2 p1 p2 hi hj hij)
/-- where the belief begins -/
noncomputable def zs0 (M : zD) (a w : Int) : zBs := (zst0 M a (zent w (-1) (M.li a) 0), 0, 999)
theorem bel_fold (W : WF B M) (hp : Y.Perm (zent w (-1) (M.li a) 0)) (hs : Y.Pairwise (fun e f => M.rk a e.2 < M.rk a f.2)) : M.bel a w (-1) = Y.foldl (zb2 M a) (zs0 M a w) := by
  rw [← fold_fil]
  refine bel_go (zent_inj W) _ 0 _ _ ?_ (List.Pairwise.filter _ hs) (fun e he => ?_) (fun e he => hp.mem_iff.mp (List.mem_filter.mp he).1)
  · rw [← hp.length_eq]
    exact List.length_filter_le _ _
  · obtain ⟨r, p⟩ := e
    obtain ⟨i, hi⟩ := List.mem_iff_getElem?.mp he
    have h1 : (zs0 M a w).1 (p 0) = 3 - zbl (M.out a p) := zst0_mem (zent_dis W a w (-1)) hi
    show (zs0 M a w).1 (p 0) = 3 ↔ _
    rw [h1, List.mem_filter]
    by_cases h : M.out a p
    · rw [zbl_p h]
      exact ⟨fun z => absurd z (by decide), fun z => absurd h (zno_e.mp z.2)⟩
    · rw [zbl_n h]
      exact ⟨fun _ => ⟨hp.mem_iff.mpr he, zno_t h⟩, fun _ => rfl⟩
theorem fold_st : ∀ (Z : zEn) (s : zBs), (∀ f, f ∈ Z → ¬ f.2 0 = o) → (Z.foldl (zb2 M a) s).1 o = s.1 o := by
  intro Z
  induction Z with
  | nil => exact fun _ _ => rfl
  | cons z Z ih =>
    intro s h
    show (Z.foldl (zb2 M a) (zb2 M a s z)).1 o = s.1 o
    rw [ih _ (fun f hf => h f (List.mem_cons_of_mem _ hf))]
    by_cases ho : M.out a z.2
    · rw [zb2_o ho]
    · rw [zb2_n ho]
      have h1 := h z List.mem_cons_self
      rcases zb1_st M a s z.2 with h9 | h9 <;> rw [h9, zup1_b (fun z => h1 z.symm)]
theorem list_at {α : Type} {l : List α} {k : Nat} {y : α} (h : l[k]? = some y) : l = l.take k ++ y :: l.drop (k + 1) := by
  obtain ⟨h1, h2⟩ := List.getElem?_eq_some_iff.mp h
  have h3 := List.drop_eq_getElem_cons h1
  rw [h2] at h3
  exact (List.take_append_drop k l).symm.trans (congrArg (l.take k ++ ·) h3)
theorem bel_at (W : WF B M) (hp : Y.Perm (zent w (-1) (M.li a) 0)) (hs : Y.Pairwise (fun e f => M.rk a e.2 < M.rk a f.2)) (hk : Y[k]? = some e) : (M.bel a w (-1)).1 (e.2 0) = (zb2 M a ((Y.take k).foldl (zb2 M a) (zs0 M a w)) e).1 (e.2 0) := by
  have hY := list_at hk
  rw [bel_fold W hp hs]
  have hs2 := hs
  rw [hY] at hs2
  have h1 := (List.pairwise_append.mp hs2).2.1
  have h2 := (List.pairwise_cons.mp h1).1
  have e1 : Y.foldl (zb2 M a) (zs0 M a w) = (Y.drop (k + 1)).foldl (zb2 M a) (zb2 M a ((Y.take k).foldl (zb2 M a) (zs0 M a w)) e) := by
    conv => lhs; rw [hY]
    rw [List.foldl_append]
    rfl
  rw [e1]
  refine fold_st _ _ (fun f hf h3 => ?_)
  have h4 := h2 f hf
  have hfY : f ∈ Y := List.mem_of_mem_drop hf
  have heY : e ∈ Y := List.mem_of_getElem? hk
  have h5 := zent_inj W f e (hp.mem_iff.mp hfY) (hp.mem_iff.mp heY) h3
  rw [h5] at h4
  omega
theorem take_fold (hk : Y[k]? = some e) : (Y.take (k + 1)).foldl (zb2 M a) s = zb2 M a ((Y.take k).foldl (zb2 M a) s) e := by
  rw [take_s hk, List.foldl_append]
  rfl
theorem zws_s : ∀ (X : zEn) (c : Int), zws s t (X ++ [e]) c = if s.1 (e.2 0) = t then zor (zws s t X c) (zshl 1 (e.2 0)) else zws s t X c := by
  intro X
  induction X with
  | nil =>
    intro c
    show (if s.1 (e.2 0) = t then zor c (zshl 1 (e.2 0)) else c) = _
    rfl
  | cons f X ih => exact fun c => ih _
theorem zws_y (hk : Y[k]? = some e) (h : s.1 (e.2 0) = t) : zws s t (Y.take (k + 1)) 0 = zor (zws s t (Y.take k) 0) (zshl 1 (e.2 0)) := by
  rw [take_s hk, zws_s]
  exact if_pos h
theorem zws_n (hk : Y[k]? = some e) (h : ¬ s.1 (e.2 0) = t) : zws s t (Y.take (k + 1)) 0 = zws s t (Y.take k) 0 := by
  rw [take_s hk, zws_s]
  exact if_neg h
theorem zso_mem : ∀ X : zEn, (∀ e f, e ∈ X → f ∈ X → e.1 = f.1 → e = f) → e ∈ X → zso s e.1 X = s.1 (e.2 0) := by
  intro X
  induction X with
  | nil => exact fun _ h => absurd h List.not_mem_nil
  | cons f X ih =>
    intro h he
    show (if f.1 = e.1 then s.1 (f.2 0) else zso s e.1 X) = _
    by_cases hf : f.1 = e.1
    · rw [if_pos hf, h f e List.mem_cons_self he hf]
    · rw [if_neg hf]
      exact ih (fun e f h1 h2 => h e f (List.mem_cons_of_mem _ h1) (List.mem_cons_of_mem _ h2)) ((List.mem_cons.mp he).resolve_left (fun z => hf (by rw [z])))
theorem zent_get (h : (i, q) ∈ zent w x (M.li a) 0) : (M.li a)[i]? = some q ∧ q 3 = w ∧ ¬ q 1 = x := (zent_mem _ _ _ _ h).2
theorem zent_idx : ∀ e f, e ∈ zent w x (M.li a) 0 → f ∈ zent w x (M.li a) 0 → e.1 = f.1 → e = f := by
  rintro ⟨r1, p1⟩ ⟨r2, p2⟩ he hf h
  replace h : r1 = r2 := h
  subst h
  have h1 := (zent_get he).1
  have h2 := (zent_get hf).1
  rw [Option.some.inj (h1.symm.trans h2)]
theorem sts_at (h : (i, q) ∈ zent w (-1) (M.li a) 0) : M.sts a i q = (M.bel a w (-1)).1 (q 0) := by
  obtain ⟨h1, h2, h3⟩ := zent_get h
  show zso (M.bel a (q 3) (-1)) i (zent (q 3) (-1) (M.li a) 0) = _
  rw [h2]
  exact zso_mem _ zent_idx h
theorem zent_s (w x : Int) (p : zP) : ∀ (l : List zP) (k : Nat), zent w x (l ++ [p]) k = zent w x l k ++ (if p 3 = w ∧ ¬ p 1 = x then [(k + l.length, p)] else []) := by
  intro l
  induction l with
  | nil =>
    intro k
    show (if p 3 = w ∧ ¬ p 1 = x then (k, p) :: zent w x [] (k + 1) else zent w x [] (k + 1)) = _
    split <;> rfl
  | cons f l ih =>
    intro k
    show (if f 3 = w ∧ ¬ f 1 = x then (k, f) :: zent w x (l ++ [p]) (k + 1) else zent w x (l ++ [p]) (k + 1)) = (if f 3 = w ∧ ¬ f 1 = x then (k, f) :: zent w x l (k + 1) else zent w x l (k + 1)) ++ _
    rw [ih (k + 1), show k + 1 + l.length = k + (f :: l).length by simp; omega]
    split <;> rfl
theorem zent_y (hk : (M.li a)[k]? = some q) (h : q 3 = w ∧ ¬ q 1 = x) : zent w x ((M.li a).take (k + 1)) 0 = zent w x ((M.li a).take k) 0 ++ [(k, q)] := by
  have hl := (List.getElem?_eq_some_iff.mp hk).1
  rw [take_s hk, zent_s, if_pos h, List.length_take, Nat.min_eq_left (by omega), Nat.zero_add]
theorem zent_n (hk : (M.li a)[k]? = some q) (h : ¬ (q 3 = w ∧ ¬ q 1 = x)) : zent w x ((M.li a).take (k + 1)) 0 = zent w x ((M.li a).take k) 0 := by
  rw [take_s hk, zent_s, if_neg h, List.append_nil]
theorem zent_app (w x : Int) : ∀ (l r : List zP) (k : Nat), zent w x (l ++ r) k = zent w x l k ++ zent w x r (k + l.length) := by
  intro l
  induction l with
  | nil => exact fun _ _ => rfl
  | cons f l ih =>
    intro r k
    show (if f 3 = w ∧ ¬ f 1 = x then (k, f) :: zent w x (l ++ r) (k + 1) else zent w x (l ++ r) (k + 1)) = (if f 3 = w ∧ ¬ f 1 = x then (k, f) :: zent w x l (k + 1) else zent w x l (k + 1)) ++ _
    rw [ih r (k + 1), show k + 1 + l.length = k + (f :: l).length by simp; omega]
    split <;> rfl
/-- the entries of the first reports are among all -/
theorem zent_pre (W : WF B M) (n : Nat) : (∀ e, e ∈ zent w x ((M.li a).take n) 0 → e ∈ zent w x (M.li a) 0) ∧ (zent w x ((M.li a).take n) 0).length ≤ 6 := by
  have h := zent_app w x ((M.li a).take n) ((M.li a).drop n) 0
  rw [List.take_append_drop] at h
  refine ⟨fun e he => ?_, ?_⟩
  · rw [h]
    exact List.mem_append_left _ he
  · have h1 := zent_len W a w x
    rw [h, List.length_append] at h1
    omega
theorem zent_le (l : List zP) (k : Nat) : (zent w x l k).length ≤ l.length := by
  have h := (zent_sub (w := w) (x := x) l k).length_le
  rw [List.length_map] at h
  exact h
theorem bel_rng (M : zD) (a w x : Int) : 0 ≤ (M.bel a w x).2.1 ∧ (M.bel a w x).2.1 ≤ (M.bel a w x).2.2 ∧ (M.bel a w x).2.2 ≤ 999 := by
  refine zlp_inv (P := fun s : zBs => 0 ≤ s.2.1 ∧ s.2.1 ≤ s.2.2 ∧ s.2.2 ≤ 999) (N := (zent w x (M.li a) 0).length) (fun k s _ hs => ?_) _ 0 _ (by omega) ⟨show (0 : Int) ≤ 0 by decide, show (0 : Int) ≤ 999 by decide, show (999 : Int) ≤ 999 by decide⟩
  unfold zbs
  split
  · exact hs
  · split
    · exact hs
    · refine ⟨?_, ?_, ?_⟩
      · show 0 ≤ max s.2.1 _
        omega
      · show max s.2.1 _ ≤ min s.2.2 _
        omega
      · show min s.2.2 _ ≤ 999
        omega
end R1
