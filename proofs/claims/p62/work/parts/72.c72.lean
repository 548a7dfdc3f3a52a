/-! C 72: forgetting, cleansing -/
def zkq (w s : Int) (p : zP) : Bool := decide (¬ (p 3 = w ∧ zand (zshr s (p 0)) 1 = 1))
def zkf (w : Int) (p : zP) : Bool := decide (¬ p 3 = w)
theorem zkq_t {w s : Int} {p : zP} (h : ¬ (p 3 = w ∧ zand (zshr s (p 0)) 1 = 1)) : zkq w s p = true := decide_eq_true h
theorem zkq_f {w s : Int} {p : zP} (h : p 3 = w ∧ zand (zshr s (p 0)) 1 = 1) : zkq w s p = false := decide_eq_false (fun z => z h)
theorem zkf_t {w : Int} {p : zP} (h : ¬ p 3 = w) : zkf w p = true := decide_eq_true h
theorem zkf_f {w : Int} {p : zP} (h : p 3 = w) : zkf w p = false := decide_eq_false (fun z => z h)
theorem fil_cons_t {α : Type} {κ : α → Bool} {p : α} {l : List α} (h : κ p = true) : (p :: l).filter κ = p :: l.filter κ := by rw [List.filter_cons, if_pos h]
theorem fil_cons_f {α : Type} {κ : α → Bool} {p : α} {l : List α} (h : κ p = false) : (p :: l).filter κ = l.filter κ := by rw [List.filter_cons, if_neg (by rw [h]; decide)]
theorem mb_all : ∀ k : Fin 6, zand (zshr (-1) ((k : Nat) : Int)) 1 = 1 := by decide +kernel
theorem mb_neg1 {k : Int} (hk : 0 ≤ k ∧ k < 6) : zand (zshr (-1) k) 1 = 1 := by
  have h := mb_all ⟨k.toNat, by omega⟩
  dsimp only at h
  rw [Int.toNat_of_nonneg hk.1] at h
  exact h
section C72
variable {S S' : zG} {μ μ' μ1 : zM} {x m d B A a o t w s : Int} {M M' : zD} {L : List zD} {K : zKs} {inp out : List Int} {c p : Int} {P : zG → zM → Prop} {Q : zR × zS → Prop}
theorem wli_2 (M : zD) (a : Int) (l1 l2 : List zP) : (M.wli (zup1 M.li a l1)).wli (zup1 (M.wli (zup1 M.li a l1)).li a l2) = M.wli (zup1 M.li a l2) := by
  show M.wli (zup1 (zup1 M.li a _) a _) = _
  rw [zup1_2]
theorem wli_at (M : zD) (a : Int) (l : List zP) : (M.wli (zup1 M.li a l)).li a = l := zup1_at
theorem d_removeAll (h : D7 S μ d M) (ha : 0 ≤ a ∧ a < 6) : ∃ μ', f_X5_removeAll (d + 13 + 2 * a) w s (S, μ) = some (.inl ((M.li a).length - ((M.li a).filter (zkq w s)).length : Int), (S, μ')) ∧ D7 S μ' d (M.wli (zup1 M.li a ((M.li a).filter (zkq w s)))) ∧ FR d μ μ' := by
  have Ls := h.sh.ls a ha.1 ha.2
  have h36 := h.ll a ha.1 ha.2
  have hfl : ((M.li a).filter (zkq w s)).length ≤ (M.li a).length := List.length_filter_le _ _
  apply zo_ux
  refine j_X5_removeAll ?_
  refine zo_gf Ls.o (h.li a ha.1 ha.2).1 (by omega) (by omega) ?_
  rw [w32_e (show -2147483648 ≤ ((M.li a).length : Int) - 1 ∧ ((M.li a).length : Int) - 1 < 2147483648 by omega)]
  generalize hl : M.li a = l at *
  refine zo_l2 (F := fun n (j : Nat) (μ2 : zM) => f_X5_removeAll_10 n (d + 13 + 2 * a) w s (l.length : Int) ((j : Int) - 1) (S, μ2)) (fun j μ2 => j ≤ l.length ∧ D7 S μ2 d (M.wli (zup1 M.li a (l.take j ++ (l.drop j).filter (zkq w s)))) ∧ FR d μ μ2) (fun j _ => j) ?_ zFU l.length μ ⟨Nat.le_refl _, by rw [List.take_length, List.drop_length]; show D7 S μ d (M.wli (zup1 M.li a (l ++ []))); rw [List.append_nil, ← hl, wli_id]; exact h, FR.rf⟩ (by show l.length < 1000000; omega)
  rintro n j μ2 ⟨hj, h2, f2⟩ ih
  have e1 := wli_at M a (l.take j ++ (l.drop j).filter (zkq w s))
  refine j_X5_removeAll_10 ?_
  cases j with
  | zero =>
    have h2' : D7 S μ2 d (M.wli (zup1 M.li a (l.filter (zkq w s)))) := h2
    have hc := (h2'.li a ha.1 ha.2).1
    rw [wli_at] at hc
    refine zo_pos (by omega) ?_
    refine zo_gf Ls.o hc (by omega) (by omega) ?_
    rw [w32_e (by omega)]
    exact zo_rt ⟨μ2, rfl, h2', f2⟩
  | succ j =>
    have ej : ((j + 1 : Nat) : Int) - 1 = (j : Int) := by omega
    have e3 : w32 ((j : Int) + (-1)) = (j : Int) - 1 := w32_e (by omega)
    obtain ⟨q, hq, hd, hqm⟩ := drop_cons (l := l) (k := j) (by omega)
    have hk : ((M.wli (zup1 M.li a (l.take (j + 1) ++ (l.drop (j + 1)).filter (zkq w s)))).li a)[j]? = some q := by rw [e1]; exact get_mid hq
    have keep : ¬ (q 3 = w ∧ zand (zshr s (q 0)) 1 = 1) → zo (f_X5_removeAll_46 (f_X5_removeAll_10 n) (d + 13 + 2 * a) w s (l.length : Int) (j : Int) (S, μ2)) (fun r => ∃ μ', r = (.inl (l.length - (l.filter (zkq w s)).length : Int), (S, μ')) ∧ D7 S μ' d (M.wli (zup1 M.li a (l.filter (zkq w s)))) ∧ FR d μ μ') := by
      intro hn
      refine j_X5_removeAll_46 ?_
      rw [e3]
      refine ih j μ2 ⟨by omega, ?_, f2⟩ (by omega)
      rw [hd, fil_cons_t (zkq_t hn)]
      rw [take_s hq, List.append_assoc] at h2
      exact h2
    rw [ej]
    refine zo_neg (by omega) ?_
    refine zo_ob Ls.o (by omega) ?_
    refine zo_bn (d_get3 h2 ha hk) ?_
    refine zo_ite (fun z1 => ?_) (fun z1 => keep (fun y => z1 y.1))
    refine zo_ob Ls.o (by omega) ?_
    refine zo_bn (d_get0 h2 ha hk) ?_
    refine zo_bn c_cont2 ?_
    refine zo_zb (fun z2 => keep (fun y => z2 y.2)) (fun z2 => ?_)
    obtain ⟨μ3, e5, h3, f3⟩ := d_removeRow h2 (k := j) ha (by rw [e1, List.length_append, List.length_take]; omega)
    refine zo_ob Ls.o (by omega) ?_
    refine zo_bn e5 ?_
    refine j_X5_removeAll_46 ?_
    rw [e3]
    refine ih j μ3 ⟨by omega, ?_, FR.tr f2 f3⟩ (by omega)
    rw [e1, erase_mid hq, wli_2] at h3
    rw [hd, fil_cons_f (zkq_f ⟨z1, z2⟩)]
    exact h3
theorem WF.fil (h : WF B M) (ha : 0 ≤ a ∧ a < (M.an.length : Int)) (κ : zP → Bool) : WF B (M.wli (zup1 M.li a ((M.li a).filter κ))) :=
  h.lis ha (fun p hp => h.li a p (List.mem_filter.mp hp).1) ((h.nd a).sublist List.filter_sublist)
theorem fil_forget (W : WF B M) : (M.li a).filter (zkq w (-1)) = (M.li a).filter (zkf w) := by
  refine List.filter_congr (fun q hq => ?_)
  have h1 := (W.li a q hq).o
  have h2 := W.al
  have h3 := mb_neg1 (show 0 ≤ q 0 ∧ q 0 < 6 by omega)
  by_cases e : q 3 = w
  · rw [zkq_f ⟨e, h3⟩, zkf_f e]
  · rw [zkq_t (fun z => e z.1), zkf_t e]
theorem znx_cg {R : zP → Int} {st : Int → Int} : ∀ (X Y : zEn) (b : Option zP), X.map Prod.snd = Y.map Prod.snd → znx R st X b = znx R st Y b := by
  intro X
  induction X with
  | nil =>
    intro Y b h
    cases Y with
    | nil => rfl
    | cons f Y => simp at h
  | cons e X ih =>
    intro Y b h
    cases Y with
    | nil => simp at h
    | cons f Y =>
      rw [List.map_cons, List.map_cons] at h
      obtain ⟨h1, h2⟩ := List.cons.inj h
      rw [znx_c, znx_c, h1, ih Y _ h2, ih Y _ h2]
theorem zst0_cg : ∀ (X Y : zEn) (o : Int), X.map Prod.snd = Y.map Prod.snd → zst0 M a X o = zst0 M a Y o := by
  intro X
  induction X with
  | nil =>
    intro Y o h
    cases Y with
    | nil => rfl
    | cons f Y => simp at h
  | cons e X ih =>
    intro Y o h
    cases Y with
    | nil => simp at h
    | cons f Y =>
      rw [List.map_cons, List.map_cons] at h
      obtain ⟨h1, h2⟩ := List.cons.inj h
      have h3 := ih Y o h2
      unfold zst0 at h3 ⊢
      rw [List.find?_cons, List.find?_cons, h1]
      by_cases z : f.2 0 = o
      · rw [decide_eq_true z]
        dsimp only
        rw [h1]
      · rw [decide_eq_false z]
        exact h3
theorem zbs_cg {X Y : zEn} (h : X.map Prod.snd = Y.map Prod.snd) (z : zBs) : zbs M a X z = zbs M a Y z := by
  unfold zbs
  rw [znx_cg X Y none h]
theorem zent_snd : ∀ (l : List zP) (k : Nat), (zent w x l k).map Prod.snd = l.filter (fun p => decide (p 3 = w ∧ ¬ p 1 = x)) := by
  intro l
  induction l with
  | nil => intro k; rfl
  | cons q l ih =>
    intro k
    rw [zent_c, List.filter_cons]
    by_cases e : q 3 = w ∧ ¬ q 1 = x
    · rw [if_pos e, if_pos (decide_eq_true e), List.map_cons, ih]
    · rw [if_neg e, if_neg (by rw [decide_eq_true_eq]; exact e), ih]
theorem bel_cg {l : List zP} (h : l.filter (fun p => decide (p 3 = w ∧ ¬ p 1 = x)) = (M.li a).filter (fun p => decide (p 3 = w ∧ ¬ p 1 = x))) : (M.wli (zup1 M.li a l)).bel a w x = M.bel a w x := by
  have hs : (zent w x ((M.wli (zup1 M.li a l)).li a) 0).map Prod.snd = (zent w x (M.li a) 0).map Prod.snd := by rw [zent_snd, zent_snd, wli_at, h]
  have hl : (zent w x ((M.wli (zup1 M.li a l)).li a) 0).length = (zent w x (M.li a) 0).length := by
    have h1 := congrArg List.length hs
    rw [List.length_map, List.length_map] at h1
    exact h1
  have e1 : zst0 (M.wli (zup1 M.li a l)) a (zent w x ((M.wli (zup1 M.li a l)).li a) 0) = zst0 M a (zent w x (M.li a) 0) := by
    funext o
    exact zst0_cg (M := M) _ _ o hs
  have e2 : (fun (_ : Nat) (z : zBs) => zbs (M.wli (zup1 M.li a l)) a (zent w x ((M.wli (zup1 M.li a l)).li a) 0) z) = (fun (_ : Nat) (z : zBs) => zbs M a (zent w x (M.li a) 0) z) := by
    funext _ z
    exact zbs_cg (M := M) hs z
  unfold zD.bel
  rw [e1, e2, hl]
theorem zws_mb {z : zBs} {t : Int} : ∀ (X : zEn) (c : Int), (∀ e, e ∈ X → 0 ≤ e.2 0 ∧ e.2 0 < 6) → (0 ≤ c ∧ c < 64) → (0 ≤ zws z t X c ∧ zws z t X c < 64) ∧ ∀ k, 0 ≤ k → k < 6 → (zand (zshr (zws z t X c) k) 1 = 1 ↔ (zand (zshr c k) 1 = 1 ∨ ∃ e, e ∈ X ∧ z.1 (e.2 0) = t ∧ e.2 0 = k)) := by
  intro X
  induction X with
  | nil =>
    intro c _ hc
    refine ⟨hc, fun k _ _ => ⟨fun h => Or.inl h, fun h => ?_⟩⟩
    rcases h with h | ⟨e, he, _⟩
    · exact h
    · exact absurd he (by simp)
  | cons e X ih =>
    intro c hX hc
    have he := hX e (List.mem_cons_self ..)
    rw [zws_c]
    by_cases y : z.1 (e.2 0) = t
    · rw [if_pos y]
      obtain ⟨h1, h2⟩ := ih (zor c (zshl 1 (e.2 0))) (fun f hf => hX f (List.mem_cons_of_mem _ hf)) (or_rng hc he)
      refine ⟨h1, fun k hk0 hk6 => ?_⟩
      rw [h2 k hk0 hk6, mb_or hc he ⟨hk0, hk6⟩]
      constructor
      · rintro ((h | h) | ⟨f, hf, h⟩)
        · exact Or.inr ⟨e, List.mem_cons_self .., y, h.symm⟩
        · exact Or.inl h
        · exact Or.inr ⟨f, List.mem_cons_of_mem _ hf, h⟩
      · rintro (h | ⟨f, hf, h3, h4⟩)
        · exact Or.inl (Or.inr h)
        · rcases List.mem_cons.mp hf with hf | hf
          · subst hf
            exact Or.inl (Or.inl h4.symm)
          · exact Or.inr ⟨f, hf, h3, h4⟩
    · rw [if_neg y]
      obtain ⟨h1, h2⟩ := ih c (fun f hf => hX f (List.mem_cons_of_mem _ hf)) hc
      refine ⟨h1, fun k hk0 hk6 => ?_⟩
      rw [h2 k hk0 hk6]
      constructor
      · rintro (h | ⟨f, hf, h⟩)
        · exact Or.inl h
        · exact Or.inr ⟨f, List.mem_cons_of_mem _ hf, h⟩
      · rintro (h | ⟨f, hf, h3, h4⟩)
        · exact Or.inl h
        · rcases List.mem_cons.mp hf with hf | hf
          · subst hf
            exact absurd h3 y
          · exact Or.inr ⟨f, hf, h3, h4⟩
def zgn (M : zD) (a : Int) (p : zP) : Prop := (M.bel a (p 3) (-1)).1 (p 0) = 1
noncomputable def zkc (M : zD) (a w : Int) (p : zP) : Bool := @decide (¬ (zgn M a p ∧ p 3 < w)) (Classical.propDecidable _)
noncomputable def zka (M : zD) (a : Int) (p : zP) : Bool := @decide (¬ zgn M a p) (Classical.propDecidable _)
theorem zkc_t {p : zP} (h : ¬ (zgn M a p ∧ p 3 < w)) : zkc M a w p = true := @decide_eq_true _ (Classical.propDecidable _) h
theorem zkc_f {p : zP} (h : zgn M a p ∧ p 3 < w) : zkc M a w p = false := @decide_eq_false _ (Classical.propDecidable _) (fun z => z h)
theorem zka_t {p : zP} (h : ¬ zgn M a p) : zka M a p = true := @decide_eq_true _ (Classical.propDecidable _) h
theorem zka_f {p : zP} (h : zgn M a p) : zka M a p = false := @decide_eq_false _ (Classical.propDecidable _) (fun z => z h)
theorem ors_mb (W : WF B M) {q : zP} (hq : q ∈ M.li a) (hw : q 3 = w) (hv : ¬ q 1 = -1) : zand (zshr (M.ors a w 1) (q 0)) 1 = 1 ↔ zgn M a q := by
  have hal := W.al
  have hX : ∀ e, e ∈ zent w (-1) (M.li a) 0 → 0 ≤ e.2 0 ∧ e.2 0 < 6 := by
    rintro ⟨r, p⟩ he
    have h1 := (zent_mem _ _ _ _ he).2.1
    have h2 := (W.li a p (List.mem_of_getElem? h1)).o
    show 0 ≤ p 0 ∧ p 0 < 6
    omega
  have ho := (W.li a q hq).o
  have h := (zws_mb (z := M.bel a w (-1)) (t := 1) _ 0 hX (by decide)).2 (q 0) ho.1 (by omega)
  have h0 : zand (zshr 0 (q 0)) 1 = 0 := by
    have hc : q 0 = 0 ∨ q 0 = 1 ∨ q 0 = 2 ∨ q 0 = 3 ∨ q 0 = 4 ∨ q 0 = 5 := by omega
    rcases hc with z | z | z | z | z | z <;> rw [z] <;> decide +kernel
  have hz : zand (zshr (M.ors a w 1) (q 0)) 1 = 1 ↔ (zand (zshr 0 (q 0)) 1 = 1 ∨ ∃ e, e ∈ zent w (-1) (M.li a) 0 ∧ (M.bel a w (-1)).1 (e.2 0) = 1 ∧ e.2 0 = q 0) := h
  rw [hz, h0]
  unfold zgn
  rw [hw]
  constructor
  · rintro (h1 | ⟨e, _, h2, h3⟩)
    · exact absurd h1 (by decide)
    · rw [← h3]; exact h2
  · intro h1
    obtain ⟨k, hk⟩ := List.mem_iff_getElem?.mp hq
    exact Or.inr ⟨(0 + k, q), zent_has _ 0 k q hk ⟨hw, hv⟩, h1, rfl⟩
theorem fil_way (hw : 0 ≤ w) {l : List zP} (hl : M.li a = l) : (l.filter (zkc M a w)).filter (fun p => decide (p 3 = w ∧ ¬ p 1 = -1)) = l.filter (fun p => decide (p 3 = w ∧ ¬ p 1 = -1)) := by
  rw [List.filter_filter]
  refine List.filter_congr (fun q _ => ?_)
  by_cases e : q 3 = w ∧ ¬ q 1 = -1
  · rw [decide_eq_true e, zkc_t (fun z => by have := z.2; omega)]; rfl
  · rw [decide_eq_false e]; rfl
theorem cl_step (W : WF B M) (ha : 0 ≤ a ∧ a < (M.an.length : Int)) (hw : 0 ≤ w) : ((M.li a).filter (zkc M a w)).filter (zkq w ((M.wli (zup1 M.li a ((M.li a).filter (zkc M a w)))).ors a w 1)) = (M.li a).filter (zkc M a (w + 1)) := by
  have Wf := W.fil ha (zkc M a w)
  have hb := bel_cg (M := M) (a := a) (w := w) (x := -1) (l := (M.li a).filter (zkc M a w)) (fil_way hw rfl)
  rw [List.filter_filter]
  refine List.filter_congr (fun q hq => ?_)
  have hv := (W.li a q hq).v
  by_cases e : q 3 = w
  · have h1 : zkc M a w q = true := zkc_t (fun z => by have := z.2; omega)
    have h2 : q ∈ (M.wli (zup1 M.li a ((M.li a).filter (zkc M a w)))).li a := by rw [wli_at]; exact List.mem_filter.mpr ⟨hq, h1⟩
    have h3 := ors_mb Wf h2 e (by omega)
    have h4 : zgn (M.wli (zup1 M.li a ((M.li a).filter (zkc M a w)))) a q ↔ zgn M a q := by
      unfold zgn
      rw [e, hb]
    rw [h1, Bool.and_true]
    by_cases g : zgn M a q
    · rw [zkc_f ⟨g, by omega⟩, zkq_f ⟨e, h3.mpr (h4.mpr g)⟩]
    · rw [zkc_t (fun z => g z.1), zkq_t (fun z => g (h4.mp (h3.mp z.2)))]
  · rw [zkq_t (fun z => e z.1), Bool.true_and]
    by_cases g : zgn M a q ∧ q 3 < w
    · rw [zkc_f g, zkc_f ⟨g.1, by omega⟩]
    · rw [zkc_t g, zkc_t (fun z => g ⟨z.1, by omega⟩)]
def FW (x : Int) (μ μ' : zM) : Prop := ∀ y, (y < x + 5 ∨ x + 12 ≤ y) → (y < x + 12 ∨ x + 37 ≤ y) → μ' y = μ y
theorem FW.rf : FW x μ μ := fun _ _ _ => rfl
theorem FW.v {μ2 : zM} (h : FW x μ μ1) (k : FV (x + 5) μ1 μ2) : FW x μ μ2 := fun y h1 h2 => (k y (by omega)).trans (h y h1 h2)
theorem FW.r {μ2 : zM} (h : FW x μ μ1) (k : FR (x + 12) μ1 μ2) : FW x μ μ2 := fun y h1 h2 => (k y (by omega)).trans (h y h1 h2)
theorem c_cleanse (C : CB S x) (hD : D7 S μ (x + 12) M) (W : WF B M) (ha : 0 ≤ a ∧ a < (M.an.length : Int)) : zo (f_X7_cleanse_20 zFU x a 0 0 (S, μ)) (fun r => ∃ μ', r = (.inl ((M.li a).length - ((M.li a).filter (zka M a)).length : Int), (S, μ')) ∧ D7 S μ' (x + 12) (M.wli (zup1 M.li a ((M.li a).filter (zka M a)))) ∧ FW x μ μ') := by
  have h60 := hD.al
  have h61 := hD.wl
  have ha6 : 0 ≤ a ∧ a < 6 := by omega
  have h36 := hD.ll a ha6.1 ha6.2
  have hle : ∀ κ : zP → Bool, ((M.li a).filter κ).length ≤ (M.li a).length := fun κ => List.length_filter_le _ _
  refine zo_l3 (F := fun n (w : Nat) (c : Int) (μ2 : zM) => f_X7_cleanse_20 n x a c (w : Int) (S, μ2)) (fun w c μ2 => w ≤ M.wn.length ∧ c = ((M.li a).length - ((M.li a).filter (zkc M a (w : Int))).length : Int) ∧ D7 S μ2 (x + 12) (M.wli (zup1 M.li a ((M.li a).filter (zkc M a (w : Int))))) ∧ FW x μ μ2) (fun w _ _ => M.wn.length - w) ?_ zFU 0 0 μ ⟨by omega, ?_, ?_, FW.rf⟩ (by show M.wn.length - 0 < 1000000; omega)
  · rintro n w c μ2 ⟨hw, hc, h2, f2⟩ ih
    have hl1 := hle (zkc M a (w : Int))
    refine j_X7_cleanse_20 ?_
    refine zo_gr C.o C.r3 (by omega) (by omega) ?_
    refine zo_gr h2.sh.o h2.sh.r2 (by omega) (by omega) ?_
    refine zo_gf h2.sh.wa.o h2.wn0 (by omega) (by omega) ?_
    have ewn : (M.wli (zup1 M.li a ((M.li a).filter (zkc M a (w : Int))))).wn = M.wn := rfl
    rw [ewn]
    by_cases e : w < M.wn.length
    · have Wf := W.fil ha (zkc M a (w : Int))
      obtain ⟨μ3, e3, f3⟩ := c_originsOf (w := (w : Int)) (t := 1) C h2 Wf ha6
      have h3 := f3.d h2
      have ecl := cl_step W ha (show 0 ≤ (w : Int) by omega)
      obtain ⟨μ4, e4, h4, f4⟩ := d_removeAll (w := (w : Int)) (s := (M.wli (zup1 M.li a ((M.li a).filter (zkc M a (w : Int))))).ors a (w : Int) 1) h3 ha6
      rw [wli_at, ecl] at e4 h4
      rw [wli_2] at h4
      have hl2 := hle (zkc M a ((w : Int) + 1))
      refine zo_pos (by omega) ?_
      refine zo_gr C.o C.r3 (by omega) (by omega) ?_
      refine zo_ob h2.sh.o (by omega) ?_
      refine zo_bn (d_listOf h2 ha6) ?_
      refine zo_ob C.o (by omega) ?_
      refine zo_bn e3 ?_
      refine zo_ob (h2.sh.ls a ha6.1 ha6.2).o (by omega) ?_
      refine zo_bn e4 ?_
      rw [w32_s (k := w) (by omega), w32_e (by omega)]
      have e1 : ((w + 1 : Nat) : Int) = (w : Int) + 1 := rfl
      exact ih (w + 1) _ μ4 ⟨by omega, by rw [e1, hc]; omega, by rw [e1]; exact h4, (f2.v f3).r f4⟩ (by omega)
    · have ew : w = M.wn.length := by omega
      have efl : (M.li a).filter (zkc M a (w : Int)) = (M.li a).filter (zka M a) := by
        refine List.filter_congr (fun q hq => ?_)
        have h3 := (W.li a q hq).w
        by_cases g : zgn M a q
        · rw [zkc_f ⟨g, by omega⟩, zka_f g]
        · rw [zkc_t (fun z => g z.1), zka_t g]
      rw [efl] at hc h2
      refine zo_neg (by omega) ?_
      exact zo_rt ⟨μ2, by rw [hc], h2, f2⟩
  · have efl : (M.li a).filter (zkc M a ((0 : Nat) : Int)) = M.li a := by
      refine List.filter_eq_self.mpr (fun q hq => ?_)
      have h3 := (W.li a q hq).w
      exact zkc_t (fun z => by have := z.2; omega)
    rw [efl]
    omega
  · have efl : (M.li a).filter (zkc M a ((0 : Nat) : Int)) = M.li a := by
      refine List.filter_eq_self.mpr (fun q hq => ?_)
      have h3 := (W.li a q hq).w
      exact zkc_t (fun z => by have := z.2; omega)
    rw [efl, wli_id]
    exact hD
theorem W7.desk2 (h : W7 S μ x M L K inp out c p) (hd : D7 S μ' (x + 12) M') (f : FW x μ μ') : W7 S μ' x M' L K inp out c p := by
  obtain ⟨r, hr⟩ := h.H
  have hx := h.C.x0
  exact W7.mk ⟨h.C, hd, h.ts, by rw [f _ (by omega) (by omega)]; exact h.te, ⟨r, hr.keep (fun y hy => f y (by omega) (by omega))⟩, h.bi, h.li.keep (by rw [f _ (by omega) (by omega)]) (fun k => by rw [f _ (by omega) (by omega)]), h.bo, h.lo.keep (by rw [f _ (by omega) (by omega)]) (fun k => by rw [f _ (by omega) (by omega)]), h.po, h.p0, h.p1, by rw [f _ (by omega) (by omega)]; exact h.pc, by rw [f _ (by omega) (by omega)]; exact h.pp, h.il, h.ol⟩
end C72
