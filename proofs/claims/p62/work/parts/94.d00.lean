/-! R3: the law's walk through the sets -/
section R3
variable {B x : Int} {S S1 : zG} {μ μ' μ0 μ1 μ2 : zM} {M : zD} {L : List zD} {K : zKs} {inp out : List Int} {c p a w r : Int} {H : Int → zS → zFn} {Q : zR × zS → Prop} {k i : Nat} {q : zP} {X Y Z : zEn} {e f : Nat × zP} {A : zFn}
theorem zo_lk {β : Type} {F : Nat → β → zFn} {Q : zR × zS → Prop} (N : Nat) (I : Nat → β → Prop) (step : ∀ m k b, k ≤ N → I k b → (k < N → ∀ b', I (k + 1) b' → zo (F m b') Q) → zo (F (m + 1) b) Q) {b0 : β} (h0 : I 0 b0) {m : Nat} (hm : N < m) : zo (F m b0) Q := by
  have key : ∀ (j k : Nat) (b : β) (m : Nat), k + j = N → j < m → I k b → zo (F m b) Q := by
    intro j
    induction j with
    | zero =>
      intro k b m hk hm hI
      cases m with
      | zero => exact absurd hm (by omega)
      | succ m => exact step m k b (by omega) hI (fun h => absurd h (by omega))
    | succ j ih =>
      intro k b m hk hm hI
      cases m with
      | zero => exact absurd hm (by omega)
      | succ m => exact step m k b (by omega) hI (fun _ b' hI' => ih (k + 1) b' m (by omega) (by omega) hI')
  exact key N 0 b0 m (by omega) hm h0
/-- the law's own array holds the places of these entries -/
def Rw (x : Int) (S S1 : zG) (μ0 : zM) (r : Int) (Z : zEn) (μ : zM) : Prop := Ext x S S1 μ0 μ ∧ ∀ (j : Nat) (e : Nat × zP), Z[j]? = some e → μ r (j : Int) = (e.1 : Int)
theorem Rw.fv (h : Rw x S S1 μ0 r Z μ) (hr : x + 12 ≤ r) (f : FV (x + 5) μ μ') : Rw x S S1 μ0 r Z μ' := ⟨h.1.fv f, fun j e hj => (congrFun (f r (by omega)) _).trans (h.2 j e hj)⟩
theorem Rw.snoc (h : Rw x S S1 μ0 r Z μ) (hr : S.2.2 ≤ r) : Rw x S S1 μ0 r (Z ++ [e]) (zup μ r (Z.length : Int) (e.1 : Int)) := by
  refine ⟨h.1.up hr, fun j f hj => ?_⟩
  rcases snoc_get hj with ⟨h1, h2⟩ | ⟨h1, h2⟩
  · rw [zup_j (by omega)]
    exact h.2 j f h2
  · rw [h1, h2]
    exact zup_at
/-- the law says yes, and the world is as it was -/
def Dn (B x : Int) (M : zD) (L : List zD) (K : zKs) (inp out : List Int) (c p : Int) (r : zR × zS) : Prop := ∃ S' μ', r = (.inl 1, (S', μ')) ∧ Wd B x S' μ' M L K inp out c p
theorem zo_bd (h : zo A (Dn B x M L K inp out c p)) (g : ∀ S' μ', Wd B x S' μ' M L K inp out c p → zo (H 1 (S', μ')) Q) : zo (zbn A H) Q := by
  obtain ⟨r, e, S', μ', e2, h2⟩ := h
  rw [e2] at e
  exact zo_bn e (g S' μ' h2)
theorem ag_fin (h : Sd B x S μ0 μ M L K inp out c p) (ha : 0 ≤ a ∧ a < (M.an.length : Int)) (hw : 0 ≤ w ∧ w < (M.wn.length : Int)) {b lo hi : Int} (hb : (M.agd a w).2 = b ∧ M.mjb a w 0 = lo ∧ M.mjb a w 1 = hi) : zo (f_L_agrees_231 x a w b lo hi (S, μ)) (Dn B x M L K inp out c p) := by
  refine j_L_agrees_231 ?_
  refine y_majority h ha hw (fun μ1 h1 => ?_)
  refine zo_pos hb.1 ?_
  refine y_majorityBound0 h1 ha hw (fun μ2 h2 => ?_)
  refine zo_pos hb.2.1 ?_
  refine y_majorityBound1 h2 ha hw (fun μ3 h3 => ?_)
  refine zo_pos hb.2.2 ?_
  exact zo_rt ⟨_, _, rfl, h3.1⟩
theorem ag_rng (W : WF B M) {t b lo hi : Int} (ht : t ≤ 64) (h : zAg M a (zZ M a w) t b lo hi) : 0 ≤ b ∧ b < 64 := by
  rcases h with ⟨h1, _⟩ | ⟨s0, h1, _, h3, _⟩
  · omega
  · rw [h3]
    exact (zcs_go (M := M) (a := a) (s := s0) (by omega) (zZ_len W) (zZ_or W) _ (Nat.le_refl _)).1.2
theorem ag_sets (h0 : Wd B x S μ0 M L K inp out c p) (ha : 0 ≤ a ∧ a < (M.an.length : Int)) (hw : 0 ≤ w ∧ w < (M.wn.length : Int)) (hr : r = S.2.2) (hr1 : S1.1 r = some (1, 6)) (R0 : Rw x S S1 μ0 r (zZ M a w) μ) : zo (f_L_agrees_61 x a w r ((zZ M a w).length : Int) (S1, μ)) (Dn B x M L K inp out c p) := by
  have W := h0.w.M
  have hl := zZ_len (a := a) (w := w) W
  have hp := pw_e hl
  have hx := h0.nn
  have hrx : x + 12 ≤ r := by omega
  refine j_L_agrees_61 ?_
  refine zo_lk (F := fun m (b : Int × Int × Int × Int × zM) => f_L_agrees_73 m x a w r ((zZ M a w).length : Int) b.1 b.2.1 b.2.2.1 b.2.2.2.1 (S1, b.2.2.2.2)) (b0 := (0, -1, -1, 1, μ)) ((zpw (zZ M a w).length).toNat - 1) (fun k b => b.2.2.2.1 = (k : Int) + 1 ∧ zAg M a (zZ M a w) b.2.2.2.1 b.1 b.2.1 b.2.2.1 ∧ Rw x S S1 μ0 r (zZ M a w) b.2.2.2.2) ?_ ⟨rfl, Or.inl ⟨rfl, rfl, rfl, fun s h1 h2 => absurd h1 (by dsimp only at h2; omega)⟩, R0⟩ (by show _ < 1000000; omega)
  rintro n k ⟨best, lo, hi, set, μ1⟩ hk ⟨hs, hA, hR⟩ ih
  dsimp only at hs hA hR ih ⊢
  refine j_L_agrees_73 ?_
  rw [hp.1]
  by_cases hc : set < zpw (zZ M a w).length
  · refine zo_pos hc ?_
    have hs6 : 0 ≤ set ∧ set < 64 := by omega
    have hk9 : k < (zpw (zZ M a w).length).toNat - 1 := by omega
    have hg := zcs_go (M := M) (a := a) hs6 hl (zZ_or W) _ (Nat.le_refl _)
    have nx : ∀ {b l h : Int} {μ3 : zM}, zAg M a (zZ M a w) (set + 1) b l h → Rw x S S1 μ0 r (zZ M a w) μ3 → zo (f_L_agrees_225 (f_L_agrees_73 n) x a w r ((zZ M a w).length : Int) b l h set (S1, μ3)) (Dn B x M L K inp out c p) := by
      intro b l h μ3 hA3 hR3
      refine j_L_agrees_225 ?_
      rw [w32_e (z := set + 1) (by omega)]
      exact ih hk9 (b, l, h, set + 1, μ3) ⟨by show set + 1 = ((k + 1 : Nat) : Int) + 1; omega, hA3, hR3⟩
    refine zo_for (F := fun n2 (j : Nat) (c : Int × Int × Int) μ2 => f_L_agrees_96 (f_L_agrees_73 n) n2 x a w r ((zZ M a w).length : Int) best lo hi set c.1 c.2.1 c.2.2 (j : Int) (S1, μ2)) (N := (zZ M a w).length) (st := zag M a (zZ M a w) set) (c0 := (0, 999, 0)) (fun _ _ => True) (Rw x S S1 μ0 r (zZ M a w)) ?_ trivial hR (by show (zZ M a w).length < 1000000; omega)
    intro n2 j c2 μ2 hj _ hR2 ih2 fin
    refine j_L_agrees_96 ?_
    refine zo_ite (fun hj2 => ?_) (fun hj2 => ?_)
    · have hj3 : j < (zZ M a w).length := by omega
      have he : (zZ M a w)[j]? = some (zZ M a w)[j] := List.getElem?_eq_getElem hj3
      generalize (zZ M a w)[j] = e at he
      obtain ⟨i, q⟩ := e
      obtain ⟨hq, hew, ho⟩ := zZ_mem.mp (List.mem_of_getElem? he)
      replace hq : (M.li a)[i]? = some q := hq
      replace ho : ¬ M.out a q := ho
      refine zo_ite (fun hb => ?_) (fun hb => ?_)
      · refine j_L_agrees_167 ?_
        rw [w32_s (by omega)]
        have g := ih2 hj3 μ2 hR2 trivial
        rw [zag_0 hb] at g
        exact g
      · have hd := (h0.ext hR2.1).sd
        refine zo_ld hr1 (by omega) (hR2.2 j _ he) ?_
        refine y_moved0 hd hq ha (fun μ3 h3 => ?_)
        have R3 := hR2.fv hrx h3.2
        refine zo_ld hr1 (by omega) (R3.2 j _ he) ?_
        refine y_moved1 h3 hq ha (fun μ4 h4 => ?_)
        have R4 := hR2.fv hrx h4.2
        refine zo_ld hr1 (by omega) (R4.2 j _ he) ?_
        refine y_report0 h4 hq ha (fun μ5 h5 => ?_)
        refine j_L_agrees_167 ?_
        rw [w32_s (by omega), (mvd_lo ho).1, (mvd_lo ho).2]
        have g := ih2 hj3 μ5 (hR2.fv hrx h5.2) trivial
        rw [zag_1 he hb] at g
        exact g
    · have hj3 : j = (zZ M a w).length := by omega
      have e1 : zgS M a (zZ M a w) set = c2 := fin hj3
      have hb6 := ag_rng W (by omega) hA
      have hc6 := hg.1.2
      replace hc6 : 0 ≤ (zgS M a (zZ M a w) set).2.2 ∧ (zgS M a (zZ M a w) set).2.2 < 64 := hc6
      rw [e1] at hc6
      refine j_L_agrees_173 ?_
      refine zo_bn c_bits ?_
      refine zo_bn c_bits ?_
      rw [bc_cu hc6, bc_cu hb6, cu_dif hc6 hb6]
      have old : (zgF M a (zZ M a w) set → ¬ best = 0 ∧ zbet best c2.2.2) → zo (f_L_agrees_225 (f_L_agrees_73 n) x a w r ((zZ M a w).length : Int) best lo hi set (S1, μ2)) (Dn B x M L K inp out c p) := fun z => nx (agr_old hA (by rw [e1]; exact z)) hR2
      have hfe : zgF M a (zZ M a w) set ↔ c2.1 ≤ c2.2.1 := by
        unfold zgF
        rw [e1]
      have hcu0 : zcu 0 = 0 := by decide +kernel
      have hpos : zgF M a (zZ M a w) set → 1 ≤ zcu c2.2.2 := fun z => by
        obtain ⟨t, h1, h2, h3⟩ := bet_set W (s := set) (by omega) z
        obtain ⟨k2, hk2, hk3⟩ := set_lo (s := set) (m := (zZ M a w).length) (by omega) hl
        have hz : (zZ M a w)[k2]? = some (zZ M a w)[k2] := List.getElem?_eq_getElem hk2
        have h4 := zZ_or W _ (List.mem_of_getElem? hz)
        have h5 := (hg.2.2.2.2 _ h4.1 h4.2).mpr ⟨_, ⟨k2, hk2, hz, hk3⟩, rfl⟩
        refine cu_pos hc6 (fun z0 => ?_)
        replace h5 : zand (zshr (zgS M a (zZ M a w) set).2.2 ((zZ M a w)[k2].2 0)) 1 = 1 := h5
        rw [e1, z0] at h5
        exact absurd h5 (mb_0 h4)
      have new : zgF M a (zZ M a w) set → zbet c2.2.2 best → zo (f_L_agrees_213 (f_L_agrees_73 n) x a w r ((zZ M a w).length : Int) set c2.1 c2.2.1 c2.2.2 (S1, μ2)) (Dn B x M L K inp out c p) := fun z1 z2 => by
        refine j_L_agrees_213 ?_
        have g := agr_new (by omega) hA z1 (by rw [e1]; exact z2)
        rw [e1] at g
        exact nx g hR2
      refine zo_ite (fun c1 => old (fun z => absurd (hfe.mp z) (by omega))) (fun c1 => ?_)
      have hF : zgF M a (zZ M a w) set := hfe.mpr (by omega)
      have h1 := hpos hF
      have hbz : zcu c2.2.2 ≤ zcu best → ¬ best = 0 := fun z z0 => by
        rw [z0, hcu0] at z
        omega
      refine zo_ite (fun c2' => old (fun _ => ⟨hbz (by omega), Or.inl (by omega)⟩)) (fun c2' => ?_)
      refine zo_ite (fun c3 => ?_) (fun c3 => new hF (Or.inl (by omega)))
      refine zo_ite (fun c4 => old (fun _ => ⟨hbz (by omega), Or.inr ⟨by omega, by omega⟩⟩)) (fun c4 => new hF (Or.inr ⟨by omega, by omega⟩))
  · refine zo_neg hc ?_
    have hse : set = zpw (zZ M a w).length := by omega
    rw [hse] at hA
    exact ag_fin (h0.ext hR.1).sd ha hw (agr_end W hA)
theorem l_agrees (h0 : Wd B x S μ0 M L K inp out c p) (ha : 0 ≤ a ∧ a < (M.an.length : Int)) (hw : 0 ≤ w ∧ w < (M.wn.length : Int)) : zo (f_L_agrees x a w (S, μ0)) (Dn B x M L K inp out c p) := by
  have W := h0.w.M
  have hx := h0.nn
  refine j_L_agrees ?_
  refine y_na (x := x) (by decide) (fun S1 μ1 e1 nx1 sh1 _ => ?_)
  have hrx : x + 12 ≤ S.2.2 := by omega
  refine zo_lk (F := fun m (b : Int × Int × zM) => f_L_agrees_11 m x a w S.2.2 b.1 b.2.1 (S1, b.2.2)) (b0 := (0, 0, μ1)) (M.li a).length (fun k b => b.2.1 = (k : Int) ∧ b.1 = (((zent w (-1) ((M.li a).take k) 0).filter (zno M a)).length : Int) ∧ Rw x S S1 μ0 S.2.2 ((zent w (-1) ((M.li a).take k) 0).filter (zno M a)) b.2.2) ?_ ⟨rfl, rfl, e1, fun j e hj => by cases hj⟩ (by show (M.li a).length < 1000000; have := W.len a; omega)
  rintro n k ⟨many, i, μ2⟩ hk ⟨hi, hm, hR⟩ ih
  dsimp only at hi hm hR ih ⊢
  subst hi
  refine j_L_agrees_11 ?_
  have hd := (h0.ext hR.1).sd
  have hl36 := W.len a
  refine y_reports hd ha (fun μ3 h3 => ?_)
  refine zo_ite (fun hk2 => ?_) (fun hk2 => ?_)
  · have hk3 : k < (M.li a).length := by omega
    have hq : (M.li a)[k]? = some (M.li a)[k] := List.getElem?_eq_getElem hk3
    generalize (M.li a)[k] = q at hq
    have hrk := li_ok W hq
    have hv := hrk.v
    have skip : ∀ {μ4 : zM}, Sd B x S1 μ2 μ4 M L K inp out c p → (zent w (-1) ((M.li a).take (k + 1)) 0).filter (zno M a) = (zent w (-1) ((M.li a).take k) 0).filter (zno M a) → zo (f_L_agrees_55 (f_L_agrees_11 n) x a w S.2.2 many (k : Int) (S1, μ4)) (Dn B x M L K inp out c p) := by
      intro μ4 h4 he
      refine j_L_agrees_55 ?_
      rw [w32_s (by omega)]
      exact ih hk3 (many, ((k + 1 : Nat) : Int), μ4) ⟨rfl, by rw [he]; exact hm, by rw [he]; exact hR.fv hrx h4.2⟩
    refine y_report3 h3 hq ha (fun μ4 h4 => ?_)
    refine zo_ite (fun hw2 => ?_) (fun hw2 => ?_)
    · refine y_isOut h4 hq ha (fun μ5 h5 => ?_)
      have hz := zent_y (x := -1) hq (⟨hw2, by omega⟩ : q 3 = w ∧ ¬ q 1 = -1)
      refine zo_zb (fun ho => ?_) (fun ho => ?_)
      · have hf : (zent w (-1) ((M.li a).take (k + 1)) 0).filter (zno M a) = (zent w (-1) ((M.li a).take k) 0).filter (zno M a) ++ [(k, q)] := by
          rw [hz, List.filter_append]
          exact congrArg (_ ++ ·) (fil_cons_t (zno_t (e := (k, q)) ho))
        have h6 := (zent_pre (a := a) (w := w) (x := -1) W (k + 1)).2
        have h7 := List.length_filter_le (zno M a) (zent w (-1) ((M.li a).take (k + 1)) 0)
        rw [hf, List.length_append] at h7
        have h8 : [(k, q)].length = 1 := rfl
        refine zo_si sh1 (by omega) ?_
        refine j_L_agrees_55 ?_
        rw [w32_s (by omega), w32_e (z := many + 1) (by omega)]
        have R5 := (hR.fv hrx h5.2).snoc (e := (k, q)) (Int.le_refl _)
        rw [← hf, ← hm] at R5
        exact ih hk3 (many + 1, ((k + 1 : Nat) : Int), _) ⟨rfl, by rw [hf, List.length_append]; show many + 1 = _; omega, R5⟩
      · refine skip h5 ?_
        rw [hz, List.filter_append, fil_cons_f (zno_f (e := (k, q)) ho)]
        exact List.append_nil _
    · exact skip h4 (by rw [zent_n hq (fun z => hw2 z.1)])
  · have hk3 : k = (M.li a).length := by omega
    have he : (zent w (-1) ((M.li a).take k) 0).filter (zno M a) = zZ M a w := by
      rw [hk3, List.take_length]
      rfl
    rw [he] at hR hm
    rw [hm]
    exact ag_sets h0 ha hw rfl sh1 (hR.fv hrx h3.2)
end R3
