/-! C 66: links, rules, keeping, restoring, undoing, the input -/
/-- a counted loop -/
theorem zo_for {β : Type} {F : Nat → Nat → β → zM → zFn} {Q : zR × zS → Prop} {N : Nat} {st : Nat → β → β} {c0 : β} {μ0 : zM} (I : Nat → β → Prop) (R : zM → Prop)
    (step : ∀ n k c μ2, k ≤ N → I k c → R μ2 → (k < N → ∀ μ3, R μ3 → I (k + 1) (st k c) → zo (F n (k + 1) (st k c) μ3) Q) → (k = N → zlp st 0 N c0 = c) → zo (F (n + 1) k c μ2) Q) (hI : I 0 c0) (hR : R μ0) {m : Nat} (hm : N < m) : zo (F m 0 c0 μ0) Q := by
  have key : ∀ (j k : Nat) (c : β) (μ2 : zM) (m : Nat), k + j = N → j < m → I k c → R μ2 → zlp st k j c = zlp st 0 N c0 → zo (F m k c μ2) Q := by
    intro j
    induction j with
    | zero =>
      intro k c μ2 m hk hm hI hR hz
      cases m with
      | zero => exact absurd hm (by omega)
      | succ m => exact step m k c μ2 (by omega) hI hR (fun h => absurd h (by omega)) (fun _ => hz.symm)
    | succ j ih =>
      intro k c μ2 m hk hm hI hR hz
      cases m with
      | zero => exact absurd hm (by omega)
      | succ m => exact step m k c μ2 (by omega) hI hR (fun _ μ3 h3 h4 => ih (k + 1) (st k c) μ3 m (by omega) (by omega) h4 h3 hz) (fun h => absurd h (by omega))
  exact key N 0 c0 μ0 m (by omega) hm hI hR rfl
/-- a counted loop that leaves the memory -/
theorem zo_fon {β : Type} {F : Nat → Nat → β → zFn} {Q : zR × zS → Prop} {N : Nat} {st : Nat → β → β} {c0 : β} (I : Nat → β → Prop)
    (step : ∀ n k c, k ≤ N → I k c → (k < N → I (k + 1) (st k c) → zo (F n (k + 1) (st k c)) Q) → (k = N → zlp st 0 N c0 = c) → zo (F (n + 1) k c) Q) (hI : I 0 c0) {m : Nat} (hm : N < m) : zo (F m 0 c0) Q :=
  zo_for (F := fun n k c (_ : zM) => F n k c) (μ0 := fun _ _ => 0) I (fun _ => True) (fun n k c _ h1 h2 _ h3 h4 => step n k c h1 h2 (fun h5 h6 => h3 h5 (fun _ _ => 0) True.intro h6) h4) hI True.intro hm
section C66
variable {S S' : zG} {μ μ' μ1 : zM} {x m B A Z : Int} {M M' X : zD} {L L' : List zD} {K : zKs} {inp out inp' out' : List Int} {c p : Int} {r : Nat → Int} {P : zG → zM → Prop} {Q : zR × zS → Prop}
theorem WF.lnk (h : WF B M) {a o v : Int} (ha : 0 ≤ a ∧ a < (M.an.length : Int)) (ho : 0 ≤ o ∧ o < (M.an.length : Int)) (hao : ¬ a = o) (hv : -1 ≤ v ∧ v ≤ 10) : WF B (M.wT (zup2 (zup2 M.T a o v) o a v)) := by
  have e1 : ∀ i j, (i = o ∧ j = a) ∨ (i = a ∧ j = o) → zup2 (zup2 M.T a o v) o a v i j = v := by
    intro i j hij
    show (if i = o ∧ j = a then v else if i = a ∧ j = o then v else M.T i j) = v
    by_cases c1 : i = o ∧ j = a
    · exact if_pos c1
    · rw [if_neg c1]
      exact if_pos (hij.resolve_left c1)
  have e2 : ∀ i j, ¬ ((i = o ∧ j = a) ∨ (i = a ∧ j = o)) → zup2 (zup2 M.T a o v) o a v i j = M.T i j := by
    intro i j hij
    show (if i = o ∧ j = a then v else if i = a ∧ j = o then v else M.T i j) = M.T i j
    rw [if_neg (fun z => hij (Or.inl z)), if_neg (fun z => hij (Or.inr z))]
  have cs : ∀ i j, ((i = o ∧ j = a) ∨ (i = a ∧ j = o)) ∨ ¬ ((i = o ∧ j = a) ∨ (i = a ∧ j = o)) := fun i j => Classical.em _
  refine WF.mk ⟨h.B0, h.tm, h.al, h.wl, h.r0, h.r1, h.r2, h.r3, h.r4, ?_, ?_, ?_, ?_, h.li, h.lz, h.nd, h.qu, h.ql, h.an, h.wn, h.ai⟩
  · intro i j
    show -1 ≤ zup2 (zup2 M.T a o v) o a v i j ∧ zup2 (zup2 M.T a o v) o a v i j ≤ 10
    rcases cs i j with q | q
    · rw [e1 i j q]; omega
    · rw [e2 i j q]; exact h.Tr i j
  · intro i
    show zup2 (zup2 M.T a o v) o a v i i = -1
    rw [e2 i i (by omega)]
    exact h.Ti i
  · intro i j hij
    have hij' : zup2 (zup2 M.T a o v) o a v i j = -1 := hij
    show zup2 (zup2 M.T a o v) o a v j i = -1
    rcases cs i j with q | q
    · rw [e1 j i (by omega)]
      rw [e1 i j q] at hij'
      exact hij'
    · rw [e2 j i (by omega)]
      rw [e2 i j q] at hij'
      exact h.Ts i j hij'
  · intro i j hij
    have hij' : ¬ zup2 (zup2 M.T a o v) o a v i j = -1 := hij
    show 0 ≤ i ∧ i < (M.an.length : Int) ∧ 0 ≤ j ∧ j < (M.an.length : Int)
    rcases cs i j with q | q
    · omega
    · rw [e2 i j q] at hij'
      exact h.Ta i j hij'
theorem k_S (C : CB S x) (h5 : S.1 (x + 65) = some (7, 2)) {i : Int} (hi : 0 ≤ i ∧ i ≤ 1) : f_X7_checkSlot x i (S, μ) = some (.inl 0, (S, μ)) := by
  apply zo_un
  refine j_X7_checkSlot ?_
  refine zo_neg (by omega) ?_
  refine zo_gr C.o C.r7 (by omega) (by omega) ?_
  refine zo_al (t := 6) h5 ?_
  exact zo_pos (by omega) (zo_rt rfl)
theorem k_S_no (C : CB S x) (h5 : S.1 (x + 65) = some (7, 2)) {i : Int} (hi : ¬ (0 ≤ i ∧ i ≤ 1)) : f_X7_checkSlot x i (S, μ) = some (.inr 2, (S, μ)) := by
  apply zo_un
  refine j_X7_checkSlot ?_
  by_cases h0 : i < 0
  · exact zo_pos h0 (zo_rt rfl)
  · refine zo_neg h0 ?_
    refine zo_gr C.o C.r7 (by omega) (by omega) ?_
    refine zo_al (t := 6) h5 ?_
    exact zo_neg (by omega) (zo_rt rfl)
noncomputable def zkp (K : zKs) (i : Nat) (M : zD) : zKs := fun j => if j = i then some M else K j
theorem c_keep31 (h : HR7 S μ x Z r L K) (hD : D7 S μ (x + 12) M) (C : CB S x) {i : Nat} (hi : i < 2) (hn : ¬ r (6 + i) = -1) : ∃ μ', f_X7_keep_31 x (r (6 + i)) (S, μ) = some (.inl M.tm, (S, μ')) ∧ HR7 S μ' x Z r L (zkp K i M) ∧ FH x Z S S μ μ' := by
  have hP := h.P
  have hxz := h.xz
  rcases hP.ok (6 + i) (by omega) with h1 | ⟨h1, h2, h3, h4⟩
  · exact absurd h1 hn
  · obtain ⟨μ1, e1, g1, f1⟩ := d_become h3 (by omega) h4 hD (by omega)
    have hD1 : D7 S μ1 (x + 12) M := hD.keep (fun y h5 h6 => f1 y (by omega))
    have hcn := hD.sh.o
    apply zo_ux
    refine j_X7_keep_31 ?_
    refine zo_gr C.o C.r3 (by omega) (by omega) ?_
    refine zo_ob h3.o (by omega) ?_
    refine zo_bn e1 ?_
    refine zo_gr C.o C.r3 (by omega) (by omega) ?_
    refine zo_gf hcn hD1.tm (by omega) (by omega) ?_
    refine zo_rt ⟨μ1, rfl, h.put (k := 6 + i) (by omega) hn f1 g1.em (fun j Y hj => Or.inl ⟨by have := (List.getElem?_eq_some_iff.mp hj).1; have := h.n; omega, hj⟩) rfl ?_ ?_, FH.mem (fun y hy h7 => f1 y (by omega))⟩
    · intro j hj hk
      unfold zkp at hk
      by_cases e : j = i
      · rw [if_pos e] at hk; exact absurd hk (by simp)
      · rw [if_neg e] at hk; exact h.K0 j hj hk
    · intro j Y hj hk
      unfold zkp at hk
      by_cases e : j = i
      · rw [if_pos e] at hk
        have e9 : M = Y := Option.some.inj hk
        rw [← e9, e]
        exact Or.inr ⟨rfl, g1⟩
      · rw [if_neg e] at hk
        exact Or.inl ⟨by omega, hk⟩
theorem c_keep (h : HR7 S μ x Z r L K) (hD : D7 S μ (x + 12) M) (C : CB S x) {i : Nat} (hi : i < 2) : ∃ S' μ' r', f_X7_keep x (i : Int) (S, μ) = some (.inl M.tm, (S', μ')) ∧ HR7 S' μ' x Z r' L (zkp K i M) ∧ FH x Z S S' μ μ' := by
  have hP := h.P
  have hxz := h.xz
  have main : zo (f_X7_keep x (i : Int) (S, μ)) (fun y => ∃ S' μ' r', y = (.inl M.tm, (S', μ')) ∧ HR7 S' μ' x Z r' L (zkp K i M) ∧ FH x Z S S' μ μ') := by
    refine j_X7_keep ?_
    refine zo_ob C.o (by omega) ?_
    refine zo_bn (k_S C h.s2 (by omega)) ?_
    refine zo_gr C.o C.r7 (by omega) (by omega) ?_
    refine zo_lr h.s2 (by omega) (h.r2 i hi) ?_
    by_cases hn : r (6 + i) = -1
    · refine zo_pos (by omega) ?_
      refine zo_nw2 (a := S.2.2) (c := S.2.2 + 1) rfl rfl ?_
      intro σ1 k1
      have hnz := hP.nz
      refine zo_pos (by omega) ?_
      obtain ⟨⟨S2, μ2⟩, e2, g2, n2, b2⟩ := c_X1_init (d := S.2.2) (by omega) k1.sh0 k1.nx
      refine zo_bn e2 ?_
      have esh : ∀ y, y < S.2.2 → S2.1 y = S.1 y := fun y hy => (b2.sh y hy).trans (k1.sh y (by omega))
      have em : ∀ y j, y < S.2.2 → μ2 y j = μ y j := fun y j hy => (b2.m y j hy).trans (k1.m y j (by omega))
      have erf : ∀ y j, y < S.2.2 → S2.2.1 y j = S.2.1 y j := fun y j hy => (b2.rf y j hy).trans (k1.rf y j (by omega))
      refine zo_gr (S := S2) ((esh _ (by omega)).trans C.o) ((erf _ _ (by omega)).trans C.r7) (by omega) (by omega) ?_
      refine zo_pos (Or.inr g2.sh.o) ?_
      refine zo_sr2 (σ := (S2, μ2)) ((esh _ (by omega)).trans h.s2) (by omega) ?_
      intro σ3 p3
      have e6 : ((6 + i : Nat) : Int) - 6 = (i : Int) := by omega
      have hnew := h.new (k := 6 + i) (σ' := σ3) (by omega) hn k1 g2 n2 b2 (by rw [if_neg (by omega), if_neg (by omega), e6]; exact p3) (Or.inr ⟨i, hi, rfl⟩)
      obtain ⟨h7, f7, n7⟩ := hnew
      have er : (if 6 + i = 6 + i then S.2.2 else r (6 + i)) = S.2.2 := if_pos rfl
      obtain ⟨S3, μ3⟩ := σ3
      have hD3 : D7 S3 μ3 (x + 12) M := hD.keep2 (fun y h1 h2 => f7.sh y (by omega)) (fun y j h1 h2 => f7.rf y j (by omega) (by omega) (by omega)) (fun y h1 h2 => f7.m y (by omega) (by omega))
      have hC3 : CB S3 x := C.keep (fun y h1 h2 => f7.sh y (by omega)) (fun y j h1 h2 => f7.rf y j (by omega) (by omega) (by omega))
      obtain ⟨μ4, e4, h8, f8⟩ := c_keep31 h7 hD3 hC3 hi (by rw [er]; omega)
      rw [er] at e4
      have hK : zkp (fun j => if 6 + j = 6 + i then some zD0 else K j) i M = zkp K i M := by
        funext j
        unfold zkp
        by_cases e : j = i
        · rw [if_pos e, if_pos e]
        · rw [if_neg e, if_neg e]
          exact if_neg (by omega)
      rw [hK] at h8
      exact ⟨_, e4, S3, μ4, _, rfl, h8, FH.tr f7 f8⟩
    · have hok : 0 ≤ r (6 + i) := by
        rcases hP.ok (6 + i) (by omega) with h1 | h1
        · exact absurd h1 hn
        · have := hP.nz; omega
      refine zo_neg (by omega) ?_
      obtain ⟨μ1, e1, h1, f1⟩ := c_keep31 h hD C hi hn
      exact ⟨_, e1, S, μ1, r, rfl, h1, f1⟩
  obtain ⟨y, e, S', μ', r', hy, h1⟩ := main
  exact ⟨S', μ', r', by rw [e, hy], h1⟩
/-- the model keeps -/
theorem b_keep15 (h : W8 S μ m M L K inp out c p) {i : Nat} (hi : i < 2) : zo (f_X8_keep_15 zFU m (i : Int) 0 (S, μ)) (fun r => ∃ μ', r = (.inl M.tm, (S, μ')) ∧ W8 S μ' m M L (zkp K i M) inp out c p ∧ (∀ y, y ≠ m + 8 → y ≠ m + 9 → μ' y = μ y)) := by
  have H := h.H
  refine zo_l2 (F := fun n (k : Nat) (μ2 : zM) => f_X8_keep_15 n m (i : Int) (k : Int) (S, μ2)) (fun k μ2 => k ≤ 2405 ∧ (∀ j, 0 ≤ j → j < (k : Int) → μ2 (m + 8) (2405 * (i : Int) + j) = μ (m + 1) j) ∧ (∀ j, (j < 2405 * (i : Int) ∨ 2405 * (i : Int) + 2405 ≤ j) → μ2 (m + 8) j = μ (m + 8) j) ∧ ∀ y, y ≠ m + 8 → μ2 y = μ y) (fun k _ => 2405 - k) ?_ zFU 0 μ ⟨by omega, fun j h1 h2 => absurd h2 (by show ¬ j < 0; omega), fun _ _ => rfl, fun _ _ => rfl⟩ (by show 2405 - 0 < 1000000; decide)
  rintro n k μ2 ⟨hk, hv, ho, hf⟩ ih
  refine j_X8_keep_15 ?_
  by_cases e : k < 2405
  · refine zo_pos (by omega) ?_
    refine zo_gr H.o H.r22 (by omega) (by omega) ?_
    refine zo_gr H.o H.r1 (by omega) (by omega) ?_
    refine zo_ld H.a1 (by omega) (v := μ (m + 1) (k : Int)) (by rw [hf _ (by omega)]) ?_
    have ei : w32 ((w32 (2405 * (i : Int))) + (k : Int)) = 2405 * (i : Int) + (k : Int) := by rw [w32_e (z := 2405 * (i : Int)) (by omega), w32_e (by omega)]
    rw [ei]
    refine zo_si H.a8 (by omega) ?_
    rw [w32_s (k := k) (by omega)]
    refine ih (k + 1) _ ⟨by omega, ?_, fun j hj => by rw [zup_j (by omega)]; exact ho j hj, fun y hy => by rw [zup_c hy]; exact hf y hy⟩ (by omega)
    intro j h1 h2
    by_cases ej : j = (k : Int)
    · rw [ej, zup_at]
    · rw [zup_j (by omega)]
      exact hv j h1 (by omega)
  · refine zo_neg (by omega) ?_
    refine j_X8_keep_46 ?_
    refine zo_gr H.o H.r23 (by omega) (by omega) ?_
    refine zo_pos (Or.inr rfl) ?_
    refine zo_si H.a9 (by omega) ?_
    refine zo_gr H.o H.r1 (by omega) (by omega) ?_
    refine zo_ld H.a1 (by omega) (v := M.tm) (by rw [zup_c (by omega), hf _ (by omega)]; exact h.D.tm) ?_
    have g : ∀ y, y ≠ m + 8 → y ≠ m + 9 → zup μ2 (m + 9) (i : Int) 1 y = μ y := fun y h1 h2 => by rw [zup_c h2]; exact hf y h1
    refine zo_rt ⟨_, rfl, W8.mk ⟨H, by rw [g _ (by omega) (by omega)]; exact h.D, HRel.mk ⟨h.R.n, by rw [g _ (by omega) (by omega)]; exact h.R.c, fun j Y hj => by rw [g _ (by omega) (by omega)]; exact h.R.v j Y hj⟩, ?_, ?_, h.li.keep (by rw [g _ (by omega) (by omega)]) (fun k => by rw [g _ (by omega) (by omega)]), h.lo.keep (by rw [g _ (by omega) (by omega)]) (fun k => by rw [g _ (by omega) (by omega)]), by rw [g _ (by omega) (by omega)]; exact h.w, by rw [g _ (by omega) (by omega)]; exact h.ec, by rw [g _ (by omega) (by omega)]; exact h.ep⟩, g⟩
    · intro j hj hkj
      unfold zkp at hkj
      by_cases ej : j = i
      · rw [if_pos ej] at hkj; exact absurd hkj (by simp)
      · rw [if_neg ej] at hkj
        rw [zup_j (by omega), hf _ (by omega)]
        exact h.K0 j hj hkj
    · intro j Y hj hkj
      unfold zkp at hkj
      by_cases ej : j = i
      · rw [if_pos ej] at hkj
        have e9 : M = Y := Option.some.inj hkj
        rw [← e9, ej]
        refine ⟨zup_at, h.D.keep (fun q h1 h2 => ?_)⟩
        show zup μ2 (m + 9) (i : Int) 1 (m + 8) _ = μ (m + 1) q
        rw [zup_b (by omega)]
        exact hv q h1 (by omega)
      · rw [if_neg ej] at hkj
        obtain ⟨h1, h2⟩ := h.K1 j Y hj hkj
        refine ⟨by rw [zup_j (by omega), hf _ (by omega)]; exact h1, h2.keep (fun q h3 h4 => ?_)⟩
        show zup μ2 (m + 9) (i : Int) 1 (m + 8) _ = μ (m + 8) _
        rw [zup_b (by omega)]
        exact ho _ (by omega)
/-- copying back -/
theorem b_undo33 (H : MSh S m A) {l : Int} (hl : 0 ≤ l ∧ l < 6) (hc : μ m 25 = l) : zo (f_X8_undo_33 zFU m 0 (S, μ)) (fun r => ∃ μ', r = (.inl l, (S, μ')) ∧ (∀ j, 0 ≤ j → j < 2405 → μ' (m + 1) j = μ (m + 10) (2405 * l + j)) ∧ FA (m + 1) μ μ') := by
  refine zo_l2 (F := fun n (k : Nat) (μ2 : zM) => f_X8_undo_33 n m (k : Int) (S, μ2)) (fun k μ2 => k ≤ 2405 ∧ (∀ j, 0 ≤ j → j < (k : Int) → μ2 (m + 1) j = μ (m + 10) (2405 * l + j)) ∧ FA (m + 1) μ μ2) (fun k _ => 2405 - k) ?_ zFU 0 μ ⟨by omega, fun j h1 h2 => absurd h2 (by show ¬ j < 0; omega), FA.rf⟩ (by show 2405 - 0 < 1000000; decide)
  rintro n k μ2 ⟨hk, hv, hf⟩ ih
  have hc2 : μ2 m 25 = l := by rw [hf _ (by omega)]; exact hc
  refine j_X8_undo_33 ?_
  by_cases e : k < 2405
  · refine zo_pos (by omega) ?_
    refine zo_gr H.o H.r1 (by omega) (by omega) ?_
    refine zo_gr H.o H.r24 (by omega) (by omega) ?_
    refine zo_gf H.o hc2 (by omega) (by omega) ?_
    have ei : w32 ((w32 (2405 * l)) + (k : Int)) = 2405 * l + (k : Int) := by rw [w32_e (z := 2405 * l) (by omega), w32_e (by omega)]
    rw [ei]
    refine zo_ld H.a10 (by omega) (v := μ (m + 10) (2405 * l + (k : Int))) (by rw [hf _ (by omega)]) ?_
    refine zo_si H.a1 (by omega) ?_
    rw [w32_s (k := k) (by omega)]
    refine ih (k + 1) _ ⟨by omega, ?_, FA.tr hf FA.up⟩ (by omega)
    intro j h1 h2
    by_cases ej : j = (k : Int)
    · rw [ej, zup_at]
    · rw [zup_j ej]
      exact hv j h1 (by omega)
  · refine zo_neg (by omega) ?_
    refine zo_gf H.o hc2 (by omega) (by omega) ?_
    exact zo_rt ⟨μ2, rfl, fun j h1 h2 => hv j h1 (by omega), hf⟩
theorem b_rest40 (H : MSh S m A) {i : Nat} (hi : i < 2) (h : D8 (fun j => μ (m + 8) (2405 * (i : Int) + j)) X) : zo (f_X8_restore_40 zFU m (i : Int) 0 (S, μ)) (fun r => ∃ μ', r = (.inl X.tm, (S, μ')) ∧ D8 (μ' (m + 1)) X ∧ FA (m + 1) μ μ') := by
  refine zo_l2 (F := fun n (k : Nat) (μ2 : zM) => f_X8_restore_40 n m (i : Int) (k : Int) (S, μ2)) (fun k μ2 => k ≤ 2405 ∧ (∀ j, 0 ≤ j → j < (k : Int) → μ2 (m + 1) j = μ (m + 8) (2405 * (i : Int) + j)) ∧ FA (m + 1) μ μ2) (fun k _ => 2405 - k) ?_ zFU 0 μ ⟨by omega, fun j h1 h2 => absurd h2 (by show ¬ j < 0; omega), FA.rf⟩ (by show 2405 - 0 < 1000000; decide)
  rintro n k μ2 ⟨hk, hv, hf⟩ ih
  refine j_X8_restore_40 ?_
  by_cases e : k < 2405
  · refine zo_pos (by omega) ?_
    refine zo_gr H.o H.r1 (by omega) (by omega) ?_
    refine zo_gr H.o H.r22 (by omega) (by omega) ?_
    have ei : w32 ((w32 (2405 * (i : Int))) + (k : Int)) = 2405 * (i : Int) + (k : Int) := by rw [w32_e (z := 2405 * (i : Int)) (by omega), w32_e (by omega)]
    rw [ei]
    refine zo_ld H.a8 (by omega) (v := μ (m + 8) (2405 * (i : Int) + (k : Int))) (by rw [hf _ (by omega)]) ?_
    refine zo_si H.a1 (by omega) ?_
    rw [w32_s (k := k) (by omega)]
    refine ih (k + 1) _ ⟨by omega, ?_, FA.tr hf FA.up⟩ (by omega)
    intro j h1 h2
    by_cases ej : j = (k : Int)
    · rw [ej, zup_at]
    · rw [zup_j ej]
      exact hv j h1 (by omega)
  · refine zo_neg (by omega) ?_
    have hD : D8 (μ2 (m + 1)) X := h.keep (fun j h1 h2 => hv j h1 (by omega))
    refine zo_gr H.o H.r1 (by omega) (by omega) ?_
    refine zo_ld H.a1 (by omega) hD.tm ?_
    exact zo_rt ⟨μ2, rfl, hD, hf⟩
theorem w7_push2 (h : W7 S μ x M L K inp out c p) {i : Nat} (hi : i < 2) (hk : K i = some X) : ∃ S1 μ1 e, S.2.1 (x + 65) (i : Int) = e ∧ 0 ≤ e ∧ x + 80 ≤ e ∧ f_X2_push (x + 63) (x + 12) (S, μ) = some (.inl 0, (S1, μ1)) ∧ W7 S1 μ1 x M (zpush L M) K inp out c p ∧ FX x S S1 μ μ1 ∧ D7 S1 μ1 e X := by
  obtain ⟨r, hr⟩ := h.H
  obtain ⟨S1, μ1, r1, e1, h1, f1, s1⟩ := c_push hr h.D
  have hx := h.C.x0
  have hs := s1 (6 + i) (by omega)
  obtain ⟨g1, g2⟩ := h1.K1 i X hi hk
  rw [hs] at g1 g2
  have hok : x + 80 ≤ r (6 + i) := by
    rcases hr.P.ok (6 + i) (by omega) with h2 | h2
    · exact absurd h2 g1
    · exact h2.1
  exact ⟨S1, μ1, r (6 + i), hr.r2 i hi, by omega, hok, e1, h.hist f1 h1, f1.fx, g2⟩
end C66
theorem o_link {B x : Int} {S : zG} {μ : zM} {M : zD} {L : List zD} {K : zKs} {inp out : List Int} {c p : Int} {P : zG → zM → Prop} {a o on : Int} (h : Wd B x S μ M L K inp out c p) (hB : B + 99 ≤ 1000000) (hP : zPP B x P) : zOp x P (f_X7_link x a o on) (f_X8_link (x + 66) a o on) [(2, 1), (1, 2)] S μ := by
  have h60 := h.a.D.al
  have W := h.w.M
  have hP1 : ∀ S1 μ3, Wd B x S1 μ3 M L K inp out c p → P S1 μ3 := hP.q hB
  by_cases h1 : (0 ≤ a ∧ a < (M.an.length : Int)) ∧ (0 ≤ o ∧ o < (M.an.length : Int))
  · by_cases h2 : a = o
    · refine op_t 1 2 h ?_ (by decide) (by decide) ?_ hP1
      · apply zo_un
        refine j_X7_link ?_
        refine zo_ob h.a.C.o (by omega) ?_
        refine zo_bn (k_A h.a.C h.a.D h1.1) ?_
        refine zo_ob h.a.C.o (by omega) ?_
        refine zo_bn (k_A h.a.C h.a.D h1.2) ?_
        exact zo_pos h2 (zo_rt rfl)
      · intro S1 μ2 h8
        refine zo_xt ?_
        refine j_X8_link ?_
        refine zo_ob h8.H.o (by omega) ?_
        refine zo_bn (b_areAgents h8.H h8.D) ?_
        refine zo_pos h2 ?_
        refine j_X8_link_17 ?_
        refine m_f2b h8.H (zbl_nz h1) rfl ?_
        exact ⟨_, _, rfl, FM.u0, zup_at⟩
    · by_cases h3 : zbl (¬ M.T a o = -1) = on
      · refine op_p (v := on) (M' := M) h hB (W.up hB) (by rw [← h3]; rcases zbl_01 (¬ M.T a o = -1) with z | z <;> rw [z] <;> unfold zI <;> decide) ?_ ?_ hP
        · intro S1 μ1 e1 h1p
          refine zo_x7 ?_
          refine j_X7_link ?_
          refine zo_ob h.a.C.o (by omega) ?_
          refine zo_bn (k_A h.a.C h.a.D h1.1) ?_
          refine zo_ob h.a.C.o (by omega) ?_
          refine zo_bn (k_A h.a.C h.a.D h1.2) ?_
          refine zo_neg h2 ?_
          refine zo_gr h.a.C.o h.a.C.r6 (by omega) (by omega) ?_
          refine zo_gr h.a.C.o h.a.C.r3 (by omega) (by omega) ?_
          obtain ⟨rH, hH⟩ := h.a.H
          refine zo_ob hH.o (by omega) ?_
          refine zo_bn e1 ?_
          refine zo_gr h1p.C.o h1p.C.r3 (by omega) (by omega) ?_
          refine zo_ob h1p.D.sh.o (by omega) ?_
          refine zo_bn (d_isLinked h1p.D (by omega) (by omega)) ?_
          refine zo_pos h3 ?_
          rw [h3]
          refine zo_pos (by rw [← h3]; exact zbl_01 _) ?_
          exact zo_rt ⟨μ1, rfl, Or.inr ⟨h1p.D, FR.rf⟩⟩
        · intro S1 μ2 h8
          refine zo_x7 ?_
          refine j_X8_link ?_
          refine zo_ob h8.H.o (by omega) ?_
          refine zo_bn (b_areAgents h8.H h8.D) ?_
          refine zo_neg h2 ?_
          refine j_X8_link_17 ?_
          refine m_p2 h8.H (zbl_nz h1) (by decide) ?_
          have g0 : W8 S1 (zup μ2 (x + 66) 0 0) (x + 66) M L K inp out c p := FM.u0.w8 h8
          obtain ⟨μ4, e4, g8, f4⟩ := g0.rem
          have gt : μ4 (x + 66) 0 = 0 := by rw [f4.f _ (by decide)]; exact zup_at
          have gf : ∀ y, y < x + 66 ∨ x + 78 ≤ y → μ4 y = μ2 y := fun y hy => by rw [f4.x y (by omega) (by omega), zup_c (by omega)]
          refine zo_ob g0.H.o (by omega) ?_
          refine zo_bn e4 ?_
          refine zo_ob g8.H.o (by omega) ?_
          refine zo_bn (b_areLinked g8.H g8.D (by omega) (by omega)) ?_
          refine zo_pos h3.symm ?_
          rw [h3]
          refine zo_pos (by rw [← h3]; exact zbl_01 _) ?_
          exact zo_rt ⟨μ4, rfl, g8, gt, gf⟩
      · have key : ∀ v : Int, (on = 0 → v = -1) → (¬ on = 0 → v = 5) → zOp x P (f_X7_link x a o on) (f_X8_link (x + 66) a o on) [(2, 1), (1, 2)] S μ := by
          intro v hv0 hv5
          refine op_p (v := zbl (¬ M.T a o = -1)) (M' := M.wT (zup2 (zup2 M.T a o v) o a v)) h hB ((W.lnk h1.1 h1.2 h2 (by by_cases z : on = 0; have := hv0 z; omega; have := hv5 z; omega)).up hB) (by rcases zbl_01 (¬ M.T a o = -1) with z | z <;> rw [z] <;> unfold zI <;> decide) ?_ ?_ hP
          · intro S1 μ1 e1 h1p
            have go : zo (f_X7_link_63 x a o (zbl (¬ M.T a o = -1)) v (S1, μ1)) (fun r => ∃ μ', r = (.inl (zbl (¬ M.T a o = -1)), (S1, μ')) ∧ (D7 S1 μ' (x + 12) (M.wT (zup2 (zup2 M.T a o v) o a v)) ∧ FV (x + 5) μ1 μ' ∨ D7 S1 μ' (x + 12) (M.wT (zup2 (zup2 M.T a o v) o a v)) ∧ FR (x + 12) μ1 μ')) := by
              refine j_X7_link_63 ?_
              refine zo_gr h1p.C.o h1p.C.r3 (by omega) (by omega) ?_
              refine zo_ob h1p.D.sh.o (by omega) ?_
              obtain ⟨μ5, e5, h5, f5⟩ := d_putTrust h1p.D (i := a) (j := o) (v := v) (by omega) (by omega)
              refine zo_bn e5 ?_
              refine zo_gr h1p.C.o h1p.C.r3 (by omega) (by omega) ?_
              refine zo_ob h1p.D.sh.o (by omega) ?_
              obtain ⟨μ6, e6, h6, f6⟩ := d_putTrust h5 (i := o) (j := a) (v := v) (by omega) (by omega)
              refine zo_bn e6 ?_
              refine zo_pos (zbl_01 _) ?_
              exact zo_rt ⟨μ6, rfl, Or.inr ⟨h6, FR.tr f5 f6⟩⟩
            refine zo_x7 ?_
            refine j_X7_link ?_
            refine zo_ob h.a.C.o (by omega) ?_
            refine zo_bn (k_A h.a.C h.a.D h1.1) ?_
            refine zo_ob h.a.C.o (by omega) ?_
            refine zo_bn (k_A h.a.C h.a.D h1.2) ?_
            refine zo_neg h2 ?_
            refine zo_gr h.a.C.o h.a.C.r6 (by omega) (by omega) ?_
            refine zo_gr h.a.C.o h.a.C.r3 (by omega) (by omega) ?_
            obtain ⟨rH, hH⟩ := h.a.H
            refine zo_ob hH.o (by omega) ?_
            refine zo_bn e1 ?_
            refine zo_gr h1p.C.o h1p.C.r3 (by omega) (by omega) ?_
            refine zo_ob h1p.D.sh.o (by omega) ?_
            refine zo_bn (d_isLinked h1p.D (by omega) (by omega)) ?_
            refine zo_neg h3 ?_
            by_cases z : on = 0
            · have ev := hv0 z
              subst ev
              exact zo_pos z go
            · have ev := hv5 z
              subst ev
              exact zo_neg z go
          · intro S1 μ2 h8
            refine zo_x7 ?_
            refine j_X8_link ?_
            refine zo_ob h8.H.o (by omega) ?_
            refine zo_bn (b_areAgents h8.H h8.D) ?_
            refine zo_neg h2 ?_
            refine j_X8_link_17 ?_
            refine m_p2 h8.H (zbl_nz h1) (by decide) ?_
            have g0 : W8 S1 (zup μ2 (x + 66) 0 0) (x + 66) M L K inp out c p := FM.u0.w8 h8
            obtain ⟨μ4, e4, g8, f4⟩ := g0.rem
            have gt : μ4 (x + 66) 0 = 0 := by rw [f4.f _ (by decide)]; exact zup_at
            have gf : ∀ y, y < x + 66 ∨ x + 78 ≤ y → μ4 y = μ2 y := fun y hy => by rw [f4.x y (by omega) (by omega), zup_c (by omega)]
            refine zo_ob g0.H.o (by omega) ?_
            refine zo_bn e4 ?_
            refine zo_ob g8.H.o (by omega) ?_
            refine zo_bn (b_areLinked g8.H g8.D (by omega) (by omega)) ?_
            refine zo_neg (fun z => h3 z.symm) ?_
            have go : zo (f_X8_link_55 (x + 66) a o on (zbl (¬ M.T a o = -1)) (x + 66) a o v (S1, μ4)) (fun r => ∃ μ', r = (.inl (zbl (¬ M.T a o = -1)), (S1, μ')) ∧ (W8 S1 μ' (x + 66) (M.wT (zup2 (zup2 M.T a o v) o a v)) (zpush L M) K inp out c p ∧ μ' (x + 66) 0 = 0 ∧ ∀ y, y < x + 66 ∨ x + 78 ≤ y → μ' y = μ2 y)) := by
              refine j_X8_link_55 ?_
              obtain ⟨μ5, e5, h5, f5⟩ := b_putTrust g8.H g8.D (a := a) (o := o) (v := v) (by omega) (by omega)
              refine zo_ob g8.H.o (by omega) ?_
              refine zo_bn e5 ?_
              obtain ⟨μ6, e6, h6, f6⟩ := b_putTrust g8.H h5 (a := o) (o := a) (v := v) (by omega) (by omega)
              have f := FA.tr f5 f6
              have go2 : zo (f_X8_link_70 (zbl (¬ M.T a o = -1)) (x + 66) o a v (S1, μ5)) (fun r => ∃ μ', r = (.inl (zbl (¬ M.T a o = -1)), (S1, μ')) ∧ (W8 S1 μ' (x + 66) (M.wT (zup2 (zup2 M.T a o v) o a v)) (zpush L M) K inp out c p ∧ μ' (x + 66) 0 = 0 ∧ ∀ y, y < x + 66 ∨ x + 78 ≤ y → μ' y = μ2 y)) := by
                refine j_X8_link_70 ?_
                refine zo_ob g8.H.o (by omega) ?_
                refine zo_bn e6 ?_
                refine zo_pos (zbl_01 _) ?_
                exact zo_rt ⟨μ6, rfl, g8.desk h6 f, by rw [f _ (by omega)]; exact gt, fun y hy => by rw [f y (by omega)]; exact gf y hy⟩
              by_cases z : on = 0
              · have ev := hv0 z
                subst ev
                exact zo_pos z go2
              · have ev := hv5 z
                subst ev
                exact zo_neg z go2
            by_cases z : on = 0
            · have ev := hv0 z
              subst ev
              exact zo_pos z go
            · have ev := hv5 z
              subst ev
              exact zo_neg z go
        by_cases z : on = 0
        · exact key (-1) (fun _ => rfl) (fun y => absurd z y)
        · exact key 5 (fun y => absurd y z) (fun _ => rfl)
  · refine op_t 2 1 h ?_ (by decide) (by decide) ?_ hP1
    · apply zo_un
      refine j_X7_link ?_
      refine zo_ob h.a.C.o (by omega) ?_
      by_cases ha : 0 ≤ a ∧ a < (M.an.length : Int)
      · refine zo_bn (k_A h.a.C h.a.D ha) ?_
        refine zo_ob h.a.C.o (by omega) ?_
        exact zo_be (k_A_no h.a.C h.a.D (fun z => h1 ⟨ha, z⟩)) rfl
      · exact zo_be (k_A_no h.a.C h.a.D ha) rfl
    · intro S1 μ2 h8
      refine zo_xt ?_
      refine j_X8_link ?_
      refine zo_ob h8.H.o (by omega) ?_
      refine zo_bn (b_areAgents h8.H h8.D) ?_
      refine zo_ite (fun z => ?_) (fun z => ?_)
      · refine j_X8_link_17 ?_
        refine m_f2a h8.H (zbl_n h1) ?_
        exact ⟨_, _, rfl, FM.u0, zup_at⟩
      · refine j_X8_link_17 ?_
        refine m_f2a h8.H (zbl_n h1) ?_
        exact ⟨_, _, rfl, FM.u0, zup_at⟩
theorem zo_sa {k : Nat} {i : Int} {F : Int → zFn} {Q : zR × zS → Prop} (hi : 0 ≤ i ∧ i < 5) (q : zo (F (zsv k i)) Q) : zo (zsa k i F) Q := zo_pos hi q
theorem k_rv {w v : Int} {σ : zS} : f_X7_isRuleValue w v σ = some (.inl (zbl ((0 ≤ w ∧ w < 5) ∧ (zsv 0 w ≤ v ∧ v ≤ zsv 1 w))), σ) := by
  apply zo_un
  refine j_X7_isRuleValue ?_
  refine zo_ite (fun z1 => zo_rt (by rw [zbl_n (by omega)])) (fun z1 => ?_)
  refine zo_ite (fun z2 => ?_) (fun z2 => zo_rt (by rw [zbl_n (by omega)]))
  refine zo_sa ⟨by omega, z2⟩ ?_
  refine zo_ite (fun z3 => zo_rt (by rw [zbl_n (by omega)])) (fun z3 => ?_)
  refine zo_sa ⟨by omega, z2⟩ ?_
  refine zo_ite (fun z4 => zo_rt (by rw [zbl_n (by omega)])) (fun z4 => zo_rt (by rw [zbl_p (by omega)]))
theorem b_leastOf {w : Int} {σ : zS} : f_X8_leastOf w σ = some (.inl (zsv 0 w), σ) := by
  apply zo_un
  refine j_X8_leastOf ?_
  by_cases z : w < 3
  · have e : zsv 0 w = 0 := if_pos z
    rw [e]
    exact zo_pos z (zo_rt rfl)
  · have e : zsv 0 w = 1 := if_neg z
    rw [e]
    exact zo_neg z (zo_rt rfl)
theorem b_mostOf {w : Int} {σ : zS} (hw : 0 ≤ w ∧ w < 5) : f_X8_mostOf w σ = some (.inl (zsv 1 w), σ) := by
  have hc : w = 0 ∨ w = 1 ∨ w = 2 ∨ w = 3 ∨ w = 4 := by omega
  rcases hc with z | z | z | z | z <;> subst z <;> rfl
theorem o_setRule {B x : Int} {S : zG} {μ : zM} {M : zD} {L : List zD} {K : zKs} {inp out : List Int} {c p : Int} {P : zG → zM → Prop} {w v : Int} (h : Wd B x S μ M L K inp out c p) (hB : B + 99 ≤ 1000000) (hP : zPP B x P) : zOp x P (f_X7_setRule x w v) (f_X8_setRule (x + 66) w v) [(1, 1)] S μ := by
  have W := h.w.M
  have hP1 : ∀ S1 μ3, Wd B x S1 μ3 M L K inp out c p → P S1 μ3 := hP.q hB
  by_cases h1 : (0 ≤ w ∧ w < 5) ∧ (zsv 0 w ≤ v ∧ v ≤ zsv 1 w)
  · have hr : zI (M.ru w) := by
      have hc : w = 0 ∨ w = 1 ∨ w = 2 ∨ w = 3 ∨ w = 4 := by omega
      have q0 := W.r0
      have q1 := W.r1
      have q2 := W.r2
      have q3 := W.r3
      have q4 := W.r4
      rcases hc with z | z | z | z | z <;> subst z <;> unfold zI <;> omega
    refine op_p (v := M.ru w) (M' := M.wru (zup1 M.ru w v)) h hB ((W.rul h1.1 h1.2).up hB) hr ?_ ?_ hP
    · intro S1 μ1 e1 h1p
      refine zo_x7 ?_
      refine j_X7_setRule ?_
      refine zo_bn k_rv ?_
      refine zo_zp h1 ?_
      refine zo_gr h.a.C.o h.a.C.r6 (by omega) (by omega) ?_
      refine zo_gr h.a.C.o h.a.C.r3 (by omega) (by omega) ?_
      obtain ⟨rH, hH⟩ := h.a.H
      refine zo_ob hH.o (by omega) ?_
      refine zo_bn e1 ?_
      refine zo_gr h1p.C.o h1p.C.r3 (by omega) (by omega) ?_
      refine zo_ob h1p.D.sh.o (by omega) ?_
      refine zo_bn (d_rule h1p.D h1.1) ?_
      refine zo_gr h1p.C.o h1p.C.r3 (by omega) (by omega) ?_
      refine zo_ob h1p.D.sh.o (by omega) ?_
      obtain ⟨μ5, e5, h5, f5⟩ := d_putRule h1p.D (i := w) (v := v) h1.1
      refine zo_bn e5 ?_
      exact zo_rt ⟨μ5, rfl, Or.inr ⟨h5, f5⟩⟩
    · intro S1 μ2 h8
      refine zo_x7 ?_
      refine j_X8_setRule ?_
      refine zo_bn b_in ?_
      refine zo_zp (by omega) ?_
      refine zo_bn b_leastOf ?_
      refine zo_bn (b_mostOf h1.1) ?_
      refine zo_bn b_in ?_
      refine zo_zp h1.2 ?_
      refine j_X8_setRule_36 ?_
      refine m_p1 h8.H (by decide) ?_
      have g0 : W8 S1 (zup μ2 (x + 66) 0 0) (x + 66) M L K inp out c p := FM.u0.w8 h8
      obtain ⟨μ4, e4, g8, f4⟩ := g0.rem
      have gt : μ4 (x + 66) 0 = 0 := by rw [f4.f _ (by decide)]; exact zup_at
      have gf : ∀ y, y < x + 66 ∨ x + 78 ≤ y → μ4 y = μ2 y := fun y hy => by rw [f4.x y (by omega) (by omega), zup_c (by omega)]
      refine zo_ob g0.H.o (by omega) ?_
      refine zo_bn e4 ?_
      refine zo_ob g8.H.o (by omega) ?_
      refine zo_bn (b_rule g8.H g8.D h1.1) ?_
      refine zo_gr g8.H.o g8.H.r1 (by omega) (by omega) ?_
      rw [w32_e (show -2147483648 ≤ 3 + w ∧ 3 + w < 2147483648 by omega)]
      refine zo_si g8.H.a1 (by omega) ?_
      have f5 : FA (x + 66 + 1) μ4 (zup μ4 (x + 66 + 1) (3 + w) v) := FA.up
      have h5 : D8 (zup μ4 (x + 66 + 1) (3 + w) v (x + 66 + 1)) (M.wru (zup1 M.ru w v)) := by
        rw [zup_fn]
        exact g8.D.setRu h1.1
      exact zo_rt ⟨_, rfl, g8.desk h5 f5, by rw [f5 _ (by omega)]; exact gt, fun y hy => by rw [f5 y (by omega)]; exact gf y hy⟩
  · refine op_t 1 1 h ?_ (by decide) (by decide) ?_ hP1
    · apply zo_un
      refine j_X7_setRule ?_
      refine zo_bn k_rv ?_
      exact zo_zn h1 (zo_rt rfl)
    · intro S1 μ2 h8
      refine zo_xt ?_
      refine j_X8_setRule ?_
      refine zo_bn b_in ?_
      refine zo_zb (fun z => ?_) (fun z => ?_)
      · refine j_X8_setRule_35 ?_
        refine j_X8_setRule_36 ?_
        refine m_f1 h8.H rfl ?_
        exact ⟨_, _, rfl, FM.u0, zup_at⟩
      · refine zo_bn b_leastOf ?_
        refine zo_bn (b_mostOf (by omega)) ?_
        refine zo_bn b_in ?_
        refine zo_zn (fun y => h1 ⟨by omega, y⟩) ?_
        refine j_X8_setRule_35 ?_
        refine j_X8_setRule_36 ?_
        refine m_f1 h8.H rfl ?_
        exact ⟨_, _, rfl, FM.u0, zup_at⟩
