/-! C 79: words, numbers, names of a text -/
def zwrd (i : Nat) : List Int := (zsb i).map Int32.toInt
theorem wrd_tab : ∀ i : Fin 11, (1 ≤ (zwrd (i : Nat)).length ∧ (zwrd (i : Nat)).length ≤ 6) ∧ ∀ v, v ∈ zwrd (i : Nat) → 97 ≤ v ∧ v ≤ 122 := by decide +kernel
theorem wrd_len {i : Nat} (hi : i < 11) : 1 ≤ (zwrd i).length ∧ (zwrd i).length ≤ 6 := (wrd_tab ⟨i, hi⟩).1
theorem zo_sl {i : Nat} {F : Int → zFn} {Q : zR × zS → Prop} (hi : i < 11) (q : zo (F ((zwrd i).length : Int)) Q) : zo (zslI (i : Int) F) Q := by
  have e : zlen i = ((zwrd i).length : Int) := by unfold zlen zwrd; rw [List.length_map]
  unfold zslI
  refine zo_pos (by omega) ?_
  unfold zsln
  rw [Int.toNat_natCast]
  refine zo_pos hi ?_
  rw [e]
  exact q
theorem zo_sc {i k : Nat} {c : Int} {F : Int → zFn} {Q : zR × zS → Prop} (hi : i < 11) (hk : (zwrd i)[k]? = some c) (q : zo (F c) Q) : zo (zscI (i : Int) (k : Int) F) Q := by
  have hkl := (List.getElem?_eq_some_iff.mp hk).1
  have el : zlen i = ((zwrd i).length : Int) := by unfold zlen zwrd; rw [List.length_map]
  have eb : zbyt i (k : Int) = c := by
    unfold zwrd at hk
    rw [List.getElem?_map] at hk
    unfold zbyt
    rw [Int.toNat_natCast, List.getD_eq_getElem?_getD]
    cases hz : (zsb i)[k]? with
    | none => rw [hz] at hk; simp at hk
    | some y => rw [hz] at hk; exact Option.some.inj hk
  unfold zscI
  refine zo_pos (by omega) ?_
  unfold zsch
  rw [Int.toNat_natCast]
  refine zo_pos ⟨hi, by omega, by rw [el]; omega⟩ ?_
  rw [eb]
  exact q
def ziw (l : List Int) (t : zTk) (i : Nat) : Prop := t.1 = 1 ∧ zsg l t = zwrd i
def zkw (l : List Int) (t : zTk) : Prop := ∃ i, i < 11 ∧ ziw l t i
def zisN (l : List Int) (t : zTk) : Prop := t.1 = 1 ∧ t.2.2 - t.2.1 ≤ 6 ∧ ¬ zkw l t
abbrev zEr : Type := Int × Nat
noncomputable def pWord (l : List Int) (i : Nat) (t : zTk) : zEr ⊕ zTk := @ite _ (ziw l t i) (Classical.propDecidable _) (.inr (ztk l t.2.2)) (.inl (1, t.2.1))
noncomputable def pNum (l : List Int) (lo hi : Int) (t : zTk) : zEr ⊕ zTk := if t.1 = 2 then (if lo ≤ znv (zsg l t) ∧ znv (zsg l t) ≤ hi then .inr (ztk l t.2.2) else .inl (2, t.2.1)) else .inl (1, t.2.1)
noncomputable def pSemi (l : List Int) (t : zTk) : zEr ⊕ zTk := if t.1 = 3 ∧ l[t.2.1]? = some 59 then .inr (ztk l t.2.2) else .inl (1, t.2.1)
def RC (μ : zM) (x : Int) (b : Int) : zEr ⊕ zTk → Prop
  | .inl e => b = 0 ∧ μ (x + 62) 6 = e.1 ∧ μ (x + 62) 7 = (e.2 : Int)
  | .inr t => b = 1 ∧ TC μ x t ∧ μ (x + 62) 6 = 0 ∧ μ (x + 62) 7 = -1
def EM (μ : zM) (m : Int) (e : zEr) : Prop := μ m 17 = e.1 ∧ μ m 18 = (e.2 : Int) ∧ ¬ e.1 = 0
def GM (μ : zM) (m : Int) (l : List Int) (t : zTk) : Prop := TM μ m l t ∧ μ m 17 = 0 ∧ μ m 18 = -1
def FP4 (x : Int) (μ μ' : zM) : Prop := ∀ y, y ≠ x + 62 → μ' y = μ y
def FP8 (m : Int) (μ μ' : zM) : Prop := (∀ y, y ≠ m → μ' y = μ y) ∧ (∀ k, k ≤ 12 ∨ 19 ≤ k → μ' m k = μ m k)
theorem FP8.mk {m : Int} {μ μ' : zM} (h : (∀ y, y ≠ m → μ' y = μ y) ∧ (∀ k, k ≤ 12 ∨ 19 ≤ k → μ' m k = μ m k)) : FP8 m μ μ' := h
theorem FP8.e {m : Int} {μ μ' : zM} (h : FP8 m μ μ') : ∀ y, y ≠ m → μ' y = μ y := h.1
theorem FP8.f {m : Int} {μ μ' : zM} (h : FP8 m μ μ') : ∀ k, k ≤ 12 ∨ 19 ≤ k → μ' m k = μ m k := h.2
theorem zo_xb {S : zG} {A : zFn} {R : Int → zM → Prop} (h : zo A (fun r => ∃ b μ', r = (.inl b, (S, μ')) ∧ R b μ')) : ∃ b μ', A = some (.inl b, (S, μ')) ∧ R b μ' := by
  obtain ⟨r, e, b, μ', hr, hR⟩ := h
  exact ⟨b, μ', by rw [e, hr], hR⟩
theorem w32_2 {a b : Nat} (h : a + b < 2147483648) : w32 ((a : Int) + (b : Int)) = ((a + b : Nat) : Int) := by
  rw [w32_e (by omega)]
  rfl
section C79
variable {S S' : zG} {μ μ' μ1 μ2 : zM} {x m B A : Int} {l : List Int} {t : zTk} {Q : zR × zS → Prop}
theorem FP4.rf : FP4 x μ μ := fun _ _ => rfl
theorem FP4.tr (h : FP4 x μ μ1) (k : FP4 x μ1 μ2) : FP4 x μ μ2 := fun y h1 => (k y h1).trans (h y h1)
theorem FP4.u {i v : Int} : FP4 x μ (zup μ (x + 62) i v) := fun y h1 => zup_c h1
theorem FT4.p (h : FT4 x μ μ') : FP4 x μ μ' := h.e
theorem FP8.rf : FP8 m μ μ := FP8.mk ⟨fun _ _ => rfl, fun _ _ => rfl⟩
theorem FP8.tr (h : FP8 m μ μ1) (k : FP8 m μ1 μ2) : FP8 m μ μ2 := FP8.mk ⟨fun y h1 => (k.e y h1).trans (h.e y h1), fun i h1 => (k.f i h1).trans (h.f i h1)⟩
theorem FP8.u {i v : Int} (hi : 13 ≤ i ∧ i ≤ 18) : FP8 m μ (zup μ m i v) := FP8.mk ⟨fun y h1 => zup_c h1, fun k h1 => zup_j (by omega)⟩
theorem FT8.p (h : FT8 m μ μ') : FP8 m μ μ' := FP8.mk ⟨h.e, fun k hk => h.f k (by omega) (by omega) (by omega) (by omega)⟩
theorem PC.up4 (h : PC S μ x l) (f : FP4 x μ μ') : PC S μ' x l := PC.mk ⟨h.x0, h.o, h.r0, h.r1, h.B, h.L.keep (by rw [f _ (by omega)]) (fun k => by rw [f _ (by omega)]), h.n⟩
theorem sg_len (h : TOk l t) : (zsg l t).length = t.2.2 - t.2.1 := by
  have h1 := h.el
  unfold zsg
  rw [List.length_take, List.length_drop]
  omega
theorem sg_get (h : TOk l t) {k : Nat} (hk : k < t.2.2 - t.2.1) : (zsg l t)[k]? = l[t.2.1 + k]? := by
  unfold zsg
  rw [List.getElem?_take_of_lt hk, List.getElem?_drop]
theorem sg_let (h : TOk l t) (h1 : t.1 = 1) (hg : ∀ y, y ∈ l → -128 ≤ y ∧ y < 128) {k : Nat} {v : Int} (hk : k < t.2.2 - t.2.1) (hv : l[t.2.1 + k]? = some v) : 97 ≤ v ∧ v ≤ 122 := by
  have h2 := h.ka (Or.inl h1) (t.2.1 + k) (by omega) (by omega)
  rw [h1] at h2
  exact (kd_let hv (hg v (List.mem_of_getElem? hv))).mp h2
theorem isN_ok (h : TOk l t) (hg : ∀ y, y ∈ l → -128 ≤ y ∧ y < 128) (hn : zisN l t) : zisn (zsg l t) := by
  have h1 := hn.1
  have h2 := h.kp (by rw [h1]; decide)
  have hl := sg_len h
  refine ⟨by rw [hl]; have := hn.2.1; omega, fun v hv => ?_⟩
  obtain ⟨r, hr⟩ := List.mem_iff_getElem?.mp hv
  have hrl := (List.getElem?_eq_some_iff.mp hr).1
  rw [hl] at hrl
  rw [sg_get h hrl] at hr
  exact sg_let h h1 hg hrl hr
theorem zu_e {v : Int} (h : 0 ≤ v) : zu v = v := if_neg (by omega)
theorem c_isWord {i : Nat} (h : PC S μ x l) (ht : TOk l t) (hT : TC μ x t) (hi : i < 11) : f_X4_isWord (x + 62) (i : Int) (S, μ) = some (.inl (zbl (ziw l t i)), (S, μ)) := by
  have hn := h.n
  have he := ht.el
  have hse := ht.se
  have hw := wrd_len hi
  have hl := sg_len ht
  apply zo_un
  refine j_X4_isWord ?_
  refine zo_gf h.o hT.1 (by omega) (by omega) ?_
  by_cases z1 : t.1 = 1
  · refine zo_pos z1 ?_
    refine zo_gf h.o hT.2.2 (by omega) (by omega) ?_
    refine zo_gf h.o hT.2.1 (by omega) (by omega) ?_
    refine zo_sl hi ?_
    rw [w32_e (show -2147483648 ≤ (t.2.2 : Int) - (t.2.1 : Int) ∧ (t.2.2 : Int) - (t.2.1 : Int) < 2147483648 by omega)]
    by_cases z2 : (t.2.2 : Int) - (t.2.1 : Int) = ((zwrd i).length : Int)
    · refine zo_pos z2 ?_
      refine zo_l1 (F := fun f (k : Nat) => f_X4_isWord_28 f (x + 62) (i : Int) (k : Int) (S, μ)) (fun k => k ≤ (zwrd i).length ∧ ∀ j, j < k → (zsg l t)[j]? = (zwrd i)[j]?) (fun k => (zwrd i).length - k) ?_ zFU 0 ⟨by omega, fun j hj => absurd hj (by omega)⟩ (by show (zwrd i).length - 0 < 1000000; omega)
      rintro f k ⟨hk, hz⟩ ih
      refine j_X4_isWord_28 ?_
      refine zo_sl hi ?_
      by_cases e : k < (zwrd i).length
      · obtain ⟨c, hc, _⟩ := get_ex e
        obtain ⟨v, hv, _⟩ := get_ex (l := l) (k := t.2.1 + k) (by omega)
        have hlt := sg_let ht z1 h.L.g (by omega) hv
        refine zo_pos (by omega) ?_
        refine zo_gr h.o h.r0 (by omega) (by omega) ?_
        refine zo_gf h.o hT.2.1 (by omega) (by omega) ?_
        refine zo_ob h.B.o (by omega) ?_
        rw [w32_2 (a := t.2.1) (b := k) (by omega)]
        refine zo_bn (h.at0 hv) ?_
        refine zo_sc hi hc ?_
        rw [zu_e (show 0 ≤ v by omega)]
        by_cases y : v = c
        · refine zo_pos y ?_
          rw [w32_s (k := k) (by omega)]
          refine ih (k + 1) ⟨by omega, fun j hj => ?_⟩ (by omega)
          by_cases ej : j = k
          · rw [ej, sg_get ht (by omega), hv, hc, y]
          · exact hz j (by omega)
        · refine zo_neg y (zo_rt ?_)
          rw [zbl_n (fun z => y ?_)]
          have h3 := congrArg (fun r => r[k]?) z.2
          rw [sg_get ht (by omega), hv, hc] at h3
          exact Option.some.inj h3
      · refine zo_neg (by omega) (zo_rt ?_)
        rw [zbl_p]
        refine ⟨z1, List.ext_getElem? (fun j => ?_)⟩
        by_cases ej : j < k
        · exact hz j ej
        · rw [List.getElem?_eq_none (by omega), List.getElem?_eq_none (by omega)]
    · refine zo_neg z2 (zo_rt ?_)
      rw [zbl_n (fun z => z2 ?_)]
      have h3 := congrArg List.length z.2
      rw [hl] at h3
      omega
  · exact zo_neg z1 (zo_rt (by rw [zbl_n (fun z => z1 z.1)]))
theorem c_isName (h : PC S μ x l) (ht : TOk l t) (hT : TC μ x t) : f_X4_isName (x + 62) (S, μ) = some (.inl (zbl (zisN l t)), (S, μ)) := by
  have hn := h.n
  have he := ht.el
  have hse := ht.se
  have t104 : ∀ s0 : Int, (s0 = 0 ↔ ¬ zkw l t) → zo (f_X4_isName_104 (x + 62) s0 (S, μ)) (fun r => r = (.inl (zbl (zisN l t)), (S, μ))) := by
    intro s0 hs
    refine j_X4_isName_104 ?_
    refine zo_gf h.o hT.1 (by omega) (by omega) ?_
    by_cases z1 : t.1 = 1
    · refine zo_pos z1 ?_
      refine zo_gf h.o hT.2.2 (by omega) (by omega) ?_
      refine zo_gf h.o hT.2.1 (by omega) (by omega) ?_
      rw [w32_e (show -2147483648 ≤ (t.2.2 : Int) - (t.2.1 : Int) ∧ (t.2.2 : Int) - (t.2.1 : Int) < 2147483648 by omega)]
      by_cases z2 : 6 < (t.2.2 : Int) - (t.2.1 : Int)
      · exact zo_pos z2 (zo_rt (by rw [zbl_n (fun z => by have := z.2.1; omega)]))
      · refine zo_neg z2 ?_
        by_cases z3 : s0 = 0
        · exact zo_pos z3 (zo_rt (by rw [zbl_p ⟨z1, by omega, hs.mp z3⟩]))
        · exact zo_neg z3 (zo_rt (by rw [zbl_n (fun z => z3 (hs.mpr z.2.2))]))
    · exact zo_neg z1 (zo_rt (by rw [zbl_n (fun z => z1 z.1)]))
  have t99 : ∀ i, i < 11 → ziw l t i → zo (f_X4_isName_99 (x + 62) (S, μ)) (fun r => r = (.inl (zbl (zisN l t)), (S, μ))) := by
    intro i hi hw
    refine j_X4_isName_99 ?_
    exact t104 1 ⟨fun z => absurd z (by decide), fun z => absurd ⟨i, hi, hw⟩ z⟩
  apply zo_un
  refine j_X4_isName ?_
  refine zo_ob h.o (by omega) ?_
  refine zo_bn (c_isWord (i := 0) h ht hT (by decide)) ?_
  refine zo_zb (fun n0 => ?_) (fun y => t99 0 (by decide) y)
  refine zo_ob h.o (by omega) ?_
  refine zo_bn (c_isWord (i := 1) h ht hT (by decide)) ?_
  refine zo_zb (fun n1 => ?_) (fun y => t99 1 (by decide) y)
  refine zo_ob h.o (by omega) ?_
  refine zo_bn (c_isWord (i := 2) h ht hT (by decide)) ?_
  refine zo_zb (fun n2 => ?_) (fun y => t99 2 (by decide) y)
  refine zo_ob h.o (by omega) ?_
  refine zo_bn (c_isWord (i := 3) h ht hT (by decide)) ?_
  refine zo_zb (fun n3 => ?_) (fun y => t99 3 (by decide) y)
  refine zo_ob h.o (by omega) ?_
  refine zo_bn (c_isWord (i := 4) h ht hT (by decide)) ?_
  refine zo_zb (fun n4 => ?_) (fun y => t99 4 (by decide) y)
  refine zo_ob h.o (by omega) ?_
  refine zo_bn (c_isWord (i := 5) h ht hT (by decide)) ?_
  refine zo_zb (fun n5 => ?_) (fun y => t99 5 (by decide) y)
  refine zo_ob h.o (by omega) ?_
  refine zo_bn (c_isWord (i := 6) h ht hT (by decide)) ?_
  refine zo_zb (fun n6 => ?_) (fun y => t99 6 (by decide) y)
  refine zo_ob h.o (by omega) ?_
  refine zo_bn (c_isWord (i := 7) h ht hT (by decide)) ?_
  refine zo_zb (fun n7 => ?_) (fun y => t99 7 (by decide) y)
  refine zo_ob h.o (by omega) ?_
  refine zo_bn (c_isWord (i := 8) h ht hT (by decide)) ?_
  refine zo_zb (fun n8 => ?_) (fun y => t99 8 (by decide) y)
  refine zo_ob h.o (by omega) ?_
  refine zo_bn (c_isWord (i := 9) h ht hT (by decide)) ?_
  refine zo_zb (fun n9 => ?_) (fun y => t99 9 (by decide) y)
  refine zo_ob h.o (by omega) ?_
  refine zo_bn (c_isWord (i := 10) h ht hT (by decide)) ?_
  refine zo_zb (fun n10 => ?_) (fun y => t99 10 (by decide) y)
  refine t104 0 ⟨fun _ => ?_, fun _ => rfl⟩
  rintro ⟨i, hi, hw⟩
  have hc : i = 0 ∨ i = 1 ∨ i = 2 ∨ i = 3 ∨ i = 4 ∨ i = 5 ∨ i = 6 ∨ i = 7 ∨ i = 8 ∨ i = 9 ∨ i = 10 := by omega
  rcases hc with z | z | z | z | z | z | z | z | z | z | z <;> rw [z] at hw
  · exact n0 hw
  · exact n1 hw
  · exact n2 hw
  · exact n3 hw
  · exact n4 hw
  · exact n5 hw
  · exact n6 hw
  · exact n7 hw
  · exact n8 hw
  · exact n9 hw
  · exact n10 hw
theorem c_fail {c : Int} (h : PC S μ x l) (hT : TC μ x t) : ∃ μ', f_X4_fail (x + 62) c (S, μ) = some (.inl 0, (S, μ')) ∧ (μ' (x + 62) 6 = c ∧ μ' (x + 62) 7 = (t.2.1 : Int) ∧ FP4 x μ μ') := by
  apply zo_ux
  refine j_X4_fail ?_
  refine zo_pf 6 h.o (by omega) (by omega) ?_
  refine zo_gf h.o (v := (t.2.1 : Int)) (j := 3) (by rw [zup_j (by decide)]; exact hT.2.1) (by omega) (by omega) ?_
  refine zo_pf 7 h.o (by omega) (by omega) ?_
  exact zo_rt ⟨_, rfl, by rw [zup_j (by decide)]; exact zup_at, zup_at, FP4.tr FP4.u FP4.u⟩
theorem c_go (h : PC S μ x l) (ht : TOk l t) (hT : TC μ x t) (h6 : μ (x + 62) 6 = 0 ∧ μ (x + 62) 7 = -1) : ∃ μ', f_X4_next (x + 62) (S, μ) = some (.inl 0, (S, μ')) ∧ (RC μ' x 1 (.inr (ztk l t.2.2)) ∧ FT4 x μ μ') := by
  obtain ⟨μ1, e1, h1, f1⟩ := c_nextTok h ht.el hT.2.2
  exact ⟨μ1, e1, ⟨rfl, h1, by rw [f1.f _ (by decide) (by decide) (by decide)]; exact h6.1, by rw [f1.f _ (by decide) (by decide) (by decide)]; exact h6.2⟩, f1⟩
theorem c_readWord {i : Nat} (h : PC S μ x l) (ht : TOk l t) (hT : TC μ x t) (h6 : μ (x + 62) 6 = 0 ∧ μ (x + 62) 7 = -1) (hi : i < 11) : ∃ b μ', f_X4_readWord (x + 62) (i : Int) (S, μ) = some (.inl b, (S, μ')) ∧ (RC μ' x b (pWord l i t) ∧ FP4 x μ μ') := by
  refine zo_xb ?_
  refine j_X4_readWord ?_
  refine zo_ob h.o (by omega) ?_
  refine zo_bn (c_isWord h ht hT hi) ?_
  refine zo_zb (fun z => ?_) (fun z => ?_)
  · have ep : pWord l i t = .inl (1, t.2.1) := if_neg z
    obtain ⟨μ1, e1, h1, h2, f1⟩ := c_fail (c := 1) h hT
    rw [ep]
    refine zo_ob h.o (by omega) ?_
    refine zo_bn e1 ?_
    refine zo_pos (Or.inl rfl) ?_
    exact zo_rt ⟨0, μ1, rfl, ⟨rfl, h1, h2⟩, f1⟩
  · have ep : pWord l i t = .inr (ztk l t.2.2) := if_pos z
    obtain ⟨μ1, e1, h1, f1⟩ := c_go h ht hT h6
    rw [ep]
    refine zo_ob h.o (by omega) ?_
    refine zo_bn e1 ?_
    exact zo_rt ⟨1, μ1, rfl, h1, f1.p⟩
theorem c_readSemicolon (h : PC S μ x l) (ht : TOk l t) (hT : TC μ x t) (h6 : μ (x + 62) 6 = 0 ∧ μ (x + 62) 7 = -1) : ∃ b μ', f_X4_readSemicolon (x + 62) (S, μ) = some (.inl b, (S, μ')) ∧ (RC μ' x b (pSemi l t) ∧ FP4 x μ μ') := by
  have bad : ¬ (t.1 = 3 ∧ l[t.2.1]? = some 59) → zo (f_X4_readSemicolon_24 (x + 62) (S, μ)) (fun r => ∃ b μ', r = (.inl b, (S, μ')) ∧ (RC μ' x b (pSemi l t) ∧ FP4 x μ μ')) := by
    intro z
    have ep : pSemi l t = .inl (1, t.2.1) := if_neg z
    obtain ⟨μ1, e1, h1, h2, f1⟩ := c_fail (c := 1) h hT
    rw [ep]
    refine j_X4_readSemicolon_24 ?_
    refine zo_ob h.o (by omega) ?_
    refine zo_bn e1 ?_
    refine zo_pos (Or.inl rfl) ?_
    exact zo_rt ⟨0, μ1, rfl, ⟨rfl, h1, h2⟩, f1⟩
  refine zo_xb ?_
  refine j_X4_readSemicolon ?_
  refine zo_gf h.o hT.1 (by omega) (by omega) ?_
  by_cases z1 : t.1 = 3
  · have hlt := ht.kp (by rw [z1]; decide)
    have hel := ht.el
    obtain ⟨v, hv, hvm⟩ := get_ex (l := l) (k := t.2.1) (by omega)
    have hvr := h.L.g v hvm
    refine zo_pos z1 ?_
    refine zo_gr h.o h.r0 (by omega) (by omega) ?_
    refine zo_gf h.o hT.2.1 (by omega) (by omega) ?_
    refine zo_ob h.B.o (by omega) ?_
    refine zo_bn (h.at0 hv) ?_
    by_cases z2 : zu v = 59
    · have ev : v = 59 := by unfold zu at z2; split at z2 <;> omega
      have ep : pSemi l t = .inr (ztk l t.2.2) := if_pos ⟨z1, by rw [hv, ev]⟩
      obtain ⟨μ1, e1, h1, f1⟩ := c_go h ht hT h6
      rw [ep]
      refine zo_pos z2 ?_
      refine zo_ob h.o (by omega) ?_
      refine zo_bn e1 ?_
      exact zo_rt ⟨1, μ1, rfl, h1, f1.p⟩
    · refine zo_neg z2 (bad (fun z => z2 ?_))
      rw [hv] at z
      rw [Option.some.inj z.2]
      rfl
  · exact zo_neg z1 (bad (fun z => z1 z.1))
theorem dig_nn (ht : TOk l t) (hg : ∀ y, y ∈ l → -128 ≤ y ∧ y < 128) (h2 : t.1 = 2) {k : Nat} (hk : k ≤ t.2.2 - t.2.1) : 0 ≤ znv ((l.drop t.2.1).take k) := by
  refine znv_nn _ (fun u hu => ?_)
  obtain ⟨r, h1, h3, h4⟩ := seg_mem hu
  have h5 := ht.ka (Or.inr h2) r h1 (by omega)
  rw [h2] at h5
  exact kd_dig h4 (hg u (List.mem_of_getElem? h4)) h5
set_option maxHeartbeats 1000000 in
theorem c_readNumber {lo hi : Int} (h : PC S μ x l) (ht : TOk l t) (hT : TC μ x t) (h6 : μ (x + 62) 6 = 0 ∧ μ (x + 62) 7 = -1) (hlo : 0 ≤ lo) (hhi : hi ≤ 999) : ∃ b μ', f_X4_readNumber (x + 62) lo hi (S, μ) = some (.inl b, (S, μ')) ∧ (RC μ' x b (pNum l lo hi t) ∧ FP4 x μ μ' ∧ (b = 1 → μ' (x + 62) 5 = znv (zsg l t) ∧ lo ≤ znv (zsg l t) ∧ znv (zsg l t) ≤ hi)) := by
  have hn := h.n
  have he := ht.el
  have hse := ht.se
  refine zo_xb ?_
  refine j_X4_readNumber ?_
  refine zo_gf h.o hT.1 (by omega) (by omega) ?_
  by_cases z1 : t.1 = 2
  · refine zo_pos z1 ?_
    refine zo_gf h.o hT.2.1 (by omega) (by omega) ?_
    refine zo_l2 (F := fun f (k : Nat) (c : Int) => f_X4_readNumber_22 f (x + 62) lo hi c ((t.2.1 + k : Nat) : Int) (S, μ)) (fun k c => k ≤ t.2.2 - t.2.1 ∧ c = min (znv ((l.drop t.2.1).take k)) 1000) (fun k _ => t.2.2 - t.2.1 - k) ?_ zFU 0 0 ⟨by omega, rfl⟩ (by show t.2.2 - t.2.1 - 0 < 1000000; omega)
    rintro f k c ⟨hk, hc⟩ ih
    refine j_X4_readNumber_22 ?_
    refine zo_gf h.o hT.2.2 (by omega) (by omega) ?_
    have hnn := dig_nn ht h.L.g z1 hk
    by_cases e : k < t.2.2 - t.2.1
    · obtain ⟨v, hv, hvm⟩ := get_ex (l := l) (k := t.2.1 + k) (by omega)
      have h5 := ht.ka (Or.inr z1) (t.2.1 + k) (by omega) (by omega)
      rw [z1] at h5
      have hd := kd_dig hv (h.L.g v hvm) h5
      have ets : (l.drop t.2.1).take (k + 1) = (l.drop t.2.1).take k ++ [v] := seg_s hv
      refine zo_pos (by omega) ?_
      refine zo_gr h.o h.r0 (by omega) (by omega) ?_
      refine zo_ob h.B.o (by omega) ?_
      refine zo_bn (h.at0 hv) ?_
      rw [zu_e (show 0 ≤ v by omega), w32_s (k := t.2.1 + k) (by omega)]
      refine ih (k + 1) _ ⟨by omega, ?_⟩ (by omega)
      rw [ets, znv_s, hc]
      generalize znv ((l.drop t.2.1).take k) = c2 at *
      rw [w32_e (z := min c2 1000 * 10) (by omega), w32_e (z := min c2 1000 * 10 + v) (by omega), w32_e (by omega)]
      omega
    · have ek : k = t.2.2 - t.2.1 := by omega
      have ec : (l.drop t.2.1).take k = zsg l t := by rw [ek]; rfl
      rw [ec] at hc hnn
      have f71 : ¬ (lo ≤ znv (zsg l t) ∧ znv (zsg l t) ≤ hi) → zo (f_X4_readNumber_71 (x + 62) (S, μ)) (fun r => ∃ b μ', r = (.inl b, (S, μ')) ∧ (RC μ' x b (pNum l lo hi t) ∧ FP4 x μ μ' ∧ (b = 1 → μ' (x + 62) 5 = znv (zsg l t) ∧ lo ≤ znv (zsg l t) ∧ znv (zsg l t) ≤ hi))) := by
        intro z
        have ep : pNum l lo hi t = .inl (2, t.2.1) := (if_pos z1).trans (if_neg z)
        obtain ⟨μ1, e1, h1, h2, f1⟩ := c_fail (c := 2) h hT
        rw [ep]
        refine j_X4_readNumber_71 ?_
        refine zo_ob h.o (by omega) ?_
        refine zo_bn e1 ?_
        refine zo_pos (Or.inl rfl) ?_
        exact zo_rt ⟨0, μ1, rfl, ⟨rfl, h1, h2⟩, f1, fun z => absurd z (by decide)⟩
      refine zo_neg (by omega) ?_
      refine j_X4_readNumber_61 ?_
      refine zo_ite (fun y => f71 (by omega)) (fun y => ?_)
      refine zo_ite (fun u => f71 (by omega)) (fun u => ?_)
      have ev : c = znv (zsg l t) := by omega
      have ep : pNum l lo hi t = .inr (ztk l t.2.2) := (if_pos z1).trans (if_pos (by omega))
      rw [ep]
      have f5 : FP4 x μ (zup μ (x + 62) 5 c) := FP4.u
      obtain ⟨μ1, e1, h1, f1⟩ := c_go (h.up4 f5) ht ⟨by rw [zup_j (by decide)]; exact hT.1, by rw [zup_j (by decide)]; exact hT.2.1, by rw [zup_j (by decide)]; exact hT.2.2⟩ ⟨by rw [zup_j (by decide)]; exact h6.1, by rw [zup_j (by decide)]; exact h6.2⟩
      refine zo_pf 5 h.o (by omega) (by omega) ?_
      refine zo_ob h.o (by omega) ?_
      refine zo_bn e1 ?_
      exact zo_rt ⟨1, μ1, rfl, h1, FP4.tr f5 f1.p, fun _ => ⟨by rw [f1.f _ (by decide) (by decide) (by decide), zup_at, ev], by omega, by omega⟩⟩
  · have ep : pNum l lo hi t = .inl (1, t.2.1) := if_neg z1
    obtain ⟨μ1, e1, h1, h2, f1⟩ := c_fail (c := 1) h hT
    rw [ep]
    refine zo_neg z1 ?_
    refine zo_ob h.o (by omega) ?_
    refine zo_bn e1 ?_
    refine zo_pos (Or.inl rfl) ?_
    exact zo_rt ⟨0, μ1, rfl, ⟨rfl, h1, h2⟩, f1, fun z => absurd z (by decide)⟩
end C79
