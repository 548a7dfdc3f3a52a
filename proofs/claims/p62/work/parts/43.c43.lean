/-! C 43: beliefs: what they are, the class's view -/
def zD.tv (M : zD) (a : Int) (p : zP) : Int := if p 1 = a then 11 else M.T a (p 1)
def zD.out (M : zD) (a : Int) (p : zP) : Prop := M.tv a p = -1 ∨ M.tv a p < M.ru 2
def zD.rk (M : zD) (a : Int) (p : zP) : Int := w32 ((w32 ((w32 ((w32 (10 - M.tv a p)) * 100)) + (w32 (p 2 * 10)))) + p 0)
def zD.lo (M : zD) (a : Int) (p : zP) : Int := zlo p (M.sp a p)
def zD.hi (M : zD) (a : Int) (p : zP) : Int := zhi p (M.sp a p)
def zent (w x : Int) : List zP → Nat → List (Nat × zP)
  | [], _ => []
  | p :: r, k => if p 3 = w ∧ ¬ p 1 = x then (k, p) :: zent w x r (k + 1) else zent w x r (k + 1)
def znx (R : zP → Int) (st : Int → Int) : List (Nat × zP) → Option zP → Option zP
  | [], b => b
  | e :: r, b => if st (e.2 0) = 3 ∧ (∀ q, b = some q → R e.2 < R q) then znx R st r (some e.2) else znx R st r b
noncomputable def zst0 (M : zD) (a : Int) (X : List (Nat × zP)) (o : Int) : Int := match X.find? (fun e => decide (e.2 0 = o)) with
  | none => -1
  | some e => 3 - zbl (M.out a e.2)
abbrev zBs : Type := (Int → Int) × Int × Int
def zbs (M : zD) (a : Int) (X : List (Nat × zP)) (s : zBs) : zBs := match znx (M.rk a) s.1 X none with
  | none => s
  | some p => if min s.2.2 (M.hi a p) < max s.2.1 (M.lo a p) then (zup1 s.1 (p 0) 1, s.2.1, s.2.2) else (zup1 s.1 (p 0) 0, max s.2.1 (M.lo a p), min s.2.2 (M.hi a p))
noncomputable def zD.bel (M : zD) (a w x : Int) : zBs := zlp (fun _ s => zbs M a (zent w x (M.li a) 0) s) 0 (zent w x (M.li a) 0).length (zst0 M a (zent w x (M.li a) 0), 0, 999)
def VSh (S : zG) (v : Int) : Prop := (S.1 v = some (0, 6)) ∧ (S.2.1 v 0 = v + 1) ∧ (S.2.1 v 1 = v + 2) ∧ (S.2.1 v 2 = v + 3) ∧ (S.2.1 v 3 = v + 4) ∧ (S.2.1 v 4 = v + 5) ∧ (S.2.1 v 5 = v + 6) ∧ (S.1 (v + 1) = some (1, 6)) ∧ (S.1 (v + 2) = some (1, 6)) ∧ (S.1 (v + 3) = some (1, 6)) ∧ (S.1 (v + 4) = some (1, 6)) ∧ (S.1 (v + 5) = some (1, 6)) ∧ (S.1 (v + 6) = some (1, 6))
theorem VSh.mk {S : zG} {v : Int} (h : (S.1 v = some (0, 6)) ∧ (S.2.1 v 0 = v + 1) ∧ (S.2.1 v 1 = v + 2) ∧ (S.2.1 v 2 = v + 3) ∧ (S.2.1 v 3 = v + 4) ∧ (S.2.1 v 4 = v + 5) ∧ (S.2.1 v 5 = v + 6) ∧ (S.1 (v + 1) = some (1, 6)) ∧ (S.1 (v + 2) = some (1, 6)) ∧ (S.1 (v + 3) = some (1, 6)) ∧ (S.1 (v + 4) = some (1, 6)) ∧ (S.1 (v + 5) = some (1, 6)) ∧ (S.1 (v + 6) = some (1, 6))) : VSh S v := h
theorem VSh.o {S : zG} {v : Int} (h : VSh S v) : S.1 v = some (0, 6) := h.1
theorem VSh.r0 {S : zG} {v : Int} (h : VSh S v) : S.2.1 v 0 = v + 1 := h.2.1
theorem VSh.r1 {S : zG} {v : Int} (h : VSh S v) : S.2.1 v 1 = v + 2 := h.2.2.1
theorem VSh.r2 {S : zG} {v : Int} (h : VSh S v) : S.2.1 v 2 = v + 3 := h.2.2.2.1
theorem VSh.r3 {S : zG} {v : Int} (h : VSh S v) : S.2.1 v 3 = v + 4 := h.2.2.2.2.1
theorem VSh.r4 {S : zG} {v : Int} (h : VSh S v) : S.2.1 v 4 = v + 5 := h.2.2.2.2.2.1
theorem VSh.r5 {S : zG} {v : Int} (h : VSh S v) : S.2.1 v 5 = v + 6 := h.2.2.2.2.2.2.1
theorem VSh.a0 {S : zG} {v : Int} (h : VSh S v) : S.1 (v + 1) = some (1, 6) := h.2.2.2.2.2.2.2.1
theorem VSh.a1 {S : zG} {v : Int} (h : VSh S v) : S.1 (v + 2) = some (1, 6) := h.2.2.2.2.2.2.2.2.1
theorem VSh.a2 {S : zG} {v : Int} (h : VSh S v) : S.1 (v + 3) = some (1, 6) := h.2.2.2.2.2.2.2.2.2.1
theorem VSh.a3 {S : zG} {v : Int} (h : VSh S v) : S.1 (v + 4) = some (1, 6) := h.2.2.2.2.2.2.2.2.2.2.1
theorem VSh.a4 {S : zG} {v : Int} (h : VSh S v) : S.1 (v + 5) = some (1, 6) := h.2.2.2.2.2.2.2.2.2.2.2.1
theorem VSh.a5 {S : zG} {v : Int} (h : VSh S v) : S.1 (v + 6) = some (1, 6) := h.2.2.2.2.2.2.2.2.2.2.2.2
abbrev zEn : Type := List (Nat × zP)
def VRel (M : zD) (a : Int) (μ : zM) (v : Int) (X : zEn) (s : zBs) : Prop := (X.length ≤ 6) ∧ (μ v 6 = (X.length : Int)) ∧ (μ v 7 = s.2.1) ∧ (μ v 8 = s.2.2) ∧ (∀ (i r : Nat) (p : zP), X[i]? = some (r, p) → μ (v + 1) (i : Int) = (r : Int)) ∧ (∀ (i r : Nat) (p : zP), X[i]? = some (r, p) → μ (v + 2) (i : Int) = p 0) ∧ (∀ (i r : Nat) (p : zP), X[i]? = some (r, p) → μ (v + 3) (i : Int) = M.rk a p) ∧ (∀ (i r : Nat) (p : zP), X[i]? = some (r, p) → μ (v + 4) (i : Int) = M.lo a p) ∧ (∀ (i r : Nat) (p : zP), X[i]? = some (r, p) → μ (v + 5) (i : Int) = M.hi a p) ∧ (∀ (i r : Nat) (p : zP), X[i]? = some (r, p) → μ (v + 6) (i : Int) = s.1 (p 0))
theorem VRel.mk {M : zD} {a : Int} {μ : zM} {v : Int} {X : zEn} {s : zBs} (h : (X.length ≤ 6) ∧ (μ v 6 = (X.length : Int)) ∧ (μ v 7 = s.2.1) ∧ (μ v 8 = s.2.2) ∧ (∀ (i r : Nat) (p : zP), X[i]? = some (r, p) → μ (v + 1) (i : Int) = (r : Int)) ∧ (∀ (i r : Nat) (p : zP), X[i]? = some (r, p) → μ (v + 2) (i : Int) = p 0) ∧ (∀ (i r : Nat) (p : zP), X[i]? = some (r, p) → μ (v + 3) (i : Int) = M.rk a p) ∧ (∀ (i r : Nat) (p : zP), X[i]? = some (r, p) → μ (v + 4) (i : Int) = M.lo a p) ∧ (∀ (i r : Nat) (p : zP), X[i]? = some (r, p) → μ (v + 5) (i : Int) = M.hi a p) ∧ (∀ (i r : Nat) (p : zP), X[i]? = some (r, p) → μ (v + 6) (i : Int) = s.1 (p 0))) : VRel M a μ v X s := h
theorem VRel.n {M : zD} {a : Int} {μ : zM} {v : Int} {X : zEn} {s : zBs} (h : VRel M a μ v X s) : X.length ≤ 6 := h.1
theorem VRel.c {M : zD} {a : Int} {μ : zM} {v : Int} {X : zEn} {s : zBs} (h : VRel M a μ v X s) : μ v 6 = (X.length : Int) := h.2.1
theorem VRel.lo {M : zD} {a : Int} {μ : zM} {v : Int} {X : zEn} {s : zBs} (h : VRel M a μ v X s) : μ v 7 = s.2.1 := h.2.2.1
theorem VRel.hi {M : zD} {a : Int} {μ : zM} {v : Int} {X : zEn} {s : zBs} (h : VRel M a μ v X s) : μ v 8 = s.2.2 := h.2.2.2.1
theorem VRel.e0 {M : zD} {a : Int} {μ : zM} {v : Int} {X : zEn} {s : zBs} (h : VRel M a μ v X s) : ∀ (i r : Nat) (p : zP), X[i]? = some (r, p) → μ (v + 1) (i : Int) = (r : Int) := h.2.2.2.2.1
theorem VRel.e1 {M : zD} {a : Int} {μ : zM} {v : Int} {X : zEn} {s : zBs} (h : VRel M a μ v X s) : ∀ (i r : Nat) (p : zP), X[i]? = some (r, p) → μ (v + 2) (i : Int) = p 0 := h.2.2.2.2.2.1
theorem VRel.e2 {M : zD} {a : Int} {μ : zM} {v : Int} {X : zEn} {s : zBs} (h : VRel M a μ v X s) : ∀ (i r : Nat) (p : zP), X[i]? = some (r, p) → μ (v + 3) (i : Int) = M.rk a p := h.2.2.2.2.2.2.1
theorem VRel.e3 {M : zD} {a : Int} {μ : zM} {v : Int} {X : zEn} {s : zBs} (h : VRel M a μ v X s) : ∀ (i r : Nat) (p : zP), X[i]? = some (r, p) → μ (v + 4) (i : Int) = M.lo a p := h.2.2.2.2.2.2.2.1
theorem VRel.e4 {M : zD} {a : Int} {μ : zM} {v : Int} {X : zEn} {s : zBs} (h : VRel M a μ v X s) : ∀ (i r : Nat) (p : zP), X[i]? = some (r, p) → μ (v + 5) (i : Int) = M.hi a p := h.2.2.2.2.2.2.2.2.1
theorem VRel.e5 {M : zD} {a : Int} {μ : zM} {v : Int} {X : zEn} {s : zBs} (h : VRel M a μ v X s) : ∀ (i r : Nat) (p : zP), X[i]? = some (r, p) → μ (v + 6) (i : Int) = s.1 (p 0) := h.2.2.2.2.2.2.2.2.2
def FV (v : Int) (μ μ' : zM) : Prop := ∀ x, (x < v ∨ v + 7 ≤ x) → μ' x = μ x
theorem FV.rf {d : Int} {μ : zM} : FV d μ μ := fun _ _ => rfl
theorem FV.tr {d : Int} {μ μ1 μ2 : zM} (h : FV d μ μ1) (k : FV d μ1 μ2) : FV d μ μ2 := fun x hx => (k x hx).trans (h x hx)
theorem FV.up {d a i v : Int} {μ : zM} (h : d ≤ a ∧ a < d + 7) : FV d μ (zup μ a i v) := fun x hx => zup_c (by omega)
def zdis (X : zEn) : Prop := ∀ (i j r s : Nat) (p q : zP), X[i]? = some (r, p) → X[j]? = some (s, q) → i ≠ j → p 0 ≠ q 0
section C43
variable {S : zG} {μ μ' μ1 : zM} {d B a v : Int} {M : zD} {Q : zR × zS → Prop} {X : zEn} {s : zBs}
theorem c_next (V : VSh S v) (h : VRel M a μ v X s) : ∃ i : Int, f_X6_nextToTake v (S, μ) = some (.inl i, (S, μ)) ∧ ((znx (M.rk a) s.1 X none = none ∧ i = -1) ∨ ∃ (j r : Nat) (p : zP), znx (M.rk a) s.1 X none = some p ∧ i = (j : Int) ∧ X[j]? = some (r, p)) := by
  have hn := h.n
  have main : zo (f_X6_nextToTake v (S, μ)) (fun x => ∃ i : Int, x = (.inl i, (S, μ)) ∧ ((znx (M.rk a) s.1 X none = none ∧ i = -1) ∨ ∃ (j r : Nat) (p : zP), znx (M.rk a) s.1 X none = some p ∧ i = (j : Int) ∧ X[j]? = some (r, p))) := by
    refine j_X6_nextToTake ?_
    refine zo_l3 (F := fun m (k : Nat) (nx : Int) (le : Int) => f_X6_nextToTake_6 m v nx le (k : Int) (S, μ)) (fun k nx le => k ≤ X.length ∧ ∃ b, znx (M.rk a) s.1 (X.drop k) b = znx (M.rk a) s.1 X none ∧ ((b = none ∧ nx = -1) ∨ ∃ (j r : Nat) (p : zP), b = some p ∧ nx = (j : Int) ∧ X[j]? = some (r, p) ∧ le = M.rk a p)) (fun k _ _ => X.length - k) ?_ zFU 0 (-1) 0 ⟨by omega, none, rfl, Or.inl ⟨rfl, rfl⟩⟩ (by show X.length - 0 < 1000000; omega)
    rintro m k nx le ⟨hk, b, hz, hb⟩ ih
    refine j_X6_nextToTake_6 ?_
    refine zo_gf V.o h.c (by omega) (by omega) ?_
    by_cases e : k < X.length
    · obtain ⟨⟨r, p⟩, hp, hd, hpm⟩ := drop_cons e
      refine zo_pos (by omega) ?_
      refine zo_pos (by omega) ?_
      refine zo_gr V.o V.r5 (by omega) (by omega) ?_
      refine zo_ld V.a5 (by omega) (h.e5 k r p hp) ?_
      have hz' : znx (M.rk a) s.1 ((r, p) :: X.drop (k + 1)) b = znx (M.rk a) s.1 X none := by rw [← hd]; exact hz
      have hu : ∀ b, znx (M.rk a) s.1 ((r, p) :: X.drop (k + 1)) b = if s.1 (p 0) = 3 ∧ (∀ q, b = some q → M.rk a p < M.rk a q) then znx (M.rk a) s.1 (X.drop (k + 1)) (some p) else znx (M.rk a) s.1 (X.drop (k + 1)) b := fun _ => rfl
      rw [hu] at hz'
      by_cases h3 : s.1 (p 0) = 3
      · refine zo_pos h3 ?_
        rcases hb with ⟨hb, hx⟩ | ⟨j, r', p', hb, hx, hj, hle⟩
        · refine zo_pos hx ?_
          refine j_X6_nextToTake_45 ?_
          refine zo_gr V.o V.r2 (by omega) (by omega) ?_
          refine zo_ld V.a2 (by omega) (h.e2 k r p hp) ?_
          refine j_X6_nextToTake_54 ?_
          rw [w32_s (k := k) (by omega)]
          rw [if_pos ⟨h3, fun q hq => by rw [hb] at hq; cases hq⟩] at hz'
          exact ih (k + 1) _ _ ⟨by omega, some p, hz', Or.inr ⟨k, r, p, rfl, rfl, hp, rfl⟩⟩ (by omega)
        · refine zo_neg (by omega) ?_
          refine zo_gr V.o V.r2 (by omega) (by omega) ?_
          refine zo_ld V.a2 (by omega) (h.e2 k r p hp) ?_
          by_cases hl : M.rk a p < le
          · refine zo_pos hl ?_
            refine j_X6_nextToTake_45 ?_
            refine zo_gr V.o V.r2 (by omega) (by omega) ?_
            refine zo_ld V.a2 (by omega) (h.e2 k r p hp) ?_
            refine j_X6_nextToTake_54 ?_
            rw [w32_s (k := k) (by omega)]
            rw [if_pos ⟨h3, fun q hq => by rw [hb] at hq; cases hq; rw [← hle]; exact hl⟩] at hz'
            exact ih (k + 1) _ _ ⟨by omega, some p, hz', Or.inr ⟨k, r, p, rfl, rfl, hp, rfl⟩⟩ (by omega)
          · refine zo_neg hl ?_
            refine j_X6_nextToTake_54 ?_
            rw [w32_s (k := k) (by omega)]
            rw [if_neg (fun z => hl (by rw [hle]; exact z.2 p' hb))] at hz'
            exact ih (k + 1) _ _ ⟨by omega, b, hz', Or.inr ⟨j, r', p', hb, hx, hj, hle⟩⟩ (by omega)
      · refine zo_neg h3 ?_
        refine j_X6_nextToTake_54 ?_
        rw [w32_s (k := k) (by omega)]
        rw [if_neg (fun z => h3 z.1)] at hz'
        exact ih (k + 1) _ _ ⟨by omega, b, hz', hb⟩ (by omega)
    · refine zo_neg (by omega) ?_
      have e1 : k = X.length := by omega
      rw [e1, List.drop_length] at hz
      have hz' : b = znx (M.rk a) s.1 X none := hz
      refine zo_rt ⟨nx, rfl, ?_⟩
      rw [← hz']
      rcases hb with ⟨hb, hx⟩ | ⟨j, r', p', hb, hx, hj, hle⟩
      · exact Or.inl ⟨hb, hx⟩
      · exact Or.inr ⟨j, r', p', hb, hx, hj⟩
  obtain ⟨x, e, i, hx, hi⟩ := main
  exact ⟨i, by rw [e, hx], hi⟩
theorem VRel.st (h : VRel M a μ v X s) (hd : zdis X) {j r : Nat} {p : zP} (hj : X[j]? = some (r, p)) {t lo hi : Int} (hf : ∀ x, x ≠ v → x ≠ v + 6 → μ' x = μ x) (hc : μ' v 6 = μ v 6) (hl : μ' v 7 = lo) (hh : μ' v 8 = hi) (h6 : ∀ i, μ' (v + 6) i = zup μ (v + 6) (j : Int) t (v + 6) i) : VRel M a μ' v X (zup1 s.1 (p 0) t, lo, hi) := by
  refine VRel.mk ⟨h.n, hc.trans h.c, hl, hh, ?_, ?_, ?_, ?_, ?_, ?_⟩
  · intro i r p hi; rw [hf _ (by omega) (by omega)]; exact h.e0 i r p hi
  · intro i r p hi; rw [hf _ (by omega) (by omega)]; exact h.e1 i r p hi
  · intro i r p hi; rw [hf _ (by omega) (by omega)]; exact h.e2 i r p hi
  · intro i r p hi; rw [hf _ (by omega) (by omega)]; exact h.e3 i r p hi
  · intro i r p hi; rw [hf _ (by omega) (by omega)]; exact h.e4 i r p hi
  · intro i r' q hi
    rw [h6]
    show _ = zup1 s.1 (p 0) t (q 0)
    by_cases e : i = j
    · subst e
      have e2 : (r, p) = (r', q) := Option.some.inj (hj.symm.trans hi)
      have e3 : p = q := congrArg Prod.snd e2
      rw [zup_at, ← e3, zup1_at]
    · rw [zup_j (by omega), zup1_b (hd i j r' r q p hi hj e)]
      exact h.e5 i r' q hi
theorem c_step (V : VSh S v) (h : VRel M a μ v X s) (hd : zdis X) : ∃ i μ', f_X6_nextToTake v (S, μ) = some (.inl i, (S, μ)) ∧ f_X6_take v i (S, μ) = some (.inl 0, (S, μ')) ∧ VRel M a μ' v X (zbs M a X s) ∧ FV v μ μ' := by
  have hn := h.n
  obtain ⟨i, e1, hi⟩ := c_next V h
  rcases hi with ⟨hz, hi⟩ | ⟨j, r, p, hz, hi, hj⟩
  · refine ⟨i, μ, e1, ?_, ?_, FV.rf⟩
    · apply zo_un
      refine j_X6_take ?_
      refine zo_pos (by omega) (zo_rt rfl)
    · unfold zbs
      rw [hz]
      exact h
  · have hjl := (List.getElem?_eq_some_iff.mp hj).1
    have main : ∃ μ', f_X6_take v i (S, μ) = some (.inl 0, (S, μ')) ∧ VRel M a μ' v X (zbs M a X s) ∧ FV v μ μ' := by
      subst hi
      apply zo_ux
      refine j_X6_take ?_
      refine zo_neg (by omega) ?_
      refine zo_pos (by omega) ?_
      refine zo_gf V.o h.lo (by omega) (by omega) ?_
      refine zo_gr V.o V.r3 (by omega) (by omega) ?_
      refine zo_ld V.a3 (by omega) (h.e3 j r p hj) ?_
      refine zo_gf V.o h.hi (by omega) (by omega) ?_
      refine zo_gr V.o V.r4 (by omega) (by omega) ?_
      refine zo_ld V.a4 (by omega) (h.e4 j r p hj) ?_
      by_cases hc : min s.2.2 (M.hi a p) < max s.2.1 (M.lo a p)
      · have ez : zbs M a X s = (zup1 s.1 (p 0) 1, s.2.1, s.2.2) := by
          unfold zbs
          rw [hz]
          exact if_pos hc
        rw [ez]
        refine zo_pos hc ?_
        refine zo_gr V.o V.r5 (by omega) (by omega) ?_
        refine zo_si V.a5 (by omega) ?_
        exact zo_rt ⟨_, rfl, h.st hd hj (fun x h1 h2 => zup_c h2) (zup_b (by omega)) (by rw [zup_b (by omega)]; exact h.lo) (by rw [zup_b (by omega)]; exact h.hi) (fun _ => rfl), FV.up (by omega)⟩
      · have ez : zbs M a X s = (zup1 s.1 (p 0) 0, max s.2.1 (M.lo a p), min s.2.2 (M.hi a p)) := by
          unfold zbs
          rw [hz]
          exact if_neg hc
        rw [ez]
        refine zo_neg hc ?_
        refine zo_gr V.o V.r5 (by omega) (by omega) ?_
        refine zo_si V.a5 (by omega) ?_
        refine zo_pf 7 V.o (by omega) (by omega) ?_
        refine zo_pf 8 V.o (by omega) (by omega) ?_
        exact zo_rt ⟨_, rfl, h.st hd hj (fun x h1 h2 => by rw [zup_c h1, zup_c h1, zup_c h2]) (by rw [zup_j (by omega), zup_j (by omega), zup_b (by omega)]) (by rw [zup_j (by omega), zup_at]) zup_at (fun k => by rw [zup_b (by omega), zup_b (by omega)]), FV.tr (FV.up (by omega)) (FV.tr (FV.up (by omega)) (FV.up (by omega)))⟩
    obtain ⟨μ', e2, h2, f2⟩ := main
    exact ⟨i, μ', e1, e2, h2, f2⟩
theorem c_turns (V : VSh S v) (h : VRel M a μ v X s) (hd : zdis X) : ∃ μ', f_X6_form_99 v (S, μ) = some (.inl 0, (S, μ')) ∧ VRel M a μ' v X (zlp (fun _ s => zbs M a X s) 0 X.length s) ∧ FV v μ μ' := by
  have hn := h.n
  apply zo_ux
  refine j_X6_form_99 ?_
  refine zo_l2 (F := fun m (k : Nat) (μ2 : zM) => f_X6_form_102 m v (k : Int) (S, μ2)) (fun k μ2 => k ≤ X.length ∧ ∃ s2, VRel M a μ2 v X s2 ∧ zlp (fun _ s => zbs M a X s) k (X.length - k) s2 = zlp (fun _ s => zbs M a X s) 0 X.length s ∧ FV v μ μ2) (fun k _ => X.length - k) ?_ zFU 0 μ ⟨by omega, s, h, rfl, FV.rf⟩ (by show X.length - 0 < 1000000; omega)
  rintro m k μ2 ⟨hk, s2, h2, hz, f2⟩ ih
  refine j_X6_form_102 ?_
  refine zo_gf V.o h2.c (by omega) (by omega) ?_
  by_cases e : k < X.length
  · have e9 : X.length - k = (X.length - (k + 1)) + 1 := by omega
    rw [e9] at hz
    obtain ⟨i, μ3, e3, e4, h3, f3⟩ := c_step V h2 hd
    refine zo_pos (by omega) ?_
    refine zo_ob V.o (by omega) ?_
    refine zo_bn e3 ?_
    refine zo_ob V.o (by omega) ?_
    refine zo_bn e4 ?_
    rw [w32_s (k := k) (by omega)]
    exact ih (k + 1) μ3 ⟨by omega, _, h3, hz, FV.tr f2 f3⟩ (by omega)
  · have e9 : X.length - k = 0 := by omega
    rw [e9] at hz
    refine zo_neg (by omega) ?_
    have hz' : s2 = zlp (fun _ s => zbs M a X s) 0 X.length s := hz
    exact zo_rt ⟨μ2, rfl, by rw [← hz']; exact h2, f2⟩
end C43
