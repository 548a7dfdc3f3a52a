/-! C 52: the model: beliefs -/
theorem w32_w (z : Int) : w32 (w32 z) = w32 z := w32_e (w32_rng z)
/-- the model's belief: statuses and what is done -/
def BRel (M : zD) (a w x : Int) (μ : zM) (m : Int) (s : zBs) : Prop := (∀ (k : Nat) (p : zP), (M.li a)[k]? = some p → (p 3 = w ∧ ¬ p 1 = x) → μ (m + 3) (k : Int) = (if s.1 (p 0) = 3 then 0 else s.1 (p 0))) ∧ (∀ (k : Nat) (p : zP), (M.li a)[k]? = some p → (p 3 = w ∧ ¬ p 1 = x) → μ (m + 4) (k : Int) = zbl (¬ s.1 (p 0) = 3)) ∧ (∀ (k : Nat) (p : zP), (M.li a)[k]? = some p → ¬ (p 3 = w ∧ ¬ p 1 = x) → μ (m + 3) (k : Int) = -1) ∧ (∀ (k : Nat) (p : zP), (M.li a)[k]? = some p → ¬ (p 3 = w ∧ ¬ p 1 = x) → μ (m + 4) (k : Int) = 1) ∧ (μ m 5 = s.2.1) ∧ (μ m 6 = s.2.2)
theorem BRel.mk {M : zD} {a w x : Int} {μ : zM} {m : Int} {s : zBs} (h : (∀ (k : Nat) (p : zP), (M.li a)[k]? = some p → (p 3 = w ∧ ¬ p 1 = x) → μ (m + 3) (k : Int) = (if s.1 (p 0) = 3 then 0 else s.1 (p 0))) ∧ (∀ (k : Nat) (p : zP), (M.li a)[k]? = some p → (p 3 = w ∧ ¬ p 1 = x) → μ (m + 4) (k : Int) = zbl (¬ s.1 (p 0) = 3)) ∧ (∀ (k : Nat) (p : zP), (M.li a)[k]? = some p → ¬ (p 3 = w ∧ ¬ p 1 = x) → μ (m + 3) (k : Int) = -1) ∧ (∀ (k : Nat) (p : zP), (M.li a)[k]? = some p → ¬ (p 3 = w ∧ ¬ p 1 = x) → μ (m + 4) (k : Int) = 1) ∧ (μ m 5 = s.2.1) ∧ (μ m 6 = s.2.2)) : BRel M a w x μ m s := h
theorem BRel.s1 {M : zD} {a w x : Int} {μ : zM} {m : Int} {s : zBs} (h : BRel M a w x μ m s) : ∀ (k : Nat) (p : zP), (M.li a)[k]? = some p → (p 3 = w ∧ ¬ p 1 = x) → μ (m + 3) (k : Int) = (if s.1 (p 0) = 3 then 0 else s.1 (p 0)) := h.1
theorem BRel.d1 {M : zD} {a w x : Int} {μ : zM} {m : Int} {s : zBs} (h : BRel M a w x μ m s) : ∀ (k : Nat) (p : zP), (M.li a)[k]? = some p → (p 3 = w ∧ ¬ p 1 = x) → μ (m + 4) (k : Int) = zbl (¬ s.1 (p 0) = 3) := h.2.1
theorem BRel.s2 {M : zD} {a w x : Int} {μ : zM} {m : Int} {s : zBs} (h : BRel M a w x μ m s) : ∀ (k : Nat) (p : zP), (M.li a)[k]? = some p → ¬ (p 3 = w ∧ ¬ p 1 = x) → μ (m + 3) (k : Int) = -1 := h.2.2.1
theorem BRel.d2 {M : zD} {a w x : Int} {μ : zM} {m : Int} {s : zBs} (h : BRel M a w x μ m s) : ∀ (k : Nat) (p : zP), (M.li a)[k]? = some p → ¬ (p 3 = w ∧ ¬ p 1 = x) → μ (m + 4) (k : Int) = 1 := h.2.2.2.1
theorem BRel.lo {M : zD} {a w x : Int} {μ : zM} {m : Int} {s : zBs} (h : BRel M a w x μ m s) : μ m 5 = s.2.1 := h.2.2.2.2.1
theorem BRel.hi {M : zD} {a w x : Int} {μ : zM} {m : Int} {s : zBs} (h : BRel M a w x μ m s) : μ m 6 = s.2.2 := h.2.2.2.2.2
/-- nothing changes but what a belief writes -/
def FN (m : Int) (μ μ' : zM) : Prop := (∀ y, y ≠ m → y ≠ m + 3 → y ≠ m + 4 → μ' y = μ y) ∧ (∀ k, k ≠ 5 → k ≠ 6 → μ' m k = μ m k)
theorem FN.mk {m : Int} {μ μ' : zM} (h : (∀ y, y ≠ m → y ≠ m + 3 → y ≠ m + 4 → μ' y = μ y) ∧ (∀ k, k ≠ 5 → k ≠ 6 → μ' m k = μ m k)) : FN m μ μ' := h
theorem FN.x {m : Int} {μ μ' : zM} (h : FN m μ μ') : ∀ y, y ≠ m → y ≠ m + 3 → y ≠ m + 4 → μ' y = μ y := h.1
theorem FN.f {m : Int} {μ μ' : zM} (h : FN m μ μ') : ∀ k, k ≠ 5 → k ≠ 6 → μ' m k = μ m k := h.2
theorem FN.rf {m : Int} {μ : zM} : FN m μ μ := FN.mk ⟨fun _ _ _ _ => rfl, fun _ _ _ => rfl⟩
theorem FN.tr {m : Int} {μ μ1 μ2 : zM} (h : FN m μ μ1) (k : FN m μ1 μ2) : FN m μ μ2 := FN.mk ⟨fun y h1 h2 h3 => (k.x y h1 h2 h3).trans (h.x y h1 h2 h3), fun i h1 h2 => (k.f i h1 h2).trans (h.f i h1 h2)⟩
theorem FN.u3 {m i v : Int} {μ : zM} : FN m μ (zup μ (m + 3) i v) := FN.mk ⟨fun y _ h2 _ => zup_c h2, fun _ _ _ => zup_b (by omega)⟩
theorem FN.u4 {m i v : Int} {μ : zM} : FN m μ (zup μ (m + 4) i v) := FN.mk ⟨fun y _ _ h3 => zup_c h3, fun _ _ _ => zup_b (by omega)⟩
theorem FN.u5 {m v : Int} {μ : zM} : FN m μ (zup μ m 5 v) := FN.mk ⟨fun y h1 _ _ => zup_c h1, fun _ h1 _ => zup_j h1⟩
theorem FN.u6 {m v : Int} {μ : zM} : FN m μ (zup μ m 6 v) := FN.mk ⟨fun y h1 _ _ => zup_c h1, fun _ _ h2 => zup_j h2⟩
/-- how many wait -/
def zwc (st : Int → Int) : zEn → Nat
  | [] => 0
  | e :: r => (if st (e.2 0) = 3 then 1 else 0) + zwc st r
theorem zwc_le {st : Int → Int} {o t : Int} (ht : ¬ t = 3) : ∀ X : zEn, zwc (zup1 st o t) X ≤ zwc st X := by
  intro X
  induction X with
  | nil => exact Nat.le_refl _
  | cons e r ih =>
    unfold zwc
    by_cases h : e.2 0 = o
    · rw [h, zup1_at, if_neg ht]
      omega
    · rw [zup1_b h]
      omega
theorem zwc_lt {st : Int → Int} {o t : Int} (ht : ¬ t = 3) : ∀ (X : zEn) (r : Nat) (p : zP), (r, p) ∈ X → st (p 0) = 3 → p 0 = o → zwc (zup1 st o t) X < zwc st X := by
  intro X
  induction X with
  | nil => intro r p h; cases h
  | cons e s ih =>
    intro r p h h3 ho
    unfold zwc
    rcases List.mem_cons.mp h with h | h
    · have h5 := zwc_le (st := st) (o := o) ht s
      have e1 : (if zup1 st o t (e.2 0) = 3 then 1 else 0) = 0 := if_neg (by rw [← h]; show ¬ zup1 st o t (p 0) = 3; rw [ho, zup1_at]; exact ht)
      have e2 : (if st (e.2 0) = 3 then 1 else 0) = 1 := if_pos (by rw [← h]; exact h3)
      omega
    · have h1 := ih r p h h3 ho
      have h2 := zwc_le (st := st) (o := o) ht [e]
      unfold zwc at h2
      unfold zwc at h2
      omega
theorem znx_c (R : zP → Int) (st : Int → Int) (e : Nat × zP) (r : zEn) (b : Option zP) : znx R st (e :: r) b = if st (e.2 0) = 3 ∧ (∀ q, b = some q → R e.2 < R q) then znx R st r (some e.2) else znx R st r b := rfl
theorem znx_mem {R : zP → Int} {st : Int → Int} : ∀ (X : zEn) (b : Option zP) (p : zP), znx R st X b = some p → (∃ r, (r, p) ∈ X ∧ st (p 0) = 3) ∨ b = some p := by
  intro X
  induction X with
  | nil => intro b p h; exact Or.inr h
  | cons e s ih =>
    intro b p h
    rw [znx_c] at h
    split at h
    · rename_i hc
      rcases ih _ _ h with ⟨r, h1, h2⟩ | h1
      · exact Or.inl ⟨r, List.mem_cons_of_mem _ h1, h2⟩
      · have e1 : e.2 = p := Option.some.inj h1
        refine Or.inl ⟨e.1, ?_, by rw [← e1]; exact hc.1⟩
        rw [← e1]
        exact List.mem_cons_self ..
    · rcases ih _ _ h with ⟨r, h1, h2⟩ | h1
      · exact Or.inl ⟨r, List.mem_cons_of_mem _ h1, h2⟩
      · exact Or.inr h1
section C52
variable {S : zG} {μ μ' : zM} {m A B a w x : Int} {M X : zD} {Q : zR × zS → Prop} {s : zBs}
theorem b_trustInVia (H : MSh S m A) (h : D8 (μ A) M) {k : Nat} {p : zP} (ha : 0 ≤ a ∧ a < 6) (hk : (M.li a)[k]? = some p) (hn : ¬ p 0 = a) (hv : 0 ≤ p 1 ∧ p 1 < 6) : f_X8_trustInVia m a (k : Int) (S, μ) = some (.inl (M.T a (p 1)), (S, μ)) := by
  apply zo_un
  refine j_X8_trustInVia ?_
  refine zo_ob H.o (by omega) ?_
  refine zo_bn (b_isOwn H h ha hk) ?_
  refine zo_zn hn ?_
  refine zo_ob H.o (by omega) ?_
  refine zo_bn (b_ofR1 H h ha hk) ?_
  refine zo_ob H.o (by omega) ?_
  refine zo_bn (b_trustOf H h ha hv) ?_
  exact zo_rt rfl
theorem b_isOut (H : MSh S m A) (h : D8 (μ A) M) (W : WF B M) {k : Nat} {p : zP} (ha : 0 ≤ a ∧ a < 6) (hk : (M.li a)[k]? = some p) : f_X8_isOut m a (k : Int) (S, μ) = some (.inl (zbl (M.out a p)), (S, μ)) := by
  have hp := W.li a p (List.mem_of_getElem? hk)
  have hpv := hp.v
  have he := hp.e1
  have hr2 := W.r2
  have hal := W.al
  apply zo_un
  refine j_X8_isOut ?_
  refine zo_ob H.o (by omega) ?_
  refine zo_bn (b_isOwn H h ha hk) ?_
  refine zo_zb (fun e => ?_) (fun e => ?_)
  · have etv : M.tv a p = M.T a (p 1) := if_neg (fun z => e (he.mp z))
    have eo : M.out a p ↔ (M.T a (p 1) = -1 ∨ M.T a (p 1) < M.ru 2) := by
      unfold zD.out
      rw [etv]
    rw [zbl_i eo]
    refine zo_ob H.o (by omega) ?_
    refine zo_bn (b_trustInVia H h ha hk e (by omega)) ?_
    refine zo_ite (fun h1 => zo_rt (by rw [zbl_p (Or.inl h1)])) (fun h1 => ?_)
    refine zo_ob H.o (by omega) ?_
    refine zo_bn (b_trustInVia H h ha hk e (by omega)) ?_
    refine zo_ob H.o (by omega) ?_
    refine zo_bn (b_rule H h (show 0 ≤ (2 : Int) ∧ (2 : Int) < 5 by decide)) ?_
    refine zo_ite (fun h2 => zo_rt (by rw [zbl_p (Or.inr h2)])) (fun h2 => zo_rt (by rw [zbl_n (fun z => z.elim h1 h2)]))
  · have etv : M.tv a p = 11 := if_pos (he.mpr e)
    have eo : ¬ M.out a p := by
      unfold zD.out
      rw [etv]
      omega
    rw [zbl_n eo]
    exact zo_rt rfl
theorem b_movedBy (H : MSh S m A) (h : D8 (μ A) M) (W : WF B M) {k : Nat} {p : zP} (ha : 0 ≤ a ∧ a < 6) (hk : (M.li a)[k]? = some p) : f_X8_movedBy m a (k : Int) (S, μ) = some (.inl (M.sp a p), (S, μ)) := by
  have hp := W.li a p (List.mem_of_getElem? hk)
  have hpv := hp.v
  have he := hp.e1
  have hal := W.al
  apply zo_un
  refine j_X8_movedBy ?_
  refine zo_ob H.o (by omega) ?_
  refine zo_bn (b_isOwn H h ha hk) ?_
  refine zo_zb (fun e => ?_) (fun e => ?_)
  · have es : M.sp a p = w32 (M.dr p + (w32 ((w32 (M.ru 1 * (w32 (10 - M.T a (p 1))))) * p 2))) := if_neg (fun z => e (he.mp z))
    rw [es]
    refine zo_ob H.o (by omega) ?_
    refine zo_bn (b_rule H h (show 0 ≤ (1 : Int) ∧ (1 : Int) < 5 by decide)) ?_
    refine zo_ob H.o (by omega) ?_
    refine zo_bn (b_trustInVia H h ha hk e (by omega)) ?_
    refine zo_ob H.o (by omega) ?_
    refine zo_bn (b_ofR2 H h ha hk) ?_
    refine j_X8_movedBy_36 ?_
    refine zo_ob H.o (by omega) ?_
    refine zo_bn (b_driftOf H h ha hk) ?_
    exact zo_rt rfl
  · have es : M.sp a p = M.dr p := if_pos (he.mpr e)
    rw [es]
    refine j_X8_movedBy_36 ?_
    refine zo_ob H.o (by omega) ?_
    refine zo_bn (b_driftOf H h ha hk) ?_
    refine zo_rt ?_
    have e0 : w32 (M.dr p + 0) = M.dr p := by
      rw [Int.add_zero]
      exact w32_w _
    rw [e0]
theorem b_isAhead (H : MSh S m A) (h : D8 (μ A) M) (W : WF B M) {k j : Nat} {p q : zP} (ha : 0 ≤ a ∧ a < 6) (hk : (M.li a)[k]? = some p) (hj : (M.li a)[j]? = some q) (hpq : p 0 ≠ q 0) (hop : ¬ M.out a p) (hoq : ¬ M.out a q) : f_X8_isAhead m a (k : Int) (j : Int) (S, μ) = some (.inl (zbl (M.rk a p < M.rk a q)), (S, μ)) := by
  have hp := W.li a p (List.mem_of_getElem? hk)
  have hq := W.li a q (List.mem_of_getElem? hj)
  have hal := W.al
  have p1 := hp.v
  have q1 := hq.v
  have p0 := hp.o
  have q0 := hq.o
  have p2 := hp.h
  have q2 := hq.h
  have pe1 := hp.e1
  have pe2 := hp.e2
  have qe1 := hq.e1
  have qe2 := hq.e2
  have hr2 := W.r2
  have Tp := W.Tr a (p 1)
  have Tq := W.Tr a (q 1)
  have rk : ∀ r : zP, 0 ≤ r 0 ∧ r 0 < 6 → 0 ≤ r 2 ∧ r 2 ≤ 3 → -1 ≤ M.tv a r ∧ M.tv a r ≤ 11 → M.rk a r = (10 - M.tv a r) * 100 + r 2 * 10 + r 0 := by
    intro r h0 h2 ht
    unfold zD.rk
    rw [w32_e (z := 10 - M.tv a r) (by omega), w32_e (z := (10 - M.tv a r) * 100) (by omega), w32_e (z := r 2 * 10) (by omega), w32_e (z := (10 - M.tv a r) * 100 + r 2 * 10) (by omega), w32_e (by omega)]
  have tvn : ∀ r : zP, ¬ r 1 = a → M.tv a r = M.T a (r 1) := fun r hr => if_neg hr
  have tvo : ∀ r : zP, r 1 = a → M.tv a r = 11 := fun r hr => if_pos hr
  unfold zD.out at hop hoq
  apply zo_un
  refine j_X8_isAhead ?_
  refine zo_ob H.o (by omega) ?_
  refine zo_bn (b_isOwn H h ha hk) ?_
  refine zo_zb (fun e => ?_) (fun e => ?_)
  · have tp := tvn p (fun z => e (pe1.mp z))
    rw [tp] at hop
    have rp := rk p (by omega) p2 (by omega)
    refine zo_ob H.o (by omega) ?_
    refine zo_bn (b_isOwn H h ha hj) ?_
    refine zo_zb (fun f => ?_) (fun f => ?_)
    · have tq := tvn q (fun z => f (qe1.mp z))
      rw [tq] at hoq
      have rq := rk q (by omega) q2 (by omega)
      rw [tp] at rp
      rw [tq] at rq
      refine zo_ob H.o (by omega) ?_
      refine zo_bn (b_trustInVia H h ha hk e (by omega)) ?_
      refine zo_ob H.o (by omega) ?_
      refine zo_bn (b_trustInVia H h ha hj f (by omega)) ?_
      rw [w32_e (z := M.T a (p 1) - M.T a (q 1)) (by omega)]
      refine zo_ite (fun h1 => ?_) (fun h1 => ?_)
      · refine zo_ob H.o (by omega) ?_
        refine zo_bn (b_ofR2 H h ha hk) ?_
        refine zo_ob H.o (by omega) ?_
        refine zo_bn (b_ofR2 H h ha hj) ?_
        rw [w32_e (z := p 2 - q 2) (by omega)]
        refine zo_ite (fun h2 => ?_) (fun h2 => ?_)
        · refine zo_ob H.o (by omega) ?_
          refine zo_bn (b_ofR0 H h ha hk) ?_
          refine zo_ob H.o (by omega) ?_
          refine zo_bn (b_ofR0 H h ha hj) ?_
          refine zo_ite (fun h3 => ?_) (fun h3 => ?_)
          · exact zo_rt (by rw [zbl_p (by omega)])
          · exact zo_rt (by rw [zbl_n (by omega)])
        · refine zo_ite (fun h3 => ?_) (fun h3 => ?_)
          · exact zo_rt (by rw [zbl_p (by omega)])
          · exact zo_rt (by rw [zbl_n (by omega)])
      · refine zo_ite (fun h3 => ?_) (fun h3 => ?_)
        · exact zo_rt (by rw [zbl_p (by omega)])
        · exact zo_rt (by rw [zbl_n (by omega)])
    · have tq := tvo q (qe1.mpr f)
      have rq := rk q (by omega) q2 (by omega)
      have q20 := qe2.mpr f
      rw [tp] at rp
      rw [tq] at rq
      refine j_X8_isAhead_18 ?_
      refine zo_ob H.o (by omega) ?_
      refine zo_bn (b_isOwn H h ha hk) ?_
      refine zo_pos (zbl_01 _) ?_
      exact zo_rt (by rw [zbl_n e, zbl_n (show ¬ M.rk a p < M.rk a q by omega)])
  · have tp := tvo p (pe1.mpr e)
    have rp := rk p (by omega) p2 (by omega)
    have p20 := pe2.mpr e
    have f : ¬ q 0 = a := fun z => hpq (e.trans z.symm)
    have tq := tvn q (fun z => f (qe1.mp z))
    rw [tq] at hoq
    have rq := rk q (by omega) q2 (by omega)
    rw [tp] at rp
    rw [tq] at rq
    refine j_X8_isAhead_18 ?_
    refine zo_ob H.o (by omega) ?_
    refine zo_bn (b_isOwn H h ha hk) ?_
    refine zo_pos (zbl_01 _) ?_
    exact zo_rt (by rw [zbl_p e, zbl_p (show M.rk a p < M.rk a q by omega)])
/-- who waits isn't left out -/
def zwo (M : zD) (a w x : Int) (s : zBs) : Prop := ∀ (k : Nat) (p : zP), (M.li a)[k]? = some p → (p 3 = w ∧ ¬ p 1 = x) → s.1 (p 0) = 3 → ¬ M.out a p
theorem b_next (H : MSh S m A) (h : D8 (μ A) M) (W : WF B M) (ha : 0 ≤ a ∧ a < 6) (hb : BRel M a w x μ m s) (hw : zwo M a w x s) : ∃ i : Int, f_X8_nextReport m a (S, μ) = some (.inl i, (S, μ)) ∧ ((znx (M.rk a) s.1 (zent w x (M.li a) 0) none = none ∧ i = -1) ∨ ∃ (j : Nat) (p : zP), znx (M.rk a) s.1 (zent w x (M.li a) 0) none = some p ∧ i = (j : Int) ∧ (M.li a)[j]? = some p ∧ (p 3 = w ∧ ¬ p 1 = x) ∧ s.1 (p 0) = 3) := by
  have h36 := h.ll a ha.1 ha.2
  have main : zo (f_X8_nextReport m a (S, μ)) (fun y => ∃ i : Int, y = (.inl i, (S, μ)) ∧ ((znx (M.rk a) s.1 (zent w x (M.li a) 0) none = none ∧ i = -1) ∨ ∃ (j : Nat) (p : zP), znx (M.rk a) s.1 (zent w x (M.li a) 0) none = some p ∧ i = (j : Int) ∧ (M.li a)[j]? = some p ∧ (p 3 = w ∧ ¬ p 1 = x) ∧ s.1 (p 0) = 3)) := by
    refine j_X8_nextReport ?_
    refine zo_l2 (F := fun n (k : Nat) (nx : Int) => f_X8_nextReport_4 n m a nx (k : Int) (S, μ)) (fun k nx => k ≤ (M.li a).length ∧ ∃ b, znx (M.rk a) s.1 (zent w x ((M.li a).drop k) k) b = znx (M.rk a) s.1 (zent w x (M.li a) 0) none ∧ ((b = none ∧ nx = -1) ∨ ∃ (j : Nat) (p : zP), b = some p ∧ nx = (j : Int) ∧ j < k ∧ (M.li a)[j]? = some p ∧ (p 3 = w ∧ ¬ p 1 = x) ∧ s.1 (p 0) = 3)) (fun k _ => (M.li a).length - k) ?_ zFU 0 (-1) ⟨by omega, none, rfl, Or.inl ⟨rfl, rfl⟩⟩ (by show (M.li a).length - 0 < 1000000; omega)
    rintro n k nx ⟨hk, b, hz, hbn⟩ ih
    refine j_X8_nextReport_4 ?_
    refine zo_ob H.o (by omega) ?_
    refine zo_bn (b_manyOf H h ha) ?_
    by_cases e : k < (M.li a).length
    · obtain ⟨p, hp, hd, hpm⟩ := drop_cons e
      rw [hd, zent_c] at hz
      refine zo_pos (by omega) ?_
      refine zo_gr H.o H.r8 (by omega) (by omega) ?_
      by_cases hr : p 3 = w ∧ ¬ p 1 = x
      · rw [if_pos hr, znx_c] at hz
        dsimp only at hz
        refine zo_ld H.a4 (by omega) (hb.d1 k p hp hr) ?_
        refine zo_zb (fun h3 => ?_) (fun h3 => ?_)
        · have h3' : s.1 (p 0) = 3 := Decidable.byContradiction h3
          rcases hbn with ⟨hb0, hx⟩ | ⟨j, q, hb0, hx, hjk, hj, hrq, hq3⟩
          · refine zo_pos hx ?_
            rw [if_pos ⟨h3', fun q hq => by rw [hb0] at hq; cases hq⟩] at hz
            refine j_X8_nextReport_37 ?_
            refine j_X8_nextReport_39 ?_
            rw [w32_s (k := k) (by omega)]
            exact ih (k + 1) _ ⟨by omega, some p, hz, Or.inr ⟨k, p, rfl, rfl, by omega, hp, hr, h3'⟩⟩ (by omega)
          · refine zo_neg (by omega) ?_
            rw [hx]
            have hpq : p 0 ≠ q 0 := by
              have hnd := List.pairwise_iff_getElem.mp (W.nd a)
              obtain ⟨j1, j2⟩ := List.getElem?_eq_some_iff.mp hj
              obtain ⟨k1, k2⟩ := List.getElem?_eq_some_iff.mp hp
              have h5 := hnd j k j1 k1 hjk
              rw [j2, k2] at h5
              intro z
              exact h5 ⟨z.symm, hrq.1.trans hr.1.symm⟩
            refine zo_ob H.o (by omega) ?_
            refine zo_bn (b_isAhead H h W ha hp hj hpq (hw k p hp hr h3') (hw j q hj hrq hq3)) ?_
            refine zo_zb (fun h4 => ?_) (fun h4 => ?_)
            · rw [if_neg (fun z => h4 (z.2 q hb0))] at hz
              refine j_X8_nextReport_39 ?_
              rw [w32_s (k := k) (by omega)]
              exact ih (k + 1) _ ⟨by omega, b, hz, Or.inr ⟨j, q, hb0, rfl, by omega, hj, hrq, hq3⟩⟩ (by omega)
            · rw [if_pos ⟨h3', fun r hr' => by rw [hb0] at hr'; cases hr'; exact h4⟩] at hz
              refine j_X8_nextReport_37 ?_
              refine j_X8_nextReport_39 ?_
              rw [w32_s (k := k) (by omega)]
              exact ih (k + 1) _ ⟨by omega, some p, hz, Or.inr ⟨k, p, rfl, rfl, by omega, hp, hr, h3'⟩⟩ (by omega)
        · rw [if_neg (fun z => h3 z.1)] at hz
          refine j_X8_nextReport_39 ?_
          rw [w32_s (k := k) (by omega)]
          refine ih (k + 1) _ ⟨by omega, b, hz, ?_⟩ (by omega)
          rcases hbn with h5 | ⟨j, q, hb0, hx, hjk, h6⟩
          · exact Or.inl h5
          · exact Or.inr ⟨j, q, hb0, hx, by omega, h6⟩
      · rw [if_neg hr] at hz
        refine zo_ld H.a4 (by omega) (hb.d2 k p hp hr) ?_
        refine zo_neg (by decide) ?_
        refine j_X8_nextReport_39 ?_
        rw [w32_s (k := k) (by omega)]
        refine ih (k + 1) _ ⟨by omega, b, hz, ?_⟩ (by omega)
        rcases hbn with h5 | ⟨j, q, hb0, hx, hjk, h6⟩
        · exact Or.inl h5
        · exact Or.inr ⟨j, q, hb0, hx, by omega, h6⟩
    · refine zo_neg (by omega) ?_
      have e1 : k = (M.li a).length := by omega
      rw [e1, List.drop_length] at hz
      have hz' : b = znx (M.rk a) s.1 (zent w x (M.li a) 0) none := hz
      refine zo_rt ⟨nx, rfl, ?_⟩
      rw [← hz']
      rcases hbn with h5 | ⟨j, q, hb0, hx, hjk, h6⟩
      · exact Or.inl h5
      · exact Or.inr ⟨j, q, hb0, hx, h6⟩
  obtain ⟨y, e, i, hy, hi⟩ := main
  exact ⟨i, by rw [e, hy], hi⟩
end C52
