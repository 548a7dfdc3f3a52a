/-! C 56: a new desk -/
def MkR (σ : zS) (k : zK) (σ' : zS) : Prop := (σ'.1.2.2 = σ.1.2.2 + 1) ∧ (σ'.1.1 σ.1.2.2 = some k) ∧ (∀ j, σ'.1.2.1 σ.1.2.2 j = -1) ∧ (∀ j, σ'.2 σ.1.2.2 j = 0) ∧ (∀ b, b ≠ σ.1.2.2 → σ'.1.1 b = σ.1.1 b) ∧ (∀ b j, b ≠ σ.1.2.2 → σ'.1.2.1 b j = σ.1.2.1 b j) ∧ (∀ b j, b ≠ σ.1.2.2 → σ'.2 b j = σ.2 b j)
theorem MkR.mk {σ : zS} {k : zK} {σ' : zS} (h : (σ'.1.2.2 = σ.1.2.2 + 1) ∧ (σ'.1.1 σ.1.2.2 = some k) ∧ (∀ j, σ'.1.2.1 σ.1.2.2 j = -1) ∧ (∀ j, σ'.2 σ.1.2.2 j = 0) ∧ (∀ b, b ≠ σ.1.2.2 → σ'.1.1 b = σ.1.1 b) ∧ (∀ b j, b ≠ σ.1.2.2 → σ'.1.2.1 b j = σ.1.2.1 b j) ∧ (∀ b j, b ≠ σ.1.2.2 → σ'.2 b j = σ.2 b j)) : MkR σ k σ' := h
theorem MkR.nx {σ : zS} {k : zK} {σ' : zS} (h : MkR σ k σ') : σ'.1.2.2 = σ.1.2.2 + 1 := h.1
theorem MkR.sh0 {σ : zS} {k : zK} {σ' : zS} (h : MkR σ k σ') : σ'.1.1 σ.1.2.2 = some k := h.2.1
theorem MkR.rf0 {σ : zS} {k : zK} {σ' : zS} (h : MkR σ k σ') : ∀ j, σ'.1.2.1 σ.1.2.2 j = -1 := h.2.2.1
theorem MkR.m0 {σ : zS} {k : zK} {σ' : zS} (h : MkR σ k σ') : ∀ j, σ'.2 σ.1.2.2 j = 0 := h.2.2.2.1
theorem MkR.sh {σ : zS} {k : zK} {σ' : zS} (h : MkR σ k σ') : ∀ b, b ≠ σ.1.2.2 → σ'.1.1 b = σ.1.1 b := h.2.2.2.2.1
theorem MkR.rf {σ : zS} {k : zK} {σ' : zS} (h : MkR σ k σ') : ∀ b j, b ≠ σ.1.2.2 → σ'.1.2.1 b j = σ.1.2.1 b j := h.2.2.2.2.2.1
theorem MkR.m {σ : zS} {k : zK} {σ' : zS} (h : MkR σ k σ') : ∀ b j, b ≠ σ.1.2.2 → σ'.2 b j = σ.2 b j := h.2.2.2.2.2.2
theorem MkR.zmk (σ : zS) (k : zK) : MkR σ k (zmk σ k) := MkR.mk ⟨rfl, if_pos rfl, fun _ => if_pos rfl, fun _ => if_pos rfl, fun _ h => if_neg h, fun _ _ h => if_neg h, fun _ _ h => if_neg h⟩
theorem ne_d {d i j : Int} (h : i ≠ j) : d + i ≠ d + j := by omega
theorem ne_0 {d j : Int} (h : 0 ≠ j) : d ≠ d + j := by omega
theorem ne_1 {d j : Int} (h : j ≠ 0) : d + j ≠ d := by omega
theorem s_d {d i j : Int} (h : i + 1 = j) : d + j = d + i + 1 := by omega
theorem s_d2 {d i j : Int} (h : i + 2 = j) : d + j = d + i + 2 := by omega
theorem le_d {d i : Int} (h : 0 ≤ i) : d ≤ d + i := by omega
theorem le0_d {d a : Int} (hd : 0 ≤ d) (h : d ≤ a) : 0 ≤ a := by omega
def MkN (a c : Int) (σ : zS) (k : zK) (σ' : zS) : Prop := (σ'.1.2.2 = c) ∧ (σ'.1.1 a = some k) ∧ (∀ j, σ'.1.2.1 a j = -1) ∧ (∀ j, σ'.2 a j = 0) ∧ (∀ b, b ≠ a → σ'.1.1 b = σ.1.1 b) ∧ (∀ b j, b ≠ a → σ'.1.2.1 b j = σ.1.2.1 b j) ∧ (∀ b j, b ≠ a → σ'.2 b j = σ.2 b j)
theorem MkN.mk {a c : Int} {σ : zS} {k : zK} {σ' : zS} (h : (σ'.1.2.2 = c) ∧ (σ'.1.1 a = some k) ∧ (∀ j, σ'.1.2.1 a j = -1) ∧ (∀ j, σ'.2 a j = 0) ∧ (∀ b, b ≠ a → σ'.1.1 b = σ.1.1 b) ∧ (∀ b j, b ≠ a → σ'.1.2.1 b j = σ.1.2.1 b j) ∧ (∀ b j, b ≠ a → σ'.2 b j = σ.2 b j)) : MkN a c σ k σ' := h
theorem MkN.nx {a c : Int} {σ : zS} {k : zK} {σ' : zS} (h : MkN a c σ k σ') : σ'.1.2.2 = c := h.1
theorem MkN.sh0 {a c : Int} {σ : zS} {k : zK} {σ' : zS} (h : MkN a c σ k σ') : σ'.1.1 a = some k := h.2.1
theorem MkN.rf0 {a c : Int} {σ : zS} {k : zK} {σ' : zS} (h : MkN a c σ k σ') : ∀ j, σ'.1.2.1 a j = -1 := h.2.2.1
theorem MkN.m0 {a c : Int} {σ : zS} {k : zK} {σ' : zS} (h : MkN a c σ k σ') : ∀ j, σ'.2 a j = 0 := h.2.2.2.1
theorem MkN.sh {a c : Int} {σ : zS} {k : zK} {σ' : zS} (h : MkN a c σ k σ') : ∀ b, b ≠ a → σ'.1.1 b = σ.1.1 b := h.2.2.2.2.1
theorem MkN.rf {a c : Int} {σ : zS} {k : zK} {σ' : zS} (h : MkN a c σ k σ') : ∀ b j, b ≠ a → σ'.1.2.1 b j = σ.1.2.1 b j := h.2.2.2.2.2.1
theorem MkN.m {a c : Int} {σ : zS} {k : zK} {σ' : zS} (h : MkN a c σ k σ') : ∀ b j, b ≠ a → σ'.2 b j = σ.2 b j := h.2.2.2.2.2.2
theorem MkR.n {σ σ' : zS} {k : zK} {a c : Int} (h : MkR σ k σ') (ha : σ.1.2.2 = a) (hc : c = a + 1) : MkN a c σ k σ' := by
  subst ha
  subst hc
  exact MkN.mk ⟨h.nx, h.sh0, h.rf0, h.m0, h.sh, h.rf, h.m⟩
def PrR (a j v : Int) (σ σ' : zS) : Prop := (σ'.1.2.2 = σ.1.2.2) ∧ (σ'.1.1 = σ.1.1) ∧ (σ'.2 = σ.2) ∧ (σ'.1.2.1 a j = v) ∧ (∀ i, i ≠ j → σ'.1.2.1 a i = σ.1.2.1 a i) ∧ (∀ b i, b ≠ a → σ'.1.2.1 b i = σ.1.2.1 b i)
theorem PrR.mk {a j v : Int} {σ σ' : zS} (h : (σ'.1.2.2 = σ.1.2.2) ∧ (σ'.1.1 = σ.1.1) ∧ (σ'.2 = σ.2) ∧ (σ'.1.2.1 a j = v) ∧ (∀ i, i ≠ j → σ'.1.2.1 a i = σ.1.2.1 a i) ∧ (∀ b i, b ≠ a → σ'.1.2.1 b i = σ.1.2.1 b i)) : PrR a j v σ σ' := h
theorem PrR.nx {a j v : Int} {σ σ' : zS} (h : PrR a j v σ σ') : σ'.1.2.2 = σ.1.2.2 := h.1
theorem PrR.sh {a j v : Int} {σ σ' : zS} (h : PrR a j v σ σ') : σ'.1.1 = σ.1.1 := h.2.1
theorem PrR.m {a j v : Int} {σ σ' : zS} (h : PrR a j v σ σ') : σ'.2 = σ.2 := h.2.2.1
theorem PrR.at0 {a j v : Int} {σ σ' : zS} (h : PrR a j v σ σ') : σ'.1.2.1 a j = v := h.2.2.2.1
theorem PrR.rj {a j v : Int} {σ σ' : zS} (h : PrR a j v σ σ') : ∀ i, i ≠ j → σ'.1.2.1 a i = σ.1.2.1 a i := h.2.2.2.2.1
theorem PrR.rf {a j v : Int} {σ σ' : zS} (h : PrR a j v σ σ') : ∀ b i, b ≠ a → σ'.1.2.1 b i = σ.1.2.1 b i := h.2.2.2.2.2
def PfR (a j v : Int) (σ σ' : zS) : Prop := (σ'.1 = σ.1) ∧ (σ'.2 a j = v) ∧ (∀ i, i ≠ j → σ'.2 a i = σ.2 a i) ∧ (∀ b i, b ≠ a → σ'.2 b i = σ.2 b i)
theorem PfR.mk {a j v : Int} {σ σ' : zS} (h : (σ'.1 = σ.1) ∧ (σ'.2 a j = v) ∧ (∀ i, i ≠ j → σ'.2 a i = σ.2 a i) ∧ (∀ b i, b ≠ a → σ'.2 b i = σ.2 b i)) : PfR a j v σ σ' := h
theorem PfR.g {a j v : Int} {σ σ' : zS} (h : PfR a j v σ σ') : σ'.1 = σ.1 := h.1
theorem PfR.at0 {a j v : Int} {σ σ' : zS} (h : PfR a j v σ σ') : σ'.2 a j = v := h.2.1
theorem PfR.m {a j v : Int} {σ σ' : zS} (h : PfR a j v σ σ') : ∀ b i, b ≠ a → σ'.2 b i = σ.2 b i := h.2.2.2
section C56a
variable {σ : zS} {a v : Int} {ci k : Nat} {Q : zR × zS → Prop}
theorem zo_na2 {t N : Nat} {n c : Int} {F : Int → zS → zFn} (hn : 0 ≤ n ∧ n ≤ (N : Int)) (ha : σ.1.2.2 = a) (hc : c = a + 1) (q : ∀ σ', MkN a c σ (t, n) σ' → zo (F a σ') Q) : zo (zna t N n σ F) Q := by
  unfold zna
  rw [if_pos hn, ha]
  exact q _ ((MkR.zmk σ (t, n)).n ha hc)
theorem zo_nw2 {kk : zK} {c : Int} {F : Int → zS → zFn} (ha : σ.1.2.2 = a) (hc : c = a + 1) (q : ∀ σ', MkN a c σ kk σ' → zo (F a σ') Q) : zo (znw σ kk F) Q := by
  unfold znw
  rw [ha]
  exact q _ ((MkR.zmk σ kk).n ha hc)
theorem zo_pr2 {x j : Int} {F : zS → zFn} (h : σ.1.1 a = some (0, x)) (hc : (ci : Int) = x) (hj : (k : Int) = j) (q : ∀ σ', PrR a j v σ σ' → zo (F σ') Q) : zo (zpr ci k a v σ F) Q := by
  subst hc
  subst hj
  unfold zpr
  rw [if_pos h]
  exact q _ (PrR.mk ⟨rfl, rfl, rfl, zup_at, fun i hi => zup_j hi, fun b i hb => zup_b hb⟩)
theorem zo_sr2 {t : Nat} {n i : Int} {F : zS → zFn} (h : σ.1.1 a = some (t, n)) (hi : 0 ≤ i ∧ i < n) (q : ∀ σ', PrR a i v σ σ' → zo (F σ') Q) : zo (zsr_ t a i v σ F) Q := by
  obtain ⟨S, μ⟩ := σ
  unfold zsr_
  rw [if_pos (e_in h hi)]
  exact q _ (PrR.mk ⟨rfl, rfl, rfl, zup_at, fun i hi => zup_j hi, fun b i hb => zup_b hb⟩)
theorem zo_gr2 {x j r : Int} {F : Int → zFn} (h : σ.1.1 a = some (0, x)) (hr : σ.1.2.1 a j = r) (hc : (ci : Int) = x) (hj : (k : Int) = j) (q : zo (F r) Q) : zo (zgr ci k a σ F) Q := by
  obtain ⟨S, μ⟩ := σ
  exact zo_gr h hr hc hj q
theorem zo_al2 {t : Nat} {n : Int} {F : Int → zFn} (h : σ.1.1 a = some (t + 1, n)) (q : zo (F n) Q) : zo (zal a σ F) Q := by
  obtain ⟨S, μ⟩ := σ
  exact zo_al h q
end C56a
def BL (d : Int) (σ σ' : zS) : Prop := (∀ b, b < d → σ'.1.1 b = σ.1.1 b) ∧ (∀ b j, b < d → σ'.1.2.1 b j = σ.1.2.1 b j) ∧ (∀ b j, b < d → σ'.2 b j = σ.2 b j)
theorem BL.mk {d : Int} {σ σ' : zS} (h : (∀ b, b < d → σ'.1.1 b = σ.1.1 b) ∧ (∀ b j, b < d → σ'.1.2.1 b j = σ.1.2.1 b j) ∧ (∀ b j, b < d → σ'.2 b j = σ.2 b j)) : BL d σ σ' := h
theorem BL.sh {d : Int} {σ σ' : zS} (h : BL d σ σ') : ∀ b, b < d → σ'.1.1 b = σ.1.1 b := h.1
theorem BL.rf {d : Int} {σ σ' : zS} (h : BL d σ σ') : ∀ b j, b < d → σ'.1.2.1 b j = σ.1.2.1 b j := h.2.1
theorem BL.m {d : Int} {σ σ' : zS} (h : BL d σ σ') : ∀ b j, b < d → σ'.2 b j = σ.2 b j := h.2.2
theorem BL.rf0 {d : Int} {σ : zS} : BL d σ σ := BL.mk ⟨fun _ _ => rfl, fun _ _ _ => rfl, fun _ _ _ => rfl⟩
theorem BL.tr {d : Int} {σ σ1 σ2 : zS} (h : BL d σ σ1) (k : BL d σ1 σ2) : BL d σ σ2 := BL.mk ⟨fun b hb => (k.sh b hb).trans (h.sh b hb), fun b j hb => (k.rf b j hb).trans (h.rf b j hb), fun b j hb => (k.m b j hb).trans (h.m b j hb)⟩
theorem BL.mkn {d a c : Int} {σ σ' : zS} {k : zK} (h : MkN a c σ k σ') (ha : d ≤ a) : BL d σ σ' := BL.mk ⟨fun b hb => h.sh b (by omega), fun b j hb => h.rf b j (by omega), fun b j hb => h.m b j (by omega)⟩
theorem BL.pr {d a j v : Int} {σ σ' : zS} (h : PrR a j v σ σ') (ha : d ≤ a) : BL d σ σ' := BL.mk ⟨fun b _ => congrFun h.sh b, fun b i hb => h.rf b i (by omega), fun b i _ => congrFun (congrFun h.m b) i⟩
def OwnR (a b c : Int) (k : zK) (σ σ' : zS) : Prop := (σ'.1.2.2 = c) ∧ (σ'.1.1 b = some k) ∧ (∀ j, σ'.2 b j = 0) ∧ (σ'.1.2.1 a 0 = b) ∧ (∀ i, i ≠ 0 → σ'.1.2.1 a i = σ.1.2.1 a i) ∧ (∀ x, x ≠ b → σ'.1.1 x = σ.1.1 x) ∧ (∀ x j, x ≠ a → x ≠ b → σ'.1.2.1 x j = σ.1.2.1 x j) ∧ (∀ x j, x ≠ b → σ'.2 x j = σ.2 x j)
theorem OwnR.mk {a b c : Int} {k : zK} {σ σ' : zS} (h : (σ'.1.2.2 = c) ∧ (σ'.1.1 b = some k) ∧ (∀ j, σ'.2 b j = 0) ∧ (σ'.1.2.1 a 0 = b) ∧ (∀ i, i ≠ 0 → σ'.1.2.1 a i = σ.1.2.1 a i) ∧ (∀ x, x ≠ b → σ'.1.1 x = σ.1.1 x) ∧ (∀ x j, x ≠ a → x ≠ b → σ'.1.2.1 x j = σ.1.2.1 x j) ∧ (∀ x j, x ≠ b → σ'.2 x j = σ.2 x j)) : OwnR a b c k σ σ' := h
theorem OwnR.nx {a b c : Int} {k : zK} {σ σ' : zS} (h : OwnR a b c k σ σ') : σ'.1.2.2 = c := h.1
theorem OwnR.sh0 {a b c : Int} {k : zK} {σ σ' : zS} (h : OwnR a b c k σ σ') : σ'.1.1 b = some k := h.2.1
theorem OwnR.m0 {a b c : Int} {k : zK} {σ σ' : zS} (h : OwnR a b c k σ σ') : ∀ j, σ'.2 b j = 0 := h.2.2.1
theorem OwnR.at0 {a b c : Int} {k : zK} {σ σ' : zS} (h : OwnR a b c k σ σ') : σ'.1.2.1 a 0 = b := h.2.2.2.1
theorem OwnR.rj {a b c : Int} {k : zK} {σ σ' : zS} (h : OwnR a b c k σ σ') : ∀ i, i ≠ 0 → σ'.1.2.1 a i = σ.1.2.1 a i := h.2.2.2.2.1
theorem OwnR.sh {a b c : Int} {k : zK} {σ σ' : zS} (h : OwnR a b c k σ σ') : ∀ x, x ≠ b → σ'.1.1 x = σ.1.1 x := h.2.2.2.2.2.1
theorem OwnR.rf {a b c : Int} {k : zK} {σ σ' : zS} (h : OwnR a b c k σ σ') : ∀ x j, x ≠ a → x ≠ b → σ'.1.2.1 x j = σ.1.2.1 x j := h.2.2.2.2.2.2.1
theorem OwnR.m {a b c : Int} {k : zK} {σ σ' : zS} (h : OwnR a b c k σ σ') : ∀ x j, x ≠ b → σ'.2 x j = σ.2 x j := h.2.2.2.2.2.2.2
theorem OwnR.of {a b c : Int} {k : zK} {σ σ1 σ2 : zS} (h : MkN b c σ k σ1) (p : PrR a 0 b σ1 σ2) (hab : a ≠ b) : OwnR a b c k σ σ2 := by
  refine OwnR.mk ⟨?_, ?_, ?_, p.at0, ?_, ?_, ?_, ?_⟩
  · rw [p.nx, h.nx]
  · rw [p.sh]; exact h.sh0
  · intro j; rw [p.m]; exact h.m0 j
  · intro i hi; rw [p.rj i hi]; exact h.rf _ _ hab
  · intro b hb; rw [p.sh]; exact h.sh b hb
  · intro b j h1 h2; rw [p.rf b j h1]; exact h.rf b j h2
  · intro b j hb; rw [p.m]; exact h.m b j hb
theorem BL.own {d a b c : Int} {k : zK} {σ σ' : zS} (h : OwnR a b c k σ σ') (ha : d ≤ a) (hb : d ≤ b) : BL d σ σ' := BL.mk ⟨fun x hx => h.sh x (by omega), fun x j hx => h.rf x j (by omega) (by omega), fun x j hx => h.m x j (by omega)⟩
theorem zo_own {F : zFn} {H : Int → zS → zFn} {a b c : Int} {k : zK} {σ : zS} {Q : zR × zS → Prop} (h : ∃ σ', F = some (.inl 0, σ') ∧ OwnR a b c k σ σ') (q : ∀ σ', OwnR a b c k σ σ' → zo (H 0 σ') Q) : zo (zbn F H) Q := by
  obtain ⟨σ', e, h⟩ := h
  exact zo_bn e (q σ' h)
theorem c_X3_init {σ : zS} {a b c : Int} (ha : 0 ≤ a) (hs : σ.1.1 a = some (0, 3)) (hn : σ.1.2.2 = b) (hb : b = a + 1) (hc : c = a + 2) : ∃ σ', f_X3_init a σ = some (.inl 0, σ') ∧ OwnR a b c (1, 6) σ σ' := by
  have main : zo (f_X3_init a σ) (fun r => ∃ σ', r = (.inl 0, σ') ∧ OwnR a b c (1, 6) σ σ') := by
    refine j_X3_init ?_
    refine zo_pos ha ?_
    refine zo_na2 (c := c) (by omega) hn (by omega) ?_
    intro σ1 k1
    refine zo_pr2 (j := 0) ((k1.sh a (by omega)).trans hs) (by omega) (by omega) ?_
    intro σ2 k2
    exact zo_rt ⟨σ2, rfl, OwnR.of k1 k2 (by omega)⟩
  obtain ⟨r, e, σ', hr, h⟩ := main
  exact ⟨σ', by rw [e, hr], h⟩
theorem c_X5_init {σ : zS} {a b c n : Int} (ha : 0 ≤ a) (hs : σ.1.1 a = some (0, 5)) (hn : σ.1.2.2 = b) (hb : b = a + 1) (hc : c = a + 2) (h0 : 0 ≤ n ∧ n ≤ 100) : ∃ σ', f_X5_init a n σ = some (.inl 0, σ') ∧ OwnR a b c (1, 8 * n) σ σ' := by
  have main : zo (f_X5_init a n σ) (fun r => ∃ σ', r = (.inl 0, σ') ∧ OwnR a b c (1, 8 * n) σ σ') := by
    have ew : w32 (n * 8) = 8 * n := by rw [w32_e (by omega)]; omega
    refine j_X5_init ?_
    rw [ew]
    refine zo_pos ha ?_
    refine zo_neg (by omega) ?_
    refine zo_na2 (c := c) (by omega) hn (by omega) ?_
    intro σ1 k1
    refine zo_pr2 (j := 0) ((k1.sh a (by omega)).trans hs) (by omega) (by omega) ?_
    intro σ2 k2
    exact zo_rt ⟨σ2, rfl, OwnR.of k1 k2 (by omega)⟩
  obtain ⟨r, e, σ', hr, h⟩ := main
  exact ⟨σ', by rw [e, hr], h⟩
set_option maxHeartbeats 4000000 in
theorem c_X1_init {σ0 : zS} {d : Int} (hd : 0 ≤ d) (hs : σ0.1.1 d = some (0, 1)) (hn : σ0.1.2.2 = d + 1) : ∃ σ', f_X1_init d σ0 = some (.inl 0, σ') ∧ (D7 σ'.1 σ'.2 d zD0 ∧ σ'.1.2.2 = d + 25 ∧ BL d σ0 σ') := by
  have main : zo (f_X1_init d σ0) (fun r => ∃ σ', r = (.inl 0, σ') ∧ (D7 σ'.1 σ'.2 d zD0 ∧ σ'.1.2.2 = d + 25 ∧ BL d σ0 σ')) := by
    have b0 : BL d σ0 σ0 := BL.rf0
    refine j_X1_init ?_
    refine zo_pos hd ?_
    refine zo_na2 (a := d + 1) (c := d + 2) (by decide) hn (s_d (by decide)) ?_
    rintro σ1 k1
    have f1 : σ1.1.1 (d) = some (0, 1) := (k1.sh _ (ne_0 (by decide))).trans hs
    have f2 : σ1.1.2.2 = d + 2 := k1.nx
    have f3 : σ1.1.1 (d + 1) = some (1, 5) := k1.sh0
    have f4 : ∀ j, σ1.2 (d + 1) j = 0 := k1.m0
    have b1 : BL d σ0 σ1 := BL.tr b0 (BL.mkn k1 (le_d (by decide)))
    refine zo_pr2 (j := 0) f1 rfl rfl ?_
    rintro σ2 k2
    have f5 : σ2.1.1 (d) = some (0, 1) := (congrFun k2.sh _).trans f1
    have f6 : σ2.1.2.2 = d + 2 := k2.nx.trans f2
    have f7 : σ2.1.1 (d + 1) = some (1, 5) := (congrFun k2.sh _).trans f3
    have f8 : ∀ j, σ2.2 (d + 1) j = 0 := fun j => (congrFun (congrFun k2.m _) _).trans (f4 j)
    clear f1 f2 f3 f4
    have f9 : σ2.1.2.1 (d) (0) = d + 1 := k2.at0
    have b2 : BL d σ0 σ2 := BL.tr b1 (BL.pr k2 (Int.le_refl _))
    refine zo_nw2 (a := d + 2) (c := d + 3) f6 (s_d (by decide)) ?_
    rintro σ3 k3
    have f10 : σ3.1.1 (d) = some (0, 1) := (k3.sh _ (ne_0 (by decide))).trans f5
    have f11 : σ3.1.1 (d + 1) = some (1, 5) := (k3.sh _ (ne_d (by decide))).trans f7
    have f12 : ∀ j, σ3.2 (d + 1) j = 0 := fun j => (k3.m _ _ (ne_d (by decide))).trans (f8 j)
    have f13 : σ3.1.2.1 (d) (0) = d + 1 := (k3.rf _ _ (ne_0 (by decide))).trans f9
    clear f5 f6 f7 f8 f9
    have f14 : σ3.1.2.2 = d + 3 := k3.nx
    have f15 : σ3.1.1 (d + 2) = some (0, 3) := k3.sh0
    have f16 : ∀ j, σ3.2 (d + 2) j = 0 := k3.m0
    have b3 : BL d σ0 σ3 := BL.tr b2 (BL.mkn k3 (le_d (by decide)))
    refine zo_pos (le0_d hd (le_d (by decide))) ?_
    refine zo_own (c_X3_init (b := d + 3) (c := d + 4) (le0_d hd (le_d (by decide))) f15 f14 (s_d (by decide)) (s_d2 (by decide)) ) ?_
    rintro σ4 k4
    have f17 : σ4.1.1 (d) = some (0, 1) := (k4.sh _ (ne_0 (by decide))).trans f10
    have f18 : σ4.1.1 (d + 1) = some (1, 5) := (k4.sh _ (ne_d (by decide))).trans f11
    have f19 : ∀ j, σ4.2 (d + 1) j = 0 := fun j => (k4.m _ _ (ne_d (by decide))).trans (f12 j)
    have f20 : σ4.1.2.1 (d) (0) = d + 1 := (k4.rf _ _ (ne_0 (by decide)) (ne_0 (by decide))).trans f13
    have f21 : σ4.1.1 (d + 2) = some (0, 3) := (k4.sh _ (ne_d (by decide))).trans f15
    have f22 : ∀ j, σ4.2 (d + 2) j = 0 := fun j => (k4.m _ _ (ne_d (by decide))).trans (f16 j)
    clear f10 f11 f12 f13 f14 f15 f16
    have f23 : σ4.1.2.2 = d + 4 := k4.nx
    have f24 : σ4.1.1 (d + 3) = some (1, 6) := k4.sh0
    have f25 : ∀ j, σ4.2 (d + 3) j = 0 := k4.m0
    have f26 : σ4.1.2.1 (d + 2) (0) = d + 3 := k4.at0
    have b4 : BL d σ0 σ4 := BL.tr b3 (BL.own k4 (le_d (by decide)) (le_d (by decide)))
    refine zo_pr2 (j := 1) f17 rfl rfl ?_
    rintro σ5 k5
    have f27 : σ5.1.1 (d) = some (0, 1) := (congrFun k5.sh _).trans f17
    have f28 : σ5.1.1 (d + 1) = some (1, 5) := (congrFun k5.sh _).trans f18
    have f29 : ∀ j, σ5.2 (d + 1) j = 0 := fun j => (congrFun (congrFun k5.m _) _).trans (f19 j)
    have f30 : σ5.1.2.1 (d) (0) = d + 1 := (k5.rj _ (by decide)).trans f20
    have f31 : σ5.1.1 (d + 2) = some (0, 3) := (congrFun k5.sh _).trans f21
    have f32 : ∀ j, σ5.2 (d + 2) j = 0 := fun j => (congrFun (congrFun k5.m _) _).trans (f22 j)
    have f33 : σ5.1.2.2 = d + 4 := k5.nx.trans f23
    have f34 : σ5.1.1 (d + 3) = some (1, 6) := (congrFun k5.sh _).trans f24
    have f35 : ∀ j, σ5.2 (d + 3) j = 0 := fun j => (congrFun (congrFun k5.m _) _).trans (f25 j)
    have f36 : σ5.1.2.1 (d + 2) (0) = d + 3 := (k5.rf _ _ (ne_1 (by decide))).trans f26
    clear f17 f18 f19 f20 f21 f22 f23 f24 f25 f26
    have f37 : σ5.1.2.1 (d) (1) = d + 2 := k5.at0
    have b5 : BL d σ0 σ5 := BL.tr b4 (BL.pr k5 (Int.le_refl _))
    refine zo_nw2 (a := d + 4) (c := d + 5) f33 (s_d (by decide)) ?_
    rintro σ6 k6
    have f38 : σ6.1.1 (d) = some (0, 1) := (k6.sh _ (ne_0 (by decide))).trans f27
    have f39 : σ6.1.1 (d + 1) = some (1, 5) := (k6.sh _ (ne_d (by decide))).trans f28
    have f40 : ∀ j, σ6.2 (d + 1) j = 0 := fun j => (k6.m _ _ (ne_d (by decide))).trans (f29 j)
    have f41 : σ6.1.2.1 (d) (0) = d + 1 := (k6.rf _ _ (ne_0 (by decide))).trans f30
    have f42 : σ6.1.1 (d + 2) = some (0, 3) := (k6.sh _ (ne_d (by decide))).trans f31
    have f43 : ∀ j, σ6.2 (d + 2) j = 0 := fun j => (k6.m _ _ (ne_d (by decide))).trans (f32 j)
    have f44 : σ6.1.1 (d + 3) = some (1, 6) := (k6.sh _ (ne_d (by decide))).trans f34
    have f45 : ∀ j, σ6.2 (d + 3) j = 0 := fun j => (k6.m _ _ (ne_d (by decide))).trans (f35 j)
    have f46 : σ6.1.2.1 (d + 2) (0) = d + 3 := (k6.rf _ _ (ne_d (by decide))).trans f36
    have f47 : σ6.1.2.1 (d) (1) = d + 2 := (k6.rf _ _ (ne_0 (by decide))).trans f37
    clear f27 f28 f29 f30 f31 f32 f33 f34 f35 f36 f37
    have f48 : σ6.1.2.2 = d + 5 := k6.nx
    have f49 : σ6.1.1 (d + 4) = some (0, 3) := k6.sh0
    have f50 : ∀ j, σ6.2 (d + 4) j = 0 := k6.m0
    have b6 : BL d σ0 σ6 := BL.tr b5 (BL.mkn k6 (le_d (by decide)))
    refine zo_pos (le0_d hd (le_d (by decide))) ?_
    refine zo_own (c_X3_init (b := d + 5) (c := d + 6) (le0_d hd (le_d (by decide))) f49 f48 (s_d (by decide)) (s_d2 (by decide)) ) ?_
    rintro σ7 k7
    have f51 : σ7.1.1 (d) = some (0, 1) := (k7.sh _ (ne_0 (by decide))).trans f38
    have f52 : σ7.1.1 (d + 1) = some (1, 5) := (k7.sh _ (ne_d (by decide))).trans f39
    have f53 : ∀ j, σ7.2 (d + 1) j = 0 := fun j => (k7.m _ _ (ne_d (by decide))).trans (f40 j)
    have f54 : σ7.1.2.1 (d) (0) = d + 1 := (k7.rf _ _ (ne_0 (by decide)) (ne_0 (by decide))).trans f41
    have f55 : σ7.1.1 (d + 2) = some (0, 3) := (k7.sh _ (ne_d (by decide))).trans f42
    have f56 : ∀ j, σ7.2 (d + 2) j = 0 := fun j => (k7.m _ _ (ne_d (by decide))).trans (f43 j)
    have f57 : σ7.1.1 (d + 3) = some (1, 6) := (k7.sh _ (ne_d (by decide))).trans f44
    have f58 : ∀ j, σ7.2 (d + 3) j = 0 := fun j => (k7.m _ _ (ne_d (by decide))).trans (f45 j)
    have f59 : σ7.1.2.1 (d + 2) (0) = d + 3 := (k7.rf _ _ (ne_d (by decide)) (ne_d (by decide))).trans f46
    have f60 : σ7.1.2.1 (d) (1) = d + 2 := (k7.rf _ _ (ne_0 (by decide)) (ne_0 (by decide))).trans f47
    have f61 : σ7.1.1 (d + 4) = some (0, 3) := (k7.sh _ (ne_d (by decide))).trans f49
    have f62 : ∀ j, σ7.2 (d + 4) j = 0 := fun j => (k7.m _ _ (ne_d (by decide))).trans (f50 j)
    clear f38 f39 f40 f41 f42 f43 f44 f45 f46 f47 f48 f49 f50
    have f63 : σ7.1.2.2 = d + 6 := k7.nx
    have f64 : σ7.1.1 (d + 5) = some (1, 6) := k7.sh0
    have f65 : ∀ j, σ7.2 (d + 5) j = 0 := k7.m0
    have f66 : σ7.1.2.1 (d + 4) (0) = d + 5 := k7.at0
    have b7 : BL d σ0 σ7 := BL.tr b6 (BL.own k7 (le_d (by decide)) (le_d (by decide)))
    refine zo_pr2 (j := 2) f51 rfl rfl ?_
    rintro σ8 k8
    have f67 : σ8.1.1 (d) = some (0, 1) := (congrFun k8.sh _).trans f51
    have f68 : σ8.1.1 (d + 1) = some (1, 5) := (congrFun k8.sh _).trans f52
    have f69 : ∀ j, σ8.2 (d + 1) j = 0 := fun j => (congrFun (congrFun k8.m _) _).trans (f53 j)
    have f70 : σ8.1.2.1 (d) (0) = d + 1 := (k8.rj _ (by decide)).trans f54
    have f71 : σ8.1.1 (d + 2) = some (0, 3) := (congrFun k8.sh _).trans f55
    have f72 : ∀ j, σ8.2 (d + 2) j = 0 := fun j => (congrFun (congrFun k8.m _) _).trans (f56 j)
    have f73 : σ8.1.1 (d + 3) = some (1, 6) := (congrFun k8.sh _).trans f57
    have f74 : ∀ j, σ8.2 (d + 3) j = 0 := fun j => (congrFun (congrFun k8.m _) _).trans (f58 j)
    have f75 : σ8.1.2.1 (d + 2) (0) = d + 3 := (k8.rf _ _ (ne_1 (by decide))).trans f59
    have f76 : σ8.1.2.1 (d) (1) = d + 2 := (k8.rj _ (by decide)).trans f60
    have f77 : σ8.1.1 (d + 4) = some (0, 3) := (congrFun k8.sh _).trans f61
    have f78 : ∀ j, σ8.2 (d + 4) j = 0 := fun j => (congrFun (congrFun k8.m _) _).trans (f62 j)
    have f79 : σ8.1.2.2 = d + 6 := k8.nx.trans f63
    have f80 : σ8.1.1 (d + 5) = some (1, 6) := (congrFun k8.sh _).trans f64
    have f81 : ∀ j, σ8.2 (d + 5) j = 0 := fun j => (congrFun (congrFun k8.m _) _).trans (f65 j)
    have f82 : σ8.1.2.1 (d + 4) (0) = d + 5 := (k8.rf _ _ (ne_1 (by decide))).trans f66
    clear f51 f52 f53 f54 f55 f56 f57 f58 f59 f60 f61 f62 f63 f64 f65 f66
    have f83 : σ8.1.2.1 (d) (2) = d + 4 := k8.at0
    have b8 : BL d σ0 σ8 := BL.tr b7 (BL.pr k8 (Int.le_refl _))
    refine zo_na2 (a := d + 6) (c := d + 7) (by decide) f79 (s_d (by decide)) ?_
    rintro σ9 k9
    have f84 : σ9.1.1 (d) = some (0, 1) := (k9.sh _ (ne_0 (by decide))).trans f67
    have f85 : σ9.1.1 (d + 1) = some (1, 5) := (k9.sh _ (ne_d (by decide))).trans f68
    have f86 : ∀ j, σ9.2 (d + 1) j = 0 := fun j => (k9.m _ _ (ne_d (by decide))).trans (f69 j)
    have f87 : σ9.1.2.1 (d) (0) = d + 1 := (k9.rf _ _ (ne_0 (by decide))).trans f70
    have f88 : σ9.1.1 (d + 2) = some (0, 3) := (k9.sh _ (ne_d (by decide))).trans f71
    have f89 : ∀ j, σ9.2 (d + 2) j = 0 := fun j => (k9.m _ _ (ne_d (by decide))).trans (f72 j)
    have f90 : σ9.1.1 (d + 3) = some (1, 6) := (k9.sh _ (ne_d (by decide))).trans f73
    have f91 : ∀ j, σ9.2 (d + 3) j = 0 := fun j => (k9.m _ _ (ne_d (by decide))).trans (f74 j)
    have f92 : σ9.1.2.1 (d + 2) (0) = d + 3 := (k9.rf _ _ (ne_d (by decide))).trans f75
    have f93 : σ9.1.2.1 (d) (1) = d + 2 := (k9.rf _ _ (ne_0 (by decide))).trans f76
    have f94 : σ9.1.1 (d + 4) = some (0, 3) := (k9.sh _ (ne_d (by decide))).trans f77
    have f95 : ∀ j, σ9.2 (d + 4) j = 0 := fun j => (k9.m _ _ (ne_d (by decide))).trans (f78 j)
    have f96 : σ9.1.1 (d + 5) = some (1, 6) := (k9.sh _ (ne_d (by decide))).trans f80
    have f97 : ∀ j, σ9.2 (d + 5) j = 0 := fun j => (k9.m _ _ (ne_d (by decide))).trans (f81 j)
    have f98 : σ9.1.2.1 (d + 4) (0) = d + 5 := (k9.rf _ _ (ne_d (by decide))).trans f82
    have f99 : σ9.1.2.1 (d) (2) = d + 4 := (k9.rf _ _ (ne_0 (by decide))).trans f83
    clear f67 f68 f69 f70 f71 f72 f73 f74 f75 f76 f77 f78 f79 f80 f81 f82 f83
    have f100 : σ9.1.2.2 = d + 7 := k9.nx
    have f101 : σ9.1.1 (d + 6) = some (1, 36) := k9.sh0
    have f102 : ∀ j, σ9.2 (d + 6) j = 0 := k9.m0
    have b9 : BL d σ0 σ9 := BL.tr b8 (BL.mkn k9 (le_d (by decide)))
    refine zo_pr2 (j := 3) f84 rfl rfl ?_
    rintro σ10 k10
    have f103 : σ10.1.1 (d) = some (0, 1) := (congrFun k10.sh _).trans f84
    have f104 : σ10.1.1 (d + 1) = some (1, 5) := (congrFun k10.sh _).trans f85
    have f105 : ∀ j, σ10.2 (d + 1) j = 0 := fun j => (congrFun (congrFun k10.m _) _).trans (f86 j)
    have f106 : σ10.1.2.1 (d) (0) = d + 1 := (k10.rj _ (by decide)).trans f87
    have f107 : σ10.1.1 (d + 2) = some (0, 3) := (congrFun k10.sh _).trans f88
    have f108 : ∀ j, σ10.2 (d + 2) j = 0 := fun j => (congrFun (congrFun k10.m _) _).trans (f89 j)
    have f109 : σ10.1.1 (d + 3) = some (1, 6) := (congrFun k10.sh _).trans f90
    have f110 : ∀ j, σ10.2 (d + 3) j = 0 := fun j => (congrFun (congrFun k10.m _) _).trans (f91 j)
    have f111 : σ10.1.2.1 (d + 2) (0) = d + 3 := (k10.rf _ _ (ne_1 (by decide))).trans f92
    have f112 : σ10.1.2.1 (d) (1) = d + 2 := (k10.rj _ (by decide)).trans f93
    have f113 : σ10.1.1 (d + 4) = some (0, 3) := (congrFun k10.sh _).trans f94
    have f114 : ∀ j, σ10.2 (d + 4) j = 0 := fun j => (congrFun (congrFun k10.m _) _).trans (f95 j)
    have f115 : σ10.1.1 (d + 5) = some (1, 6) := (congrFun k10.sh _).trans f96
    have f116 : ∀ j, σ10.2 (d + 5) j = 0 := fun j => (congrFun (congrFun k10.m _) _).trans (f97 j)
    have f117 : σ10.1.2.1 (d + 4) (0) = d + 5 := (k10.rf _ _ (ne_1 (by decide))).trans f98
    have f118 : σ10.1.2.1 (d) (2) = d + 4 := (k10.rj _ (by decide)).trans f99
    have f119 : σ10.1.2.2 = d + 7 := k10.nx.trans f100
    have f120 : σ10.1.1 (d + 6) = some (1, 36) := (congrFun k10.sh _).trans f101
    have f121 : ∀ j, σ10.2 (d + 6) j = 0 := fun j => (congrFun (congrFun k10.m _) _).trans (f102 j)
    clear f84 f85 f86 f87 f88 f89 f90 f91 f92 f93 f94 f95 f96 f97 f98 f99 f100 f101 f102
    have f122 : σ10.1.2.1 (d) (3) = d + 6 := k10.at0
    have b10 : BL d σ0 σ10 := BL.tr b9 (BL.pr k10 (Int.le_refl _))
    refine zo_na2 (a := d + 7) (c := d + 8) (by decide) f119 (s_d (by decide)) ?_
    rintro σ11 k11
    have f123 : σ11.1.1 (d) = some (0, 1) := (k11.sh _ (ne_0 (by decide))).trans f103
    have f124 : σ11.1.1 (d + 1) = some (1, 5) := (k11.sh _ (ne_d (by decide))).trans f104
    have f125 : ∀ j, σ11.2 (d + 1) j = 0 := fun j => (k11.m _ _ (ne_d (by decide))).trans (f105 j)
    have f126 : σ11.1.2.1 (d) (0) = d + 1 := (k11.rf _ _ (ne_0 (by decide))).trans f106
    have f127 : σ11.1.1 (d + 2) = some (0, 3) := (k11.sh _ (ne_d (by decide))).trans f107
    have f128 : ∀ j, σ11.2 (d + 2) j = 0 := fun j => (k11.m _ _ (ne_d (by decide))).trans (f108 j)
    have f129 : σ11.1.1 (d + 3) = some (1, 6) := (k11.sh _ (ne_d (by decide))).trans f109
    have f130 : ∀ j, σ11.2 (d + 3) j = 0 := fun j => (k11.m _ _ (ne_d (by decide))).trans (f110 j)
    have f131 : σ11.1.2.1 (d + 2) (0) = d + 3 := (k11.rf _ _ (ne_d (by decide))).trans f111
    have f132 : σ11.1.2.1 (d) (1) = d + 2 := (k11.rf _ _ (ne_0 (by decide))).trans f112
    have f133 : σ11.1.1 (d + 4) = some (0, 3) := (k11.sh _ (ne_d (by decide))).trans f113
    have f134 : ∀ j, σ11.2 (d + 4) j = 0 := fun j => (k11.m _ _ (ne_d (by decide))).trans (f114 j)
    have f135 : σ11.1.1 (d + 5) = some (1, 6) := (k11.sh _ (ne_d (by decide))).trans f115
    have f136 : ∀ j, σ11.2 (d + 5) j = 0 := fun j => (k11.m _ _ (ne_d (by decide))).trans (f116 j)
    have f137 : σ11.1.2.1 (d + 4) (0) = d + 5 := (k11.rf _ _ (ne_d (by decide))).trans f117
    have f138 : σ11.1.2.1 (d) (2) = d + 4 := (k11.rf _ _ (ne_0 (by decide))).trans f118
    have f139 : σ11.1.1 (d + 6) = some (1, 36) := (k11.sh _ (ne_d (by decide))).trans f120
    have f140 : ∀ j, σ11.2 (d + 6) j = 0 := fun j => (k11.m _ _ (ne_d (by decide))).trans (f121 j)
    have f141 : σ11.1.2.1 (d) (3) = d + 6 := (k11.rf _ _ (ne_0 (by decide))).trans f122
    clear f103 f104 f105 f106 f107 f108 f109 f110 f111 f112 f113 f114 f115 f116 f117 f118 f119 f120 f121 f122
    have f142 : σ11.1.2.2 = d + 8 := k11.nx
    have f143 : σ11.1.1 (d + 7) = some (6, 6) := k11.sh0
    have f144 : ∀ j, σ11.2 (d + 7) j = 0 := k11.m0
    have b11 : BL d σ0 σ11 := BL.tr b10 (BL.mkn k11 (le_d (by decide)))
    refine zo_pr2 (j := 4) f123 rfl rfl ?_
    rintro σ12 k12
    have f145 : σ12.1.1 (d) = some (0, 1) := (congrFun k12.sh _).trans f123
    have f146 : σ12.1.1 (d + 1) = some (1, 5) := (congrFun k12.sh _).trans f124
    have f147 : ∀ j, σ12.2 (d + 1) j = 0 := fun j => (congrFun (congrFun k12.m _) _).trans (f125 j)
    have f148 : σ12.1.2.1 (d) (0) = d + 1 := (k12.rj _ (by decide)).trans f126
    have f149 : σ12.1.1 (d + 2) = some (0, 3) := (congrFun k12.sh _).trans f127
    have f150 : ∀ j, σ12.2 (d + 2) j = 0 := fun j => (congrFun (congrFun k12.m _) _).trans (f128 j)
    have f151 : σ12.1.1 (d + 3) = some (1, 6) := (congrFun k12.sh _).trans f129
    have f152 : ∀ j, σ12.2 (d + 3) j = 0 := fun j => (congrFun (congrFun k12.m _) _).trans (f130 j)
    have f153 : σ12.1.2.1 (d + 2) (0) = d + 3 := (k12.rf _ _ (ne_1 (by decide))).trans f131
    have f154 : σ12.1.2.1 (d) (1) = d + 2 := (k12.rj _ (by decide)).trans f132
    have f155 : σ12.1.1 (d + 4) = some (0, 3) := (congrFun k12.sh _).trans f133
    have f156 : ∀ j, σ12.2 (d + 4) j = 0 := fun j => (congrFun (congrFun k12.m _) _).trans (f134 j)
    have f157 : σ12.1.1 (d + 5) = some (1, 6) := (congrFun k12.sh _).trans f135
    have f158 : ∀ j, σ12.2 (d + 5) j = 0 := fun j => (congrFun (congrFun k12.m _) _).trans (f136 j)
    have f159 : σ12.1.2.1 (d + 4) (0) = d + 5 := (k12.rf _ _ (ne_1 (by decide))).trans f137
    have f160 : σ12.1.2.1 (d) (2) = d + 4 := (k12.rj _ (by decide)).trans f138
    have f161 : σ12.1.1 (d + 6) = some (1, 36) := (congrFun k12.sh _).trans f139
    have f162 : ∀ j, σ12.2 (d + 6) j = 0 := fun j => (congrFun (congrFun k12.m _) _).trans (f140 j)
    have f163 : σ12.1.2.1 (d) (3) = d + 6 := (k12.rj _ (by decide)).trans f141
    have f164 : σ12.1.2.2 = d + 8 := k12.nx.trans f142
    have f165 : σ12.1.1 (d + 7) = some (6, 6) := (congrFun k12.sh _).trans f143
    have f166 : ∀ j, σ12.2 (d + 7) j = 0 := fun j => (congrFun (congrFun k12.m _) _).trans (f144 j)
    clear f123 f124 f125 f126 f127 f128 f129 f130 f131 f132 f133 f134 f135 f136 f137 f138 f139 f140 f141 f142 f143 f144
    have f167 : σ12.1.2.1 (d) (4) = d + 7 := k12.at0
    have b12 : BL d σ0 σ12 := BL.tr b11 (BL.pr k12 (Int.le_refl _))
    refine zo_nw2 (a := d + 8) (c := d + 9) f164 (s_d (by decide)) ?_
    rintro σ13 k13
    have f168 : σ13.1.1 (d) = some (0, 1) := (k13.sh _ (ne_0 (by decide))).trans f145
    have f169 : σ13.1.1 (d + 1) = some (1, 5) := (k13.sh _ (ne_d (by decide))).trans f146
    have f170 : ∀ j, σ13.2 (d + 1) j = 0 := fun j => (k13.m _ _ (ne_d (by decide))).trans (f147 j)
    have f171 : σ13.1.2.1 (d) (0) = d + 1 := (k13.rf _ _ (ne_0 (by decide))).trans f148
    have f172 : σ13.1.1 (d + 2) = some (0, 3) := (k13.sh _ (ne_d (by decide))).trans f149
    have f173 : ∀ j, σ13.2 (d + 2) j = 0 := fun j => (k13.m _ _ (ne_d (by decide))).trans (f150 j)
    have f174 : σ13.1.1 (d + 3) = some (1, 6) := (k13.sh _ (ne_d (by decide))).trans f151
    have f175 : ∀ j, σ13.2 (d + 3) j = 0 := fun j => (k13.m _ _ (ne_d (by decide))).trans (f152 j)
    have f176 : σ13.1.2.1 (d + 2) (0) = d + 3 := (k13.rf _ _ (ne_d (by decide))).trans f153
    have f177 : σ13.1.2.1 (d) (1) = d + 2 := (k13.rf _ _ (ne_0 (by decide))).trans f154
    have f178 : σ13.1.1 (d + 4) = some (0, 3) := (k13.sh _ (ne_d (by decide))).trans f155
    have f179 : ∀ j, σ13.2 (d + 4) j = 0 := fun j => (k13.m _ _ (ne_d (by decide))).trans (f156 j)
    have f180 : σ13.1.1 (d + 5) = some (1, 6) := (k13.sh _ (ne_d (by decide))).trans f157
    have f181 : ∀ j, σ13.2 (d + 5) j = 0 := fun j => (k13.m _ _ (ne_d (by decide))).trans (f158 j)
    have f182 : σ13.1.2.1 (d + 4) (0) = d + 5 := (k13.rf _ _ (ne_d (by decide))).trans f159
    have f183 : σ13.1.2.1 (d) (2) = d + 4 := (k13.rf _ _ (ne_0 (by decide))).trans f160
    have f184 : σ13.1.1 (d + 6) = some (1, 36) := (k13.sh _ (ne_d (by decide))).trans f161
    have f185 : ∀ j, σ13.2 (d + 6) j = 0 := fun j => (k13.m _ _ (ne_d (by decide))).trans (f162 j)
    have f186 : σ13.1.2.1 (d) (3) = d + 6 := (k13.rf _ _ (ne_0 (by decide))).trans f163
    have f187 : σ13.1.1 (d + 7) = some (6, 6) := (k13.sh _ (ne_d (by decide))).trans f165
    have f188 : ∀ j, σ13.2 (d + 7) j = 0 := fun j => (k13.m _ _ (ne_d (by decide))).trans (f166 j)
    have f189 : σ13.1.2.1 (d) (4) = d + 7 := (k13.rf _ _ (ne_0 (by decide))).trans f167
    clear f145 f146 f147 f148 f149 f150 f151 f152 f153 f154 f155 f156 f157 f158 f159 f160 f161 f162 f163 f164 f165 f166 f167
    have f190 : σ13.1.2.2 = d + 9 := k13.nx
    have f191 : σ13.1.1 (d + 8) = some (0, 5) := k13.sh0
    have f192 : ∀ j, σ13.2 (d + 8) j = 0 := k13.m0
    have b13 : BL d σ0 σ13 := BL.tr b12 (BL.mkn k13 (le_d (by decide)))
    refine zo_pos (le0_d hd (le_d (by decide))) ?_
    refine zo_own (c_X5_init (b := d + 9) (c := d + 10) (le0_d hd (le_d (by decide))) f191 f190 (s_d (by decide)) (s_d2 (by decide)) (by decide)) ?_
    rintro σ14 k14
    have f193 : σ14.1.1 (d) = some (0, 1) := (k14.sh _ (ne_0 (by decide))).trans f168
    have f194 : σ14.1.1 (d + 1) = some (1, 5) := (k14.sh _ (ne_d (by decide))).trans f169
    have f195 : ∀ j, σ14.2 (d + 1) j = 0 := fun j => (k14.m _ _ (ne_d (by decide))).trans (f170 j)
    have f196 : σ14.1.2.1 (d) (0) = d + 1 := (k14.rf _ _ (ne_0 (by decide)) (ne_0 (by decide))).trans f171
    have f197 : σ14.1.1 (d + 2) = some (0, 3) := (k14.sh _ (ne_d (by decide))).trans f172
    have f198 : ∀ j, σ14.2 (d + 2) j = 0 := fun j => (k14.m _ _ (ne_d (by decide))).trans (f173 j)
    have f199 : σ14.1.1 (d + 3) = some (1, 6) := (k14.sh _ (ne_d (by decide))).trans f174
    have f200 : ∀ j, σ14.2 (d + 3) j = 0 := fun j => (k14.m _ _ (ne_d (by decide))).trans (f175 j)
    have f201 : σ14.1.2.1 (d + 2) (0) = d + 3 := (k14.rf _ _ (ne_d (by decide)) (ne_d (by decide))).trans f176
    have f202 : σ14.1.2.1 (d) (1) = d + 2 := (k14.rf _ _ (ne_0 (by decide)) (ne_0 (by decide))).trans f177
    have f203 : σ14.1.1 (d + 4) = some (0, 3) := (k14.sh _ (ne_d (by decide))).trans f178
    have f204 : ∀ j, σ14.2 (d + 4) j = 0 := fun j => (k14.m _ _ (ne_d (by decide))).trans (f179 j)
    have f205 : σ14.1.1 (d + 5) = some (1, 6) := (k14.sh _ (ne_d (by decide))).trans f180
    have f206 : ∀ j, σ14.2 (d + 5) j = 0 := fun j => (k14.m _ _ (ne_d (by decide))).trans (f181 j)
    have f207 : σ14.1.2.1 (d + 4) (0) = d + 5 := (k14.rf _ _ (ne_d (by decide)) (ne_d (by decide))).trans f182
    have f208 : σ14.1.2.1 (d) (2) = d + 4 := (k14.rf _ _ (ne_0 (by decide)) (ne_0 (by decide))).trans f183
    have f209 : σ14.1.1 (d + 6) = some (1, 36) := (k14.sh _ (ne_d (by decide))).trans f184
    have f210 : ∀ j, σ14.2 (d + 6) j = 0 := fun j => (k14.m _ _ (ne_d (by decide))).trans (f185 j)
    have f211 : σ14.1.2.1 (d) (3) = d + 6 := (k14.rf _ _ (ne_0 (by decide)) (ne_0 (by decide))).trans f186
    have f212 : σ14.1.1 (d + 7) = some (6, 6) := (k14.sh _ (ne_d (by decide))).trans f187
    have f213 : ∀ j, σ14.2 (d + 7) j = 0 := fun j => (k14.m _ _ (ne_d (by decide))).trans (f188 j)
    have f214 : σ14.1.2.1 (d) (4) = d + 7 := (k14.rf _ _ (ne_0 (by decide)) (ne_0 (by decide))).trans f189
    have f215 : σ14.1.1 (d + 8) = some (0, 5) := (k14.sh _ (ne_d (by decide))).trans f191
    have f216 : ∀ j, σ14.2 (d + 8) j = 0 := fun j => (k14.m _ _ (ne_d (by decide))).trans (f192 j)
    clear f168 f169 f170 f171 f172 f173 f174 f175 f176 f177 f178 f179 f180 f181 f182 f183 f184 f185 f186 f187 f188 f189 f190 f191 f192
    have f217 : σ14.1.2.2 = d + 10 := k14.nx
    have f218 : σ14.1.1 (d + 9) = some (1, 8 * 0) := k14.sh0
    have f219 : ∀ j, σ14.2 (d + 9) j = 0 := k14.m0
    have f220 : σ14.1.2.1 (d + 8) (0) = d + 9 := k14.at0
    have b14 : BL d σ0 σ14 := BL.tr b13 (BL.own k14 (le_d (by decide)) (le_d (by decide)))
    refine zo_pr2 (j := 5) f193 rfl rfl ?_
    rintro σ15 k15
    have f221 : σ15.1.1 (d) = some (0, 1) := (congrFun k15.sh _).trans f193
    have f222 : σ15.1.1 (d + 1) = some (1, 5) := (congrFun k15.sh _).trans f194
    have f223 : ∀ j, σ15.2 (d + 1) j = 0 := fun j => (congrFun (congrFun k15.m _) _).trans (f195 j)
    have f224 : σ15.1.2.1 (d) (0) = d + 1 := (k15.rj _ (by decide)).trans f196
    have f225 : σ15.1.1 (d + 2) = some (0, 3) := (congrFun k15.sh _).trans f197
    have f226 : ∀ j, σ15.2 (d + 2) j = 0 := fun j => (congrFun (congrFun k15.m _) _).trans (f198 j)
    have f227 : σ15.1.1 (d + 3) = some (1, 6) := (congrFun k15.sh _).trans f199
    have f228 : ∀ j, σ15.2 (d + 3) j = 0 := fun j => (congrFun (congrFun k15.m _) _).trans (f200 j)
    have f229 : σ15.1.2.1 (d + 2) (0) = d + 3 := (k15.rf _ _ (ne_1 (by decide))).trans f201
    have f230 : σ15.1.2.1 (d) (1) = d + 2 := (k15.rj _ (by decide)).trans f202
    have f231 : σ15.1.1 (d + 4) = some (0, 3) := (congrFun k15.sh _).trans f203
    have f232 : ∀ j, σ15.2 (d + 4) j = 0 := fun j => (congrFun (congrFun k15.m _) _).trans (f204 j)
    have f233 : σ15.1.1 (d + 5) = some (1, 6) := (congrFun k15.sh _).trans f205
    have f234 : ∀ j, σ15.2 (d + 5) j = 0 := fun j => (congrFun (congrFun k15.m _) _).trans (f206 j)
    have f235 : σ15.1.2.1 (d + 4) (0) = d + 5 := (k15.rf _ _ (ne_1 (by decide))).trans f207
    have f236 : σ15.1.2.1 (d) (2) = d + 4 := (k15.rj _ (by decide)).trans f208
    have f237 : σ15.1.1 (d + 6) = some (1, 36) := (congrFun k15.sh _).trans f209
    have f238 : ∀ j, σ15.2 (d + 6) j = 0 := fun j => (congrFun (congrFun k15.m _) _).trans (f210 j)
    have f239 : σ15.1.2.1 (d) (3) = d + 6 := (k15.rj _ (by decide)).trans f211
    have f240 : σ15.1.1 (d + 7) = some (6, 6) := (congrFun k15.sh _).trans f212
    have f241 : ∀ j, σ15.2 (d + 7) j = 0 := fun j => (congrFun (congrFun k15.m _) _).trans (f213 j)
    have f242 : σ15.1.2.1 (d) (4) = d + 7 := (k15.rj _ (by decide)).trans f214
    have f243 : σ15.1.1 (d + 8) = some (0, 5) := (congrFun k15.sh _).trans f215
    have f244 : ∀ j, σ15.2 (d + 8) j = 0 := fun j => (congrFun (congrFun k15.m _) _).trans (f216 j)
    have f245 : σ15.1.2.2 = d + 10 := k15.nx.trans f217
    have f246 : σ15.1.1 (d + 9) = some (1, 8 * 0) := (congrFun k15.sh _).trans f218
    have f247 : ∀ j, σ15.2 (d + 9) j = 0 := fun j => (congrFun (congrFun k15.m _) _).trans (f219 j)
    have f248 : σ15.1.2.1 (d + 8) (0) = d + 9 := (k15.rf _ _ (ne_1 (by decide))).trans f220
    clear f193 f194 f195 f196 f197 f198 f199 f200 f201 f202 f203 f204 f205 f206 f207 f208 f209 f210 f211 f212 f213 f214 f215 f216 f217 f218 f219 f220
    have f249 : σ15.1.2.1 (d) (5) = d + 8 := k15.at0
    have b15 : BL d σ0 σ15 := BL.tr b14 (BL.pr k15 (Int.le_refl _))
    refine zo_nw2 (a := d + 10) (c := d + 11) f245 (s_d (by decide)) ?_
    rintro σ16 k16
    have f250 : σ16.1.1 (d) = some (0, 1) := (k16.sh _ (ne_0 (by decide))).trans f221
    have f251 : σ16.1.1 (d + 1) = some (1, 5) := (k16.sh _ (ne_d (by decide))).trans f222
    have f252 : ∀ j, σ16.2 (d + 1) j = 0 := fun j => (k16.m _ _ (ne_d (by decide))).trans (f223 j)
    have f253 : σ16.1.2.1 (d) (0) = d + 1 := (k16.rf _ _ (ne_0 (by decide))).trans f224
    have f254 : σ16.1.1 (d + 2) = some (0, 3) := (k16.sh _ (ne_d (by decide))).trans f225
    have f255 : ∀ j, σ16.2 (d + 2) j = 0 := fun j => (k16.m _ _ (ne_d (by decide))).trans (f226 j)
    have f256 : σ16.1.1 (d + 3) = some (1, 6) := (k16.sh _ (ne_d (by decide))).trans f227
    have f257 : ∀ j, σ16.2 (d + 3) j = 0 := fun j => (k16.m _ _ (ne_d (by decide))).trans (f228 j)
    have f258 : σ16.1.2.1 (d + 2) (0) = d + 3 := (k16.rf _ _ (ne_d (by decide))).trans f229
    have f259 : σ16.1.2.1 (d) (1) = d + 2 := (k16.rf _ _ (ne_0 (by decide))).trans f230
    have f260 : σ16.1.1 (d + 4) = some (0, 3) := (k16.sh _ (ne_d (by decide))).trans f231
    have f261 : ∀ j, σ16.2 (d + 4) j = 0 := fun j => (k16.m _ _ (ne_d (by decide))).trans (f232 j)
    have f262 : σ16.1.1 (d + 5) = some (1, 6) := (k16.sh _ (ne_d (by decide))).trans f233
    have f263 : ∀ j, σ16.2 (d + 5) j = 0 := fun j => (k16.m _ _ (ne_d (by decide))).trans (f234 j)
    have f264 : σ16.1.2.1 (d + 4) (0) = d + 5 := (k16.rf _ _ (ne_d (by decide))).trans f235
    have f265 : σ16.1.2.1 (d) (2) = d + 4 := (k16.rf _ _ (ne_0 (by decide))).trans f236
    have f266 : σ16.1.1 (d + 6) = some (1, 36) := (k16.sh _ (ne_d (by decide))).trans f237
    have f267 : ∀ j, σ16.2 (d + 6) j = 0 := fun j => (k16.m _ _ (ne_d (by decide))).trans (f238 j)
    have f268 : σ16.1.2.1 (d) (3) = d + 6 := (k16.rf _ _ (ne_0 (by decide))).trans f239
    have f269 : σ16.1.1 (d + 7) = some (6, 6) := (k16.sh _ (ne_d (by decide))).trans f240
    have f270 : ∀ j, σ16.2 (d + 7) j = 0 := fun j => (k16.m _ _ (ne_d (by decide))).trans (f241 j)
    have f271 : σ16.1.2.1 (d) (4) = d + 7 := (k16.rf _ _ (ne_0 (by decide))).trans f242
    have f272 : σ16.1.1 (d + 8) = some (0, 5) := (k16.sh _ (ne_d (by decide))).trans f243
    have f273 : ∀ j, σ16.2 (d + 8) j = 0 := fun j => (k16.m _ _ (ne_d (by decide))).trans (f244 j)
    have f274 : σ16.1.1 (d + 9) = some (1, 8 * 0) := (k16.sh _ (ne_d (by decide))).trans f246
    have f275 : ∀ j, σ16.2 (d + 9) j = 0 := fun j => (k16.m _ _ (ne_d (by decide))).trans (f247 j)
    have f276 : σ16.1.2.1 (d + 8) (0) = d + 9 := (k16.rf _ _ (ne_d (by decide))).trans f248
    have f277 : σ16.1.2.1 (d) (5) = d + 8 := (k16.rf _ _ (ne_0 (by decide))).trans f249
    clear f221 f222 f223 f224 f225 f226 f227 f228 f229 f230 f231 f232 f233 f234 f235 f236 f237 f238 f239 f240 f241 f242 f243 f244 f245 f246 f247 f248 f249
    have f278 : σ16.1.2.2 = d + 11 := k16.nx
    have f279 : σ16.1.1 (d + 10) = some (0, 5) := k16.sh0
    have f280 : ∀ j, σ16.2 (d + 10) j = 0 := k16.m0
    have b16 : BL d σ0 σ16 := BL.tr b15 (BL.mkn k16 (le_d (by decide)))
    refine zo_pos (le0_d hd (le_d (by decide))) ?_
    refine zo_own (c_X5_init (b := d + 11) (c := d + 12) (le0_d hd (le_d (by decide))) f279 f278 (s_d (by decide)) (s_d2 (by decide)) (by decide)) ?_
    rintro σ17 k17
    have f281 : σ17.1.1 (d) = some (0, 1) := (k17.sh _ (ne_0 (by decide))).trans f250
    have f282 : σ17.1.1 (d + 1) = some (1, 5) := (k17.sh _ (ne_d (by decide))).trans f251
    have f283 : ∀ j, σ17.2 (d + 1) j = 0 := fun j => (k17.m _ _ (ne_d (by decide))).trans (f252 j)
    have f284 : σ17.1.2.1 (d) (0) = d + 1 := (k17.rf _ _ (ne_0 (by decide)) (ne_0 (by decide))).trans f253
    have f285 : σ17.1.1 (d + 2) = some (0, 3) := (k17.sh _ (ne_d (by decide))).trans f254
    have f286 : ∀ j, σ17.2 (d + 2) j = 0 := fun j => (k17.m _ _ (ne_d (by decide))).trans (f255 j)
    have f287 : σ17.1.1 (d + 3) = some (1, 6) := (k17.sh _ (ne_d (by decide))).trans f256
    have f288 : ∀ j, σ17.2 (d + 3) j = 0 := fun j => (k17.m _ _ (ne_d (by decide))).trans (f257 j)
    have f289 : σ17.1.2.1 (d + 2) (0) = d + 3 := (k17.rf _ _ (ne_d (by decide)) (ne_d (by decide))).trans f258
    have f290 : σ17.1.2.1 (d) (1) = d + 2 := (k17.rf _ _ (ne_0 (by decide)) (ne_0 (by decide))).trans f259
    have f291 : σ17.1.1 (d + 4) = some (0, 3) := (k17.sh _ (ne_d (by decide))).trans f260
    have f292 : ∀ j, σ17.2 (d + 4) j = 0 := fun j => (k17.m _ _ (ne_d (by decide))).trans (f261 j)
    have f293 : σ17.1.1 (d + 5) = some (1, 6) := (k17.sh _ (ne_d (by decide))).trans f262
    have f294 : ∀ j, σ17.2 (d + 5) j = 0 := fun j => (k17.m _ _ (ne_d (by decide))).trans (f263 j)
    have f295 : σ17.1.2.1 (d + 4) (0) = d + 5 := (k17.rf _ _ (ne_d (by decide)) (ne_d (by decide))).trans f264
    have f296 : σ17.1.2.1 (d) (2) = d + 4 := (k17.rf _ _ (ne_0 (by decide)) (ne_0 (by decide))).trans f265
    have f297 : σ17.1.1 (d + 6) = some (1, 36) := (k17.sh _ (ne_d (by decide))).trans f266
    have f298 : ∀ j, σ17.2 (d + 6) j = 0 := fun j => (k17.m _ _ (ne_d (by decide))).trans (f267 j)
    have f299 : σ17.1.2.1 (d) (3) = d + 6 := (k17.rf _ _ (ne_0 (by decide)) (ne_0 (by decide))).trans f268
    have f300 : σ17.1.1 (d + 7) = some (6, 6) := (k17.sh _ (ne_d (by decide))).trans f269
    have f301 : ∀ j, σ17.2 (d + 7) j = 0 := fun j => (k17.m _ _ (ne_d (by decide))).trans (f270 j)
    have f302 : σ17.1.2.1 (d) (4) = d + 7 := (k17.rf _ _ (ne_0 (by decide)) (ne_0 (by decide))).trans f271
    have f303 : σ17.1.1 (d + 8) = some (0, 5) := (k17.sh _ (ne_d (by decide))).trans f272
    have f304 : ∀ j, σ17.2 (d + 8) j = 0 := fun j => (k17.m _ _ (ne_d (by decide))).trans (f273 j)
    have f305 : σ17.1.1 (d + 9) = some (1, 8 * 0) := (k17.sh _ (ne_d (by decide))).trans f274
    have f306 : ∀ j, σ17.2 (d + 9) j = 0 := fun j => (k17.m _ _ (ne_d (by decide))).trans (f275 j)
    have f307 : σ17.1.2.1 (d + 8) (0) = d + 9 := (k17.rf _ _ (ne_d (by decide)) (ne_d (by decide))).trans f276
    have f308 : σ17.1.2.1 (d) (5) = d + 8 := (k17.rf _ _ (ne_0 (by decide)) (ne_0 (by decide))).trans f277
    have f309 : σ17.1.1 (d + 10) = some (0, 5) := (k17.sh _ (ne_d (by decide))).trans f279
    have f310 : ∀ j, σ17.2 (d + 10) j = 0 := fun j => (k17.m _ _ (ne_d (by decide))).trans (f280 j)
    clear f250 f251 f252 f253 f254 f255 f256 f257 f258 f259 f260 f261 f262 f263 f264 f265 f266 f267 f268 f269 f270 f271 f272 f273 f274 f275 f276 f277 f278 f279 f280
    have f311 : σ17.1.2.2 = d + 12 := k17.nx
    have f312 : σ17.1.1 (d + 11) = some (1, 8 * 100) := k17.sh0
    have f313 : ∀ j, σ17.2 (d + 11) j = 0 := k17.m0
    have f314 : σ17.1.2.1 (d + 10) (0) = d + 11 := k17.at0
    have b17 : BL d σ0 σ17 := BL.tr b16 (BL.own k17 (le_d (by decide)) (le_d (by decide)))
    refine zo_pr2 (j := 6) f281 rfl rfl ?_
    rintro σ18 k18
    have f315 : σ18.1.1 (d) = some (0, 1) := (congrFun k18.sh _).trans f281
    have f316 : σ18.1.1 (d + 1) = some (1, 5) := (congrFun k18.sh _).trans f282
    have f317 : ∀ j, σ18.2 (d + 1) j = 0 := fun j => (congrFun (congrFun k18.m _) _).trans (f283 j)
    have f318 : σ18.1.2.1 (d) (0) = d + 1 := (k18.rj _ (by decide)).trans f284
    have f319 : σ18.1.1 (d + 2) = some (0, 3) := (congrFun k18.sh _).trans f285
    have f320 : ∀ j, σ18.2 (d + 2) j = 0 := fun j => (congrFun (congrFun k18.m _) _).trans (f286 j)
    have f321 : σ18.1.1 (d + 3) = some (1, 6) := (congrFun k18.sh _).trans f287
    have f322 : ∀ j, σ18.2 (d + 3) j = 0 := fun j => (congrFun (congrFun k18.m _) _).trans (f288 j)
    have f323 : σ18.1.2.1 (d + 2) (0) = d + 3 := (k18.rf _ _ (ne_1 (by decide))).trans f289
    have f324 : σ18.1.2.1 (d) (1) = d + 2 := (k18.rj _ (by decide)).trans f290
    have f325 : σ18.1.1 (d + 4) = some (0, 3) := (congrFun k18.sh _).trans f291
    have f326 : ∀ j, σ18.2 (d + 4) j = 0 := fun j => (congrFun (congrFun k18.m _) _).trans (f292 j)
    have f327 : σ18.1.1 (d + 5) = some (1, 6) := (congrFun k18.sh _).trans f293
    have f328 : ∀ j, σ18.2 (d + 5) j = 0 := fun j => (congrFun (congrFun k18.m _) _).trans (f294 j)
    have f329 : σ18.1.2.1 (d + 4) (0) = d + 5 := (k18.rf _ _ (ne_1 (by decide))).trans f295
    have f330 : σ18.1.2.1 (d) (2) = d + 4 := (k18.rj _ (by decide)).trans f296
    have f331 : σ18.1.1 (d + 6) = some (1, 36) := (congrFun k18.sh _).trans f297
    have f332 : ∀ j, σ18.2 (d + 6) j = 0 := fun j => (congrFun (congrFun k18.m _) _).trans (f298 j)
    have f333 : σ18.1.2.1 (d) (3) = d + 6 := (k18.rj _ (by decide)).trans f299
    have f334 : σ18.1.1 (d + 7) = some (6, 6) := (congrFun k18.sh _).trans f300
    have f335 : ∀ j, σ18.2 (d + 7) j = 0 := fun j => (congrFun (congrFun k18.m _) _).trans (f301 j)
    have f336 : σ18.1.2.1 (d) (4) = d + 7 := (k18.rj _ (by decide)).trans f302
    have f337 : σ18.1.1 (d + 8) = some (0, 5) := (congrFun k18.sh _).trans f303
    have f338 : ∀ j, σ18.2 (d + 8) j = 0 := fun j => (congrFun (congrFun k18.m _) _).trans (f304 j)
    have f339 : σ18.1.1 (d + 9) = some (1, 8 * 0) := (congrFun k18.sh _).trans f305
    have f340 : ∀ j, σ18.2 (d + 9) j = 0 := fun j => (congrFun (congrFun k18.m _) _).trans (f306 j)
    have f341 : σ18.1.2.1 (d + 8) (0) = d + 9 := (k18.rf _ _ (ne_1 (by decide))).trans f307
    have f342 : σ18.1.2.1 (d) (5) = d + 8 := (k18.rj _ (by decide)).trans f308
    have f343 : σ18.1.1 (d + 10) = some (0, 5) := (congrFun k18.sh _).trans f309
    have f344 : ∀ j, σ18.2 (d + 10) j = 0 := fun j => (congrFun (congrFun k18.m _) _).trans (f310 j)
    have f345 : σ18.1.2.2 = d + 12 := k18.nx.trans f311
    have f346 : σ18.1.1 (d + 11) = some (1, 8 * 100) := (congrFun k18.sh _).trans f312
    have f347 : ∀ j, σ18.2 (d + 11) j = 0 := fun j => (congrFun (congrFun k18.m _) _).trans (f313 j)
    have f348 : σ18.1.2.1 (d + 10) (0) = d + 11 := (k18.rf _ _ (ne_1 (by decide))).trans f314
    clear f281 f282 f283 f284 f285 f286 f287 f288 f289 f290 f291 f292 f293 f294 f295 f296 f297 f298 f299 f300 f301 f302 f303 f304 f305 f306 f307 f308 f309 f310 f311 f312 f313 f314
    have f349 : σ18.1.2.1 (d) (6) = d + 10 := k18.at0
    have b18 : BL d σ0 σ18 := BL.tr b17 (BL.pr k18 (Int.le_refl _))
    refine zo_na2 (a := d + 12) (c := d + 13) (by decide) f345 (s_d (by decide)) ?_
    rintro σ19 k19
    have f350 : σ19.1.1 (d) = some (0, 1) := (k19.sh _ (ne_0 (by decide))).trans f315
    have f351 : σ19.1.1 (d + 1) = some (1, 5) := (k19.sh _ (ne_d (by decide))).trans f316
    have f352 : ∀ j, σ19.2 (d + 1) j = 0 := fun j => (k19.m _ _ (ne_d (by decide))).trans (f317 j)
    have f353 : σ19.1.2.1 (d) (0) = d + 1 := (k19.rf _ _ (ne_0 (by decide))).trans f318
    have f354 : σ19.1.1 (d + 2) = some (0, 3) := (k19.sh _ (ne_d (by decide))).trans f319
    have f355 : ∀ j, σ19.2 (d + 2) j = 0 := fun j => (k19.m _ _ (ne_d (by decide))).trans (f320 j)
    have f356 : σ19.1.1 (d + 3) = some (1, 6) := (k19.sh _ (ne_d (by decide))).trans f321
    have f357 : ∀ j, σ19.2 (d + 3) j = 0 := fun j => (k19.m _ _ (ne_d (by decide))).trans (f322 j)
    have f358 : σ19.1.2.1 (d + 2) (0) = d + 3 := (k19.rf _ _ (ne_d (by decide))).trans f323
    have f359 : σ19.1.2.1 (d) (1) = d + 2 := (k19.rf _ _ (ne_0 (by decide))).trans f324
    have f360 : σ19.1.1 (d + 4) = some (0, 3) := (k19.sh _ (ne_d (by decide))).trans f325
    have f361 : ∀ j, σ19.2 (d + 4) j = 0 := fun j => (k19.m _ _ (ne_d (by decide))).trans (f326 j)
    have f362 : σ19.1.1 (d + 5) = some (1, 6) := (k19.sh _ (ne_d (by decide))).trans f327
    have f363 : ∀ j, σ19.2 (d + 5) j = 0 := fun j => (k19.m _ _ (ne_d (by decide))).trans (f328 j)
    have f364 : σ19.1.2.1 (d + 4) (0) = d + 5 := (k19.rf _ _ (ne_d (by decide))).trans f329
    have f365 : σ19.1.2.1 (d) (2) = d + 4 := (k19.rf _ _ (ne_0 (by decide))).trans f330
    have f366 : σ19.1.1 (d + 6) = some (1, 36) := (k19.sh _ (ne_d (by decide))).trans f331
    have f367 : ∀ j, σ19.2 (d + 6) j = 0 := fun j => (k19.m _ _ (ne_d (by decide))).trans (f332 j)
    have f368 : σ19.1.2.1 (d) (3) = d + 6 := (k19.rf _ _ (ne_0 (by decide))).trans f333
    have f369 : σ19.1.1 (d + 7) = some (6, 6) := (k19.sh _ (ne_d (by decide))).trans f334
    have f370 : ∀ j, σ19.2 (d + 7) j = 0 := fun j => (k19.m _ _ (ne_d (by decide))).trans (f335 j)
    have f371 : σ19.1.2.1 (d) (4) = d + 7 := (k19.rf _ _ (ne_0 (by decide))).trans f336
    have f372 : σ19.1.1 (d + 8) = some (0, 5) := (k19.sh _ (ne_d (by decide))).trans f337
    have f373 : ∀ j, σ19.2 (d + 8) j = 0 := fun j => (k19.m _ _ (ne_d (by decide))).trans (f338 j)
    have f374 : σ19.1.1 (d + 9) = some (1, 8 * 0) := (k19.sh _ (ne_d (by decide))).trans f339
    have f375 : ∀ j, σ19.2 (d + 9) j = 0 := fun j => (k19.m _ _ (ne_d (by decide))).trans (f340 j)
    have f376 : σ19.1.2.1 (d + 8) (0) = d + 9 := (k19.rf _ _ (ne_d (by decide))).trans f341
    have f377 : σ19.1.2.1 (d) (5) = d + 8 := (k19.rf _ _ (ne_0 (by decide))).trans f342
    have f378 : σ19.1.1 (d + 10) = some (0, 5) := (k19.sh _ (ne_d (by decide))).trans f343
    have f379 : ∀ j, σ19.2 (d + 10) j = 0 := fun j => (k19.m _ _ (ne_d (by decide))).trans (f344 j)
    have f380 : σ19.1.1 (d + 11) = some (1, 8 * 100) := (k19.sh _ (ne_d (by decide))).trans f346
    have f381 : ∀ j, σ19.2 (d + 11) j = 0 := fun j => (k19.m _ _ (ne_d (by decide))).trans (f347 j)
    have f382 : σ19.1.2.1 (d + 10) (0) = d + 11 := (k19.rf _ _ (ne_d (by decide))).trans f348
    have f383 : σ19.1.2.1 (d) (6) = d + 10 := (k19.rf _ _ (ne_0 (by decide))).trans f349
    clear f315 f316 f317 f318 f319 f320 f321 f322 f323 f324 f325 f326 f327 f328 f329 f330 f331 f332 f333 f334 f335 f336 f337 f338 f339 f340 f341 f342 f343 f344 f345 f346 f347 f348 f349
    have f384 : σ19.1.2.2 = d + 13 := k19.nx
    have f385 : σ19.1.1 (d + 12) = some (1, 30) := k19.sh0
    have f386 : ∀ j, σ19.2 (d + 12) j = 0 := k19.m0
    have b19 : BL d σ0 σ19 := BL.tr b18 (BL.mkn k19 (le_d (by decide)))
    refine zo_pr2 (j := 7) f350 rfl rfl ?_
    rintro σ20 k20
    have f387 : σ20.1.1 (d) = some (0, 1) := (congrFun k20.sh _).trans f350
    have f388 : σ20.1.1 (d + 1) = some (1, 5) := (congrFun k20.sh _).trans f351
    have f389 : ∀ j, σ20.2 (d + 1) j = 0 := fun j => (congrFun (congrFun k20.m _) _).trans (f352 j)
    have f390 : σ20.1.2.1 (d) (0) = d + 1 := (k20.rj _ (by decide)).trans f353
    have f391 : σ20.1.1 (d + 2) = some (0, 3) := (congrFun k20.sh _).trans f354
    have f392 : ∀ j, σ20.2 (d + 2) j = 0 := fun j => (congrFun (congrFun k20.m _) _).trans (f355 j)
    have f393 : σ20.1.1 (d + 3) = some (1, 6) := (congrFun k20.sh _).trans f356
    have f394 : ∀ j, σ20.2 (d + 3) j = 0 := fun j => (congrFun (congrFun k20.m _) _).trans (f357 j)
    have f395 : σ20.1.2.1 (d + 2) (0) = d + 3 := (k20.rf _ _ (ne_1 (by decide))).trans f358
    have f396 : σ20.1.2.1 (d) (1) = d + 2 := (k20.rj _ (by decide)).trans f359
    have f397 : σ20.1.1 (d + 4) = some (0, 3) := (congrFun k20.sh _).trans f360
    have f398 : ∀ j, σ20.2 (d + 4) j = 0 := fun j => (congrFun (congrFun k20.m _) _).trans (f361 j)
    have f399 : σ20.1.1 (d + 5) = some (1, 6) := (congrFun k20.sh _).trans f362
    have f400 : ∀ j, σ20.2 (d + 5) j = 0 := fun j => (congrFun (congrFun k20.m _) _).trans (f363 j)
    have f401 : σ20.1.2.1 (d + 4) (0) = d + 5 := (k20.rf _ _ (ne_1 (by decide))).trans f364
    have f402 : σ20.1.2.1 (d) (2) = d + 4 := (k20.rj _ (by decide)).trans f365
    have f403 : σ20.1.1 (d + 6) = some (1, 36) := (congrFun k20.sh _).trans f366
    have f404 : ∀ j, σ20.2 (d + 6) j = 0 := fun j => (congrFun (congrFun k20.m _) _).trans (f367 j)
    have f405 : σ20.1.2.1 (d) (3) = d + 6 := (k20.rj _ (by decide)).trans f368
    have f406 : σ20.1.1 (d + 7) = some (6, 6) := (congrFun k20.sh _).trans f369
    have f407 : ∀ j, σ20.2 (d + 7) j = 0 := fun j => (congrFun (congrFun k20.m _) _).trans (f370 j)
    have f408 : σ20.1.2.1 (d) (4) = d + 7 := (k20.rj _ (by decide)).trans f371
    have f409 : σ20.1.1 (d + 8) = some (0, 5) := (congrFun k20.sh _).trans f372
    have f410 : ∀ j, σ20.2 (d + 8) j = 0 := fun j => (congrFun (congrFun k20.m _) _).trans (f373 j)
    have f411 : σ20.1.1 (d + 9) = some (1, 8 * 0) := (congrFun k20.sh _).trans f374
    have f412 : ∀ j, σ20.2 (d + 9) j = 0 := fun j => (congrFun (congrFun k20.m _) _).trans (f375 j)
    have f413 : σ20.1.2.1 (d + 8) (0) = d + 9 := (k20.rf _ _ (ne_1 (by decide))).trans f376
    have f414 : σ20.1.2.1 (d) (5) = d + 8 := (k20.rj _ (by decide)).trans f377
    have f415 : σ20.1.1 (d + 10) = some (0, 5) := (congrFun k20.sh _).trans f378
    have f416 : ∀ j, σ20.2 (d + 10) j = 0 := fun j => (congrFun (congrFun k20.m _) _).trans (f379 j)
    have f417 : σ20.1.1 (d + 11) = some (1, 8 * 100) := (congrFun k20.sh _).trans f380
    have f418 : ∀ j, σ20.2 (d + 11) j = 0 := fun j => (congrFun (congrFun k20.m _) _).trans (f381 j)
    have f419 : σ20.1.2.1 (d + 10) (0) = d + 11 := (k20.rf _ _ (ne_1 (by decide))).trans f382
    have f420 : σ20.1.2.1 (d) (6) = d + 10 := (k20.rj _ (by decide)).trans f383
    have f421 : σ20.1.2.2 = d + 13 := k20.nx.trans f384
    have f422 : σ20.1.1 (d + 12) = some (1, 30) := (congrFun k20.sh _).trans f385
    have f423 : ∀ j, σ20.2 (d + 12) j = 0 := fun j => (congrFun (congrFun k20.m _) _).trans (f386 j)
    clear f350 f351 f352 f353 f354 f355 f356 f357 f358 f359 f360 f361 f362 f363 f364 f365 f366 f367 f368 f369 f370 f371 f372 f373 f374 f375 f376 f377 f378 f379 f380 f381 f382 f383 f384 f385 f386
    have f424 : σ20.1.2.1 (d) (7) = d + 12 := k20.at0
    have b20 : BL d σ0 σ20 := BL.tr b19 (BL.pr k20 (Int.le_refl _))
    refine j_X1_init_85 ?_
    refine zo_gr2 f387 f408 rfl rfl ?_
    refine zo_al2 (t := 5) f406 ?_
    refine zo_pos (by decide) ?_
    refine zo_gr2 f387 f408 rfl rfl ?_
    refine zo_nw2 (a := d + 13) (c := d + 14) f421 (s_d (by decide)) ?_
    rintro σ21 k21
    have f425 : σ21.1.1 (d) = some (0, 1) := (k21.sh _ (ne_0 (by decide))).trans f387
    have f426 : σ21.1.1 (d + 1) = some (1, 5) := (k21.sh _ (ne_d (by decide))).trans f388
    have f427 : ∀ j, σ21.2 (d + 1) j = 0 := fun j => (k21.m _ _ (ne_d (by decide))).trans (f389 j)
    have f428 : σ21.1.2.1 (d) (0) = d + 1 := (k21.rf _ _ (ne_0 (by decide))).trans f390
    have f429 : σ21.1.1 (d + 2) = some (0, 3) := (k21.sh _ (ne_d (by decide))).trans f391
    have f430 : ∀ j, σ21.2 (d + 2) j = 0 := fun j => (k21.m _ _ (ne_d (by decide))).trans (f392 j)
    have f431 : σ21.1.1 (d + 3) = some (1, 6) := (k21.sh _ (ne_d (by decide))).trans f393
    have f432 : ∀ j, σ21.2 (d + 3) j = 0 := fun j => (k21.m _ _ (ne_d (by decide))).trans (f394 j)
    have f433 : σ21.1.2.1 (d + 2) (0) = d + 3 := (k21.rf _ _ (ne_d (by decide))).trans f395
    have f434 : σ21.1.2.1 (d) (1) = d + 2 := (k21.rf _ _ (ne_0 (by decide))).trans f396
    have f435 : σ21.1.1 (d + 4) = some (0, 3) := (k21.sh _ (ne_d (by decide))).trans f397
    have f436 : ∀ j, σ21.2 (d + 4) j = 0 := fun j => (k21.m _ _ (ne_d (by decide))).trans (f398 j)
    have f437 : σ21.1.1 (d + 5) = some (1, 6) := (k21.sh _ (ne_d (by decide))).trans f399
    have f438 : ∀ j, σ21.2 (d + 5) j = 0 := fun j => (k21.m _ _ (ne_d (by decide))).trans (f400 j)
    have f439 : σ21.1.2.1 (d + 4) (0) = d + 5 := (k21.rf _ _ (ne_d (by decide))).trans f401
    have f440 : σ21.1.2.1 (d) (2) = d + 4 := (k21.rf _ _ (ne_0 (by decide))).trans f402
    have f441 : σ21.1.1 (d + 6) = some (1, 36) := (k21.sh _ (ne_d (by decide))).trans f403
    have f442 : ∀ j, σ21.2 (d + 6) j = 0 := fun j => (k21.m _ _ (ne_d (by decide))).trans (f404 j)
    have f443 : σ21.1.2.1 (d) (3) = d + 6 := (k21.rf _ _ (ne_0 (by decide))).trans f405
    have f444 : σ21.1.1 (d + 7) = some (6, 6) := (k21.sh _ (ne_d (by decide))).trans f406
    have f445 : ∀ j, σ21.2 (d + 7) j = 0 := fun j => (k21.m _ _ (ne_d (by decide))).trans (f407 j)
    have f446 : σ21.1.2.1 (d) (4) = d + 7 := (k21.rf _ _ (ne_0 (by decide))).trans f408
    have f447 : σ21.1.1 (d + 8) = some (0, 5) := (k21.sh _ (ne_d (by decide))).trans f409
    have f448 : ∀ j, σ21.2 (d + 8) j = 0 := fun j => (k21.m _ _ (ne_d (by decide))).trans (f410 j)
    have f449 : σ21.1.1 (d + 9) = some (1, 8 * 0) := (k21.sh _ (ne_d (by decide))).trans f411
    have f450 : ∀ j, σ21.2 (d + 9) j = 0 := fun j => (k21.m _ _ (ne_d (by decide))).trans (f412 j)
    have f451 : σ21.1.2.1 (d + 8) (0) = d + 9 := (k21.rf _ _ (ne_d (by decide))).trans f413
    have f452 : σ21.1.2.1 (d) (5) = d + 8 := (k21.rf _ _ (ne_0 (by decide))).trans f414
    have f453 : σ21.1.1 (d + 10) = some (0, 5) := (k21.sh _ (ne_d (by decide))).trans f415
    have f454 : ∀ j, σ21.2 (d + 10) j = 0 := fun j => (k21.m _ _ (ne_d (by decide))).trans (f416 j)
    have f455 : σ21.1.1 (d + 11) = some (1, 8 * 100) := (k21.sh _ (ne_d (by decide))).trans f417
    have f456 : ∀ j, σ21.2 (d + 11) j = 0 := fun j => (k21.m _ _ (ne_d (by decide))).trans (f418 j)
    have f457 : σ21.1.2.1 (d + 10) (0) = d + 11 := (k21.rf _ _ (ne_d (by decide))).trans f419
    have f458 : σ21.1.2.1 (d) (6) = d + 10 := (k21.rf _ _ (ne_0 (by decide))).trans f420
    have f459 : σ21.1.1 (d + 12) = some (1, 30) := (k21.sh _ (ne_d (by decide))).trans f422
    have f460 : ∀ j, σ21.2 (d + 12) j = 0 := fun j => (k21.m _ _ (ne_d (by decide))).trans (f423 j)
    have f461 : σ21.1.2.1 (d) (7) = d + 12 := (k21.rf _ _ (ne_0 (by decide))).trans f424
    clear f387 f388 f389 f390 f391 f392 f393 f394 f395 f396 f397 f398 f399 f400 f401 f402 f403 f404 f405 f406 f407 f408 f409 f410 f411 f412 f413 f414 f415 f416 f417 f418 f419 f420 f421 f422 f423 f424
    have f462 : σ21.1.2.2 = d + 14 := k21.nx
    have f463 : σ21.1.1 (d + 13) = some (0, 5) := k21.sh0
    have f464 : ∀ j, σ21.2 (d + 13) j = 0 := k21.m0
    have b21 : BL d σ0 σ21 := BL.tr b20 (BL.mkn k21 (le_d (by decide)))
    refine zo_pos (le0_d hd (le_d (by decide))) ?_
    refine zo_own (c_X5_init (b := d + 14) (c := d + 15) (le0_d hd (le_d (by decide))) f463 f462 (s_d (by decide)) (s_d2 (by decide)) (by decide)) ?_
    rintro σ22 k22
    have f465 : σ22.1.1 (d) = some (0, 1) := (k22.sh _ (ne_0 (by decide))).trans f425
    have f466 : σ22.1.1 (d + 1) = some (1, 5) := (k22.sh _ (ne_d (by decide))).trans f426
    have f467 : ∀ j, σ22.2 (d + 1) j = 0 := fun j => (k22.m _ _ (ne_d (by decide))).trans (f427 j)
    have f468 : σ22.1.2.1 (d) (0) = d + 1 := (k22.rf _ _ (ne_0 (by decide)) (ne_0 (by decide))).trans f428
    have f469 : σ22.1.1 (d + 2) = some (0, 3) := (k22.sh _ (ne_d (by decide))).trans f429
    have f470 : ∀ j, σ22.2 (d + 2) j = 0 := fun j => (k22.m _ _ (ne_d (by decide))).trans (f430 j)
    have f471 : σ22.1.1 (d + 3) = some (1, 6) := (k22.sh _ (ne_d (by decide))).trans f431
    have f472 : ∀ j, σ22.2 (d + 3) j = 0 := fun j => (k22.m _ _ (ne_d (by decide))).trans (f432 j)
    have f473 : σ22.1.2.1 (d + 2) (0) = d + 3 := (k22.rf _ _ (ne_d (by decide)) (ne_d (by decide))).trans f433
    have f474 : σ22.1.2.1 (d) (1) = d + 2 := (k22.rf _ _ (ne_0 (by decide)) (ne_0 (by decide))).trans f434
    have f475 : σ22.1.1 (d + 4) = some (0, 3) := (k22.sh _ (ne_d (by decide))).trans f435
    have f476 : ∀ j, σ22.2 (d + 4) j = 0 := fun j => (k22.m _ _ (ne_d (by decide))).trans (f436 j)
    have f477 : σ22.1.1 (d + 5) = some (1, 6) := (k22.sh _ (ne_d (by decide))).trans f437
    have f478 : ∀ j, σ22.2 (d + 5) j = 0 := fun j => (k22.m _ _ (ne_d (by decide))).trans (f438 j)
    have f479 : σ22.1.2.1 (d + 4) (0) = d + 5 := (k22.rf _ _ (ne_d (by decide)) (ne_d (by decide))).trans f439
    have f480 : σ22.1.2.1 (d) (2) = d + 4 := (k22.rf _ _ (ne_0 (by decide)) (ne_0 (by decide))).trans f440
    have f481 : σ22.1.1 (d + 6) = some (1, 36) := (k22.sh _ (ne_d (by decide))).trans f441
    have f482 : ∀ j, σ22.2 (d + 6) j = 0 := fun j => (k22.m _ _ (ne_d (by decide))).trans (f442 j)
    have f483 : σ22.1.2.1 (d) (3) = d + 6 := (k22.rf _ _ (ne_0 (by decide)) (ne_0 (by decide))).trans f443
    have f484 : σ22.1.1 (d + 7) = some (6, 6) := (k22.sh _ (ne_d (by decide))).trans f444
    have f485 : ∀ j, σ22.2 (d + 7) j = 0 := fun j => (k22.m _ _ (ne_d (by decide))).trans (f445 j)
    have f486 : σ22.1.2.1 (d) (4) = d + 7 := (k22.rf _ _ (ne_0 (by decide)) (ne_0 (by decide))).trans f446
    have f487 : σ22.1.1 (d + 8) = some (0, 5) := (k22.sh _ (ne_d (by decide))).trans f447
    have f488 : ∀ j, σ22.2 (d + 8) j = 0 := fun j => (k22.m _ _ (ne_d (by decide))).trans (f448 j)
    have f489 : σ22.1.1 (d + 9) = some (1, 8 * 0) := (k22.sh _ (ne_d (by decide))).trans f449
    have f490 : ∀ j, σ22.2 (d + 9) j = 0 := fun j => (k22.m _ _ (ne_d (by decide))).trans (f450 j)
    have f491 : σ22.1.2.1 (d + 8) (0) = d + 9 := (k22.rf _ _ (ne_d (by decide)) (ne_d (by decide))).trans f451
    have f492 : σ22.1.2.1 (d) (5) = d + 8 := (k22.rf _ _ (ne_0 (by decide)) (ne_0 (by decide))).trans f452
    have f493 : σ22.1.1 (d + 10) = some (0, 5) := (k22.sh _ (ne_d (by decide))).trans f453
    have f494 : ∀ j, σ22.2 (d + 10) j = 0 := fun j => (k22.m _ _ (ne_d (by decide))).trans (f454 j)
    have f495 : σ22.1.1 (d + 11) = some (1, 8 * 100) := (k22.sh _ (ne_d (by decide))).trans f455
    have f496 : ∀ j, σ22.2 (d + 11) j = 0 := fun j => (k22.m _ _ (ne_d (by decide))).trans (f456 j)
    have f497 : σ22.1.2.1 (d + 10) (0) = d + 11 := (k22.rf _ _ (ne_d (by decide)) (ne_d (by decide))).trans f457
    have f498 : σ22.1.2.1 (d) (6) = d + 10 := (k22.rf _ _ (ne_0 (by decide)) (ne_0 (by decide))).trans f458
    have f499 : σ22.1.1 (d + 12) = some (1, 30) := (k22.sh _ (ne_d (by decide))).trans f459
    have f500 : ∀ j, σ22.2 (d + 12) j = 0 := fun j => (k22.m _ _ (ne_d (by decide))).trans (f460 j)
    have f501 : σ22.1.2.1 (d) (7) = d + 12 := (k22.rf _ _ (ne_0 (by decide)) (ne_0 (by decide))).trans f461
    have f502 : σ22.1.1 (d + 13) = some (0, 5) := (k22.sh _ (ne_d (by decide))).trans f463
    have f503 : ∀ j, σ22.2 (d + 13) j = 0 := fun j => (k22.m _ _ (ne_d (by decide))).trans (f464 j)
    clear f425 f426 f427 f428 f429 f430 f431 f432 f433 f434 f435 f436 f437 f438 f439 f440 f441 f442 f443 f444 f445 f446 f447 f448 f449 f450 f451 f452 f453 f454 f455 f456 f457 f458 f459 f460 f461 f462 f463 f464
    have f504 : σ22.1.2.2 = d + 15 := k22.nx
    have f505 : σ22.1.1 (d + 14) = some (1, 8 * 36) := k22.sh0
    have f506 : ∀ j, σ22.2 (d + 14) j = 0 := k22.m0
    have f507 : σ22.1.2.1 (d + 13) (0) = d + 14 := k22.at0
    have b22 : BL d σ0 σ22 := BL.tr b21 (BL.own k22 (le_d (by decide)) (le_d (by decide)))
    refine zo_pos (Or.inr f502) ?_
    refine zo_sr2 (t := 6) (i := 0) f484 (by decide) ?_
    rintro σ23 k23
    have f508 : σ23.1.1 (d) = some (0, 1) := (congrFun k23.sh _).trans f465
    have f509 : σ23.1.1 (d + 1) = some (1, 5) := (congrFun k23.sh _).trans f466
    have f510 : ∀ j, σ23.2 (d + 1) j = 0 := fun j => (congrFun (congrFun k23.m _) _).trans (f467 j)
    have f511 : σ23.1.2.1 (d) (0) = d + 1 := (k23.rf _ _ (ne_0 (by decide))).trans f468
    have f512 : σ23.1.1 (d + 2) = some (0, 3) := (congrFun k23.sh _).trans f469
    have f513 : ∀ j, σ23.2 (d + 2) j = 0 := fun j => (congrFun (congrFun k23.m _) _).trans (f470 j)
    have f514 : σ23.1.1 (d + 3) = some (1, 6) := (congrFun k23.sh _).trans f471
    have f515 : ∀ j, σ23.2 (d + 3) j = 0 := fun j => (congrFun (congrFun k23.m _) _).trans (f472 j)
    have f516 : σ23.1.2.1 (d + 2) (0) = d + 3 := (k23.rf _ _ (ne_d (by decide))).trans f473
    have f517 : σ23.1.2.1 (d) (1) = d + 2 := (k23.rf _ _ (ne_0 (by decide))).trans f474
    have f518 : σ23.1.1 (d + 4) = some (0, 3) := (congrFun k23.sh _).trans f475
    have f519 : ∀ j, σ23.2 (d + 4) j = 0 := fun j => (congrFun (congrFun k23.m _) _).trans (f476 j)
    have f520 : σ23.1.1 (d + 5) = some (1, 6) := (congrFun k23.sh _).trans f477
    have f521 : ∀ j, σ23.2 (d + 5) j = 0 := fun j => (congrFun (congrFun k23.m _) _).trans (f478 j)
    have f522 : σ23.1.2.1 (d + 4) (0) = d + 5 := (k23.rf _ _ (ne_d (by decide))).trans f479
    have f523 : σ23.1.2.1 (d) (2) = d + 4 := (k23.rf _ _ (ne_0 (by decide))).trans f480
    have f524 : σ23.1.1 (d + 6) = some (1, 36) := (congrFun k23.sh _).trans f481
    have f525 : ∀ j, σ23.2 (d + 6) j = 0 := fun j => (congrFun (congrFun k23.m _) _).trans (f482 j)
    have f526 : σ23.1.2.1 (d) (3) = d + 6 := (k23.rf _ _ (ne_0 (by decide))).trans f483
    have f527 : σ23.1.1 (d + 7) = some (6, 6) := (congrFun k23.sh _).trans f484
    have f528 : ∀ j, σ23.2 (d + 7) j = 0 := fun j => (congrFun (congrFun k23.m _) _).trans (f485 j)
    have f529 : σ23.1.2.1 (d) (4) = d + 7 := (k23.rf _ _ (ne_0 (by decide))).trans f486
    have f530 : σ23.1.1 (d + 8) = some (0, 5) := (congrFun k23.sh _).trans f487
    have f531 : ∀ j, σ23.2 (d + 8) j = 0 := fun j => (congrFun (congrFun k23.m _) _).trans (f488 j)
    have f532 : σ23.1.1 (d + 9) = some (1, 8 * 0) := (congrFun k23.sh _).trans f489
    have f533 : ∀ j, σ23.2 (d + 9) j = 0 := fun j => (congrFun (congrFun k23.m _) _).trans (f490 j)
    have f534 : σ23.1.2.1 (d + 8) (0) = d + 9 := (k23.rf _ _ (ne_d (by decide))).trans f491
    have f535 : σ23.1.2.1 (d) (5) = d + 8 := (k23.rf _ _ (ne_0 (by decide))).trans f492
    have f536 : σ23.1.1 (d + 10) = some (0, 5) := (congrFun k23.sh _).trans f493
    have f537 : ∀ j, σ23.2 (d + 10) j = 0 := fun j => (congrFun (congrFun k23.m _) _).trans (f494 j)
    have f538 : σ23.1.1 (d + 11) = some (1, 8 * 100) := (congrFun k23.sh _).trans f495
    have f539 : ∀ j, σ23.2 (d + 11) j = 0 := fun j => (congrFun (congrFun k23.m _) _).trans (f496 j)
    have f540 : σ23.1.2.1 (d + 10) (0) = d + 11 := (k23.rf _ _ (ne_d (by decide))).trans f497
    have f541 : σ23.1.2.1 (d) (6) = d + 10 := (k23.rf _ _ (ne_0 (by decide))).trans f498
    have f542 : σ23.1.1 (d + 12) = some (1, 30) := (congrFun k23.sh _).trans f499
    have f543 : ∀ j, σ23.2 (d + 12) j = 0 := fun j => (congrFun (congrFun k23.m _) _).trans (f500 j)
    have f544 : σ23.1.2.1 (d) (7) = d + 12 := (k23.rf _ _ (ne_0 (by decide))).trans f501
    have f545 : σ23.1.1 (d + 13) = some (0, 5) := (congrFun k23.sh _).trans f502
    have f546 : ∀ j, σ23.2 (d + 13) j = 0 := fun j => (congrFun (congrFun k23.m _) _).trans (f503 j)
    have f547 : σ23.1.2.2 = d + 15 := k23.nx.trans f504
    have f548 : σ23.1.1 (d + 14) = some (1, 8 * 36) := (congrFun k23.sh _).trans f505
    have f549 : ∀ j, σ23.2 (d + 14) j = 0 := fun j => (congrFun (congrFun k23.m _) _).trans (f506 j)
    have f550 : σ23.1.2.1 (d + 13) (0) = d + 14 := (k23.rf _ _ (ne_d (by decide))).trans f507
    clear f465 f466 f467 f468 f469 f470 f471 f472 f473 f474 f475 f476 f477 f478 f479 f480 f481 f482 f483 f484 f485 f486 f487 f488 f489 f490 f491 f492 f493 f494 f495 f496 f497 f498 f499 f500 f501 f502 f503 f504 f505 f506 f507
    have f551 : σ23.1.2.1 (d + 7) (0) = d + 13 := k23.at0
    have b23 : BL d σ0 σ23 := BL.tr b22 (BL.pr k23 (le_d (by decide)))
    refine j_X1_init_85 ?_
    rw [show w32 (0 + 1) = 1 by decide]
    refine zo_gr2 f508 f529 rfl rfl ?_
    refine zo_al2 (t := 5) f527 ?_
    refine zo_pos (by decide) ?_
    refine zo_gr2 f508 f529 rfl rfl ?_
    refine zo_nw2 (a := d + 15) (c := d + 16) f547 (s_d (by decide)) ?_
    rintro σ24 k24
    have f552 : σ24.1.1 (d) = some (0, 1) := (k24.sh _ (ne_0 (by decide))).trans f508
    have f553 : σ24.1.1 (d + 1) = some (1, 5) := (k24.sh _ (ne_d (by decide))).trans f509
    have f554 : ∀ j, σ24.2 (d + 1) j = 0 := fun j => (k24.m _ _ (ne_d (by decide))).trans (f510 j)
    have f555 : σ24.1.2.1 (d) (0) = d + 1 := (k24.rf _ _ (ne_0 (by decide))).trans f511
    have f556 : σ24.1.1 (d + 2) = some (0, 3) := (k24.sh _ (ne_d (by decide))).trans f512
    have f557 : ∀ j, σ24.2 (d + 2) j = 0 := fun j => (k24.m _ _ (ne_d (by decide))).trans (f513 j)
    have f558 : σ24.1.1 (d + 3) = some (1, 6) := (k24.sh _ (ne_d (by decide))).trans f514
    have f559 : ∀ j, σ24.2 (d + 3) j = 0 := fun j => (k24.m _ _ (ne_d (by decide))).trans (f515 j)
    have f560 : σ24.1.2.1 (d + 2) (0) = d + 3 := (k24.rf _ _ (ne_d (by decide))).trans f516
    have f561 : σ24.1.2.1 (d) (1) = d + 2 := (k24.rf _ _ (ne_0 (by decide))).trans f517
    have f562 : σ24.1.1 (d + 4) = some (0, 3) := (k24.sh _ (ne_d (by decide))).trans f518
    have f563 : ∀ j, σ24.2 (d + 4) j = 0 := fun j => (k24.m _ _ (ne_d (by decide))).trans (f519 j)
    have f564 : σ24.1.1 (d + 5) = some (1, 6) := (k24.sh _ (ne_d (by decide))).trans f520
    have f565 : ∀ j, σ24.2 (d + 5) j = 0 := fun j => (k24.m _ _ (ne_d (by decide))).trans (f521 j)
    have f566 : σ24.1.2.1 (d + 4) (0) = d + 5 := (k24.rf _ _ (ne_d (by decide))).trans f522
    have f567 : σ24.1.2.1 (d) (2) = d + 4 := (k24.rf _ _ (ne_0 (by decide))).trans f523
    have f568 : σ24.1.1 (d + 6) = some (1, 36) := (k24.sh _ (ne_d (by decide))).trans f524
    have f569 : ∀ j, σ24.2 (d + 6) j = 0 := fun j => (k24.m _ _ (ne_d (by decide))).trans (f525 j)
    have f570 : σ24.1.2.1 (d) (3) = d + 6 := (k24.rf _ _ (ne_0 (by decide))).trans f526
    have f571 : σ24.1.1 (d + 7) = some (6, 6) := (k24.sh _ (ne_d (by decide))).trans f527
    have f572 : ∀ j, σ24.2 (d + 7) j = 0 := fun j => (k24.m _ _ (ne_d (by decide))).trans (f528 j)
    have f573 : σ24.1.2.1 (d) (4) = d + 7 := (k24.rf _ _ (ne_0 (by decide))).trans f529
    have f574 : σ24.1.1 (d + 8) = some (0, 5) := (k24.sh _ (ne_d (by decide))).trans f530
    have f575 : ∀ j, σ24.2 (d + 8) j = 0 := fun j => (k24.m _ _ (ne_d (by decide))).trans (f531 j)
    have f576 : σ24.1.1 (d + 9) = some (1, 8 * 0) := (k24.sh _ (ne_d (by decide))).trans f532
    have f577 : ∀ j, σ24.2 (d + 9) j = 0 := fun j => (k24.m _ _ (ne_d (by decide))).trans (f533 j)
    have f578 : σ24.1.2.1 (d + 8) (0) = d + 9 := (k24.rf _ _ (ne_d (by decide))).trans f534
    have f579 : σ24.1.2.1 (d) (5) = d + 8 := (k24.rf _ _ (ne_0 (by decide))).trans f535
    have f580 : σ24.1.1 (d + 10) = some (0, 5) := (k24.sh _ (ne_d (by decide))).trans f536
    have f581 : ∀ j, σ24.2 (d + 10) j = 0 := fun j => (k24.m _ _ (ne_d (by decide))).trans (f537 j)
    have f582 : σ24.1.1 (d + 11) = some (1, 8 * 100) := (k24.sh _ (ne_d (by decide))).trans f538
    have f583 : ∀ j, σ24.2 (d + 11) j = 0 := fun j => (k24.m _ _ (ne_d (by decide))).trans (f539 j)
    have f584 : σ24.1.2.1 (d + 10) (0) = d + 11 := (k24.rf _ _ (ne_d (by decide))).trans f540
    have f585 : σ24.1.2.1 (d) (6) = d + 10 := (k24.rf _ _ (ne_0 (by decide))).trans f541
    have f586 : σ24.1.1 (d + 12) = some (1, 30) := (k24.sh _ (ne_d (by decide))).trans f542
    have f587 : ∀ j, σ24.2 (d + 12) j = 0 := fun j => (k24.m _ _ (ne_d (by decide))).trans (f543 j)
    have f588 : σ24.1.2.1 (d) (7) = d + 12 := (k24.rf _ _ (ne_0 (by decide))).trans f544
    have f589 : σ24.1.1 (d + 13) = some (0, 5) := (k24.sh _ (ne_d (by decide))).trans f545
    have f590 : ∀ j, σ24.2 (d + 13) j = 0 := fun j => (k24.m _ _ (ne_d (by decide))).trans (f546 j)
    have f591 : σ24.1.1 (d + 14) = some (1, 8 * 36) := (k24.sh _ (ne_d (by decide))).trans f548
    have f592 : ∀ j, σ24.2 (d + 14) j = 0 := fun j => (k24.m _ _ (ne_d (by decide))).trans (f549 j)
    have f593 : σ24.1.2.1 (d + 13) (0) = d + 14 := (k24.rf _ _ (ne_d (by decide))).trans f550
    have f594 : σ24.1.2.1 (d + 7) (0) = d + 13 := (k24.rf _ _ (ne_d (by decide))).trans f551
    clear f508 f509 f510 f511 f512 f513 f514 f515 f516 f517 f518 f519 f520 f521 f522 f523 f524 f525 f526 f527 f528 f529 f530 f531 f532 f533 f534 f535 f536 f537 f538 f539 f540 f541 f542 f543 f544 f545 f546 f547 f548 f549 f550 f551
    have f595 : σ24.1.2.2 = d + 16 := k24.nx
    have f596 : σ24.1.1 (d + 15) = some (0, 5) := k24.sh0
    have f597 : ∀ j, σ24.2 (d + 15) j = 0 := k24.m0
    have b24 : BL d σ0 σ24 := BL.tr b23 (BL.mkn k24 (le_d (by decide)))
    refine zo_pos (le0_d hd (le_d (by decide))) ?_
    refine zo_own (c_X5_init (b := d + 16) (c := d + 17) (le0_d hd (le_d (by decide))) f596 f595 (s_d (by decide)) (s_d2 (by decide)) (by decide)) ?_
    rintro σ25 k25
    have f598 : σ25.1.1 (d) = some (0, 1) := (k25.sh _ (ne_0 (by decide))).trans f552
    have f599 : σ25.1.1 (d + 1) = some (1, 5) := (k25.sh _ (ne_d (by decide))).trans f553
    have f600 : ∀ j, σ25.2 (d + 1) j = 0 := fun j => (k25.m _ _ (ne_d (by decide))).trans (f554 j)
    have f601 : σ25.1.2.1 (d) (0) = d + 1 := (k25.rf _ _ (ne_0 (by decide)) (ne_0 (by decide))).trans f555
    have f602 : σ25.1.1 (d + 2) = some (0, 3) := (k25.sh _ (ne_d (by decide))).trans f556
    have f603 : ∀ j, σ25.2 (d + 2) j = 0 := fun j => (k25.m _ _ (ne_d (by decide))).trans (f557 j)
    have f604 : σ25.1.1 (d + 3) = some (1, 6) := (k25.sh _ (ne_d (by decide))).trans f558
    have f605 : ∀ j, σ25.2 (d + 3) j = 0 := fun j => (k25.m _ _ (ne_d (by decide))).trans (f559 j)
    have f606 : σ25.1.2.1 (d + 2) (0) = d + 3 := (k25.rf _ _ (ne_d (by decide)) (ne_d (by decide))).trans f560
    have f607 : σ25.1.2.1 (d) (1) = d + 2 := (k25.rf _ _ (ne_0 (by decide)) (ne_0 (by decide))).trans f561
    have f608 : σ25.1.1 (d + 4) = some (0, 3) := (k25.sh _ (ne_d (by decide))).trans f562
    have f609 : ∀ j, σ25.2 (d + 4) j = 0 := fun j => (k25.m _ _ (ne_d (by decide))).trans (f563 j)
    have f610 : σ25.1.1 (d + 5) = some (1, 6) := (k25.sh _ (ne_d (by decide))).trans f564
    have f611 : ∀ j, σ25.2 (d + 5) j = 0 := fun j => (k25.m _ _ (ne_d (by decide))).trans (f565 j)
    have f612 : σ25.1.2.1 (d + 4) (0) = d + 5 := (k25.rf _ _ (ne_d (by decide)) (ne_d (by decide))).trans f566
    have f613 : σ25.1.2.1 (d) (2) = d + 4 := (k25.rf _ _ (ne_0 (by decide)) (ne_0 (by decide))).trans f567
    have f614 : σ25.1.1 (d + 6) = some (1, 36) := (k25.sh _ (ne_d (by decide))).trans f568
    have f615 : ∀ j, σ25.2 (d + 6) j = 0 := fun j => (k25.m _ _ (ne_d (by decide))).trans (f569 j)
    have f616 : σ25.1.2.1 (d) (3) = d + 6 := (k25.rf _ _ (ne_0 (by decide)) (ne_0 (by decide))).trans f570
    have f617 : σ25.1.1 (d + 7) = some (6, 6) := (k25.sh _ (ne_d (by decide))).trans f571
    have f618 : ∀ j, σ25.2 (d + 7) j = 0 := fun j => (k25.m _ _ (ne_d (by decide))).trans (f572 j)
    have f619 : σ25.1.2.1 (d) (4) = d + 7 := (k25.rf _ _ (ne_0 (by decide)) (ne_0 (by decide))).trans f573
    have f620 : σ25.1.1 (d + 8) = some (0, 5) := (k25.sh _ (ne_d (by decide))).trans f574
    have f621 : ∀ j, σ25.2 (d + 8) j = 0 := fun j => (k25.m _ _ (ne_d (by decide))).trans (f575 j)
    have f622 : σ25.1.1 (d + 9) = some (1, 8 * 0) := (k25.sh _ (ne_d (by decide))).trans f576
    have f623 : ∀ j, σ25.2 (d + 9) j = 0 := fun j => (k25.m _ _ (ne_d (by decide))).trans (f577 j)
    have f624 : σ25.1.2.1 (d + 8) (0) = d + 9 := (k25.rf _ _ (ne_d (by decide)) (ne_d (by decide))).trans f578
    have f625 : σ25.1.2.1 (d) (5) = d + 8 := (k25.rf _ _ (ne_0 (by decide)) (ne_0 (by decide))).trans f579
    have f626 : σ25.1.1 (d + 10) = some (0, 5) := (k25.sh _ (ne_d (by decide))).trans f580
    have f627 : ∀ j, σ25.2 (d + 10) j = 0 := fun j => (k25.m _ _ (ne_d (by decide))).trans (f581 j)
    have f628 : σ25.1.1 (d + 11) = some (1, 8 * 100) := (k25.sh _ (ne_d (by decide))).trans f582
    have f629 : ∀ j, σ25.2 (d + 11) j = 0 := fun j => (k25.m _ _ (ne_d (by decide))).trans (f583 j)
    have f630 : σ25.1.2.1 (d + 10) (0) = d + 11 := (k25.rf _ _ (ne_d (by decide)) (ne_d (by decide))).trans f584
    have f631 : σ25.1.2.1 (d) (6) = d + 10 := (k25.rf _ _ (ne_0 (by decide)) (ne_0 (by decide))).trans f585
    have f632 : σ25.1.1 (d + 12) = some (1, 30) := (k25.sh _ (ne_d (by decide))).trans f586
    have f633 : ∀ j, σ25.2 (d + 12) j = 0 := fun j => (k25.m _ _ (ne_d (by decide))).trans (f587 j)
    have f634 : σ25.1.2.1 (d) (7) = d + 12 := (k25.rf _ _ (ne_0 (by decide)) (ne_0 (by decide))).trans f588
    have f635 : σ25.1.1 (d + 13) = some (0, 5) := (k25.sh _ (ne_d (by decide))).trans f589
    have f636 : ∀ j, σ25.2 (d + 13) j = 0 := fun j => (k25.m _ _ (ne_d (by decide))).trans (f590 j)
    have f637 : σ25.1.1 (d + 14) = some (1, 8 * 36) := (k25.sh _ (ne_d (by decide))).trans f591
    have f638 : ∀ j, σ25.2 (d + 14) j = 0 := fun j => (k25.m _ _ (ne_d (by decide))).trans (f592 j)
    have f639 : σ25.1.2.1 (d + 13) (0) = d + 14 := (k25.rf _ _ (ne_d (by decide)) (ne_d (by decide))).trans f593
    have f640 : σ25.1.2.1 (d + 7) (0) = d + 13 := (k25.rf _ _ (ne_d (by decide)) (ne_d (by decide))).trans f594
    have f641 : σ25.1.1 (d + 15) = some (0, 5) := (k25.sh _ (ne_d (by decide))).trans f596
    have f642 : ∀ j, σ25.2 (d + 15) j = 0 := fun j => (k25.m _ _ (ne_d (by decide))).trans (f597 j)
    clear f552 f553 f554 f555 f556 f557 f558 f559 f560 f561 f562 f563 f564 f565 f566 f567 f568 f569 f570 f571 f572 f573 f574 f575 f576 f577 f578 f579 f580 f581 f582 f583 f584 f585 f586 f587 f588 f589 f590 f591 f592 f593 f594 f595 f596 f597
    have f643 : σ25.1.2.2 = d + 17 := k25.nx
    have f644 : σ25.1.1 (d + 16) = some (1, 8 * 36) := k25.sh0
    have f645 : ∀ j, σ25.2 (d + 16) j = 0 := k25.m0
    have f646 : σ25.1.2.1 (d + 15) (0) = d + 16 := k25.at0
    have b25 : BL d σ0 σ25 := BL.tr b24 (BL.own k25 (le_d (by decide)) (le_d (by decide)))
    refine zo_pos (Or.inr f641) ?_
    refine zo_sr2 (t := 6) (i := 1) f617 (by decide) ?_
    rintro σ26 k26
    have f647 : σ26.1.1 (d) = some (0, 1) := (congrFun k26.sh _).trans f598
    have f648 : σ26.1.1 (d + 1) = some (1, 5) := (congrFun k26.sh _).trans f599
    have f649 : ∀ j, σ26.2 (d + 1) j = 0 := fun j => (congrFun (congrFun k26.m _) _).trans (f600 j)
    have f650 : σ26.1.2.1 (d) (0) = d + 1 := (k26.rf _ _ (ne_0 (by decide))).trans f601
    have f651 : σ26.1.1 (d + 2) = some (0, 3) := (congrFun k26.sh _).trans f602
    have f652 : ∀ j, σ26.2 (d + 2) j = 0 := fun j => (congrFun (congrFun k26.m _) _).trans (f603 j)
    have f653 : σ26.1.1 (d + 3) = some (1, 6) := (congrFun k26.sh _).trans f604
    have f654 : ∀ j, σ26.2 (d + 3) j = 0 := fun j => (congrFun (congrFun k26.m _) _).trans (f605 j)
    have f655 : σ26.1.2.1 (d + 2) (0) = d + 3 := (k26.rf _ _ (ne_d (by decide))).trans f606
    have f656 : σ26.1.2.1 (d) (1) = d + 2 := (k26.rf _ _ (ne_0 (by decide))).trans f607
    have f657 : σ26.1.1 (d + 4) = some (0, 3) := (congrFun k26.sh _).trans f608
    have f658 : ∀ j, σ26.2 (d + 4) j = 0 := fun j => (congrFun (congrFun k26.m _) _).trans (f609 j)
    have f659 : σ26.1.1 (d + 5) = some (1, 6) := (congrFun k26.sh _).trans f610
    have f660 : ∀ j, σ26.2 (d + 5) j = 0 := fun j => (congrFun (congrFun k26.m _) _).trans (f611 j)
    have f661 : σ26.1.2.1 (d + 4) (0) = d + 5 := (k26.rf _ _ (ne_d (by decide))).trans f612
    have f662 : σ26.1.2.1 (d) (2) = d + 4 := (k26.rf _ _ (ne_0 (by decide))).trans f613
    have f663 : σ26.1.1 (d + 6) = some (1, 36) := (congrFun k26.sh _).trans f614
    have f664 : ∀ j, σ26.2 (d + 6) j = 0 := fun j => (congrFun (congrFun k26.m _) _).trans (f615 j)
    have f665 : σ26.1.2.1 (d) (3) = d + 6 := (k26.rf _ _ (ne_0 (by decide))).trans f616
    have f666 : σ26.1.1 (d + 7) = some (6, 6) := (congrFun k26.sh _).trans f617
    have f667 : ∀ j, σ26.2 (d + 7) j = 0 := fun j => (congrFun (congrFun k26.m _) _).trans (f618 j)
    have f668 : σ26.1.2.1 (d) (4) = d + 7 := (k26.rf _ _ (ne_0 (by decide))).trans f619
    have f669 : σ26.1.1 (d + 8) = some (0, 5) := (congrFun k26.sh _).trans f620
    have f670 : ∀ j, σ26.2 (d + 8) j = 0 := fun j => (congrFun (congrFun k26.m _) _).trans (f621 j)
    have f671 : σ26.1.1 (d + 9) = some (1, 8 * 0) := (congrFun k26.sh _).trans f622
    have f672 : ∀ j, σ26.2 (d + 9) j = 0 := fun j => (congrFun (congrFun k26.m _) _).trans (f623 j)
    have f673 : σ26.1.2.1 (d + 8) (0) = d + 9 := (k26.rf _ _ (ne_d (by decide))).trans f624
    have f674 : σ26.1.2.1 (d) (5) = d + 8 := (k26.rf _ _ (ne_0 (by decide))).trans f625
    have f675 : σ26.1.1 (d + 10) = some (0, 5) := (congrFun k26.sh _).trans f626
    have f676 : ∀ j, σ26.2 (d + 10) j = 0 := fun j => (congrFun (congrFun k26.m _) _).trans (f627 j)
    have f677 : σ26.1.1 (d + 11) = some (1, 8 * 100) := (congrFun k26.sh _).trans f628
    have f678 : ∀ j, σ26.2 (d + 11) j = 0 := fun j => (congrFun (congrFun k26.m _) _).trans (f629 j)
    have f679 : σ26.1.2.1 (d + 10) (0) = d + 11 := (k26.rf _ _ (ne_d (by decide))).trans f630
    have f680 : σ26.1.2.1 (d) (6) = d + 10 := (k26.rf _ _ (ne_0 (by decide))).trans f631
    have f681 : σ26.1.1 (d + 12) = some (1, 30) := (congrFun k26.sh _).trans f632
    have f682 : ∀ j, σ26.2 (d + 12) j = 0 := fun j => (congrFun (congrFun k26.m _) _).trans (f633 j)
    have f683 : σ26.1.2.1 (d) (7) = d + 12 := (k26.rf _ _ (ne_0 (by decide))).trans f634
    have f684 : σ26.1.1 (d + 13) = some (0, 5) := (congrFun k26.sh _).trans f635
    have f685 : ∀ j, σ26.2 (d + 13) j = 0 := fun j => (congrFun (congrFun k26.m _) _).trans (f636 j)
    have f686 : σ26.1.1 (d + 14) = some (1, 8 * 36) := (congrFun k26.sh _).trans f637
    have f687 : ∀ j, σ26.2 (d + 14) j = 0 := fun j => (congrFun (congrFun k26.m _) _).trans (f638 j)
    have f688 : σ26.1.2.1 (d + 13) (0) = d + 14 := (k26.rf _ _ (ne_d (by decide))).trans f639
    have f689 : σ26.1.2.1 (d + 7) (0) = d + 13 := (k26.rj _ (by decide)).trans f640
    have f690 : σ26.1.1 (d + 15) = some (0, 5) := (congrFun k26.sh _).trans f641
    have f691 : ∀ j, σ26.2 (d + 15) j = 0 := fun j => (congrFun (congrFun k26.m _) _).trans (f642 j)
    have f692 : σ26.1.2.2 = d + 17 := k26.nx.trans f643
    have f693 : σ26.1.1 (d + 16) = some (1, 8 * 36) := (congrFun k26.sh _).trans f644
    have f694 : ∀ j, σ26.2 (d + 16) j = 0 := fun j => (congrFun (congrFun k26.m _) _).trans (f645 j)
    have f695 : σ26.1.2.1 (d + 15) (0) = d + 16 := (k26.rf _ _ (ne_d (by decide))).trans f646
    clear f598 f599 f600 f601 f602 f603 f604 f605 f606 f607 f608 f609 f610 f611 f612 f613 f614 f615 f616 f617 f618 f619 f620 f621 f622 f623 f624 f625 f626 f627 f628 f629 f630 f631 f632 f633 f634 f635 f636 f637 f638 f639 f640 f641 f642 f643 f644 f645 f646
    have f696 : σ26.1.2.1 (d + 7) (1) = d + 15 := k26.at0
    have b26 : BL d σ0 σ26 := BL.tr b25 (BL.pr k26 (le_d (by decide)))
    refine j_X1_init_85 ?_
    rw [show w32 (1 + 1) = 2 by decide]
    refine zo_gr2 f647 f668 rfl rfl ?_
    refine zo_al2 (t := 5) f666 ?_
    refine zo_pos (by decide) ?_
    refine zo_gr2 f647 f668 rfl rfl ?_
    refine zo_nw2 (a := d + 17) (c := d + 18) f692 (s_d (by decide)) ?_
    rintro σ27 k27
    have f697 : σ27.1.1 (d) = some (0, 1) := (k27.sh _ (ne_0 (by decide))).trans f647
    have f698 : σ27.1.1 (d + 1) = some (1, 5) := (k27.sh _ (ne_d (by decide))).trans f648
    have f699 : ∀ j, σ27.2 (d + 1) j = 0 := fun j => (k27.m _ _ (ne_d (by decide))).trans (f649 j)
    have f700 : σ27.1.2.1 (d) (0) = d + 1 := (k27.rf _ _ (ne_0 (by decide))).trans f650
    have f701 : σ27.1.1 (d + 2) = some (0, 3) := (k27.sh _ (ne_d (by decide))).trans f651
    have f702 : ∀ j, σ27.2 (d + 2) j = 0 := fun j => (k27.m _ _ (ne_d (by decide))).trans (f652 j)
    have f703 : σ27.1.1 (d + 3) = some (1, 6) := (k27.sh _ (ne_d (by decide))).trans f653
    have f704 : ∀ j, σ27.2 (d + 3) j = 0 := fun j => (k27.m _ _ (ne_d (by decide))).trans (f654 j)
    have f705 : σ27.1.2.1 (d + 2) (0) = d + 3 := (k27.rf _ _ (ne_d (by decide))).trans f655
    have f706 : σ27.1.2.1 (d) (1) = d + 2 := (k27.rf _ _ (ne_0 (by decide))).trans f656
    have f707 : σ27.1.1 (d + 4) = some (0, 3) := (k27.sh _ (ne_d (by decide))).trans f657
    have f708 : ∀ j, σ27.2 (d + 4) j = 0 := fun j => (k27.m _ _ (ne_d (by decide))).trans (f658 j)
    have f709 : σ27.1.1 (d + 5) = some (1, 6) := (k27.sh _ (ne_d (by decide))).trans f659
    have f710 : ∀ j, σ27.2 (d + 5) j = 0 := fun j => (k27.m _ _ (ne_d (by decide))).trans (f660 j)
    have f711 : σ27.1.2.1 (d + 4) (0) = d + 5 := (k27.rf _ _ (ne_d (by decide))).trans f661
    have f712 : σ27.1.2.1 (d) (2) = d + 4 := (k27.rf _ _ (ne_0 (by decide))).trans f662
    have f713 : σ27.1.1 (d + 6) = some (1, 36) := (k27.sh _ (ne_d (by decide))).trans f663
    have f714 : ∀ j, σ27.2 (d + 6) j = 0 := fun j => (k27.m _ _ (ne_d (by decide))).trans (f664 j)
    have f715 : σ27.1.2.1 (d) (3) = d + 6 := (k27.rf _ _ (ne_0 (by decide))).trans f665
    have f716 : σ27.1.1 (d + 7) = some (6, 6) := (k27.sh _ (ne_d (by decide))).trans f666
    have f717 : ∀ j, σ27.2 (d + 7) j = 0 := fun j => (k27.m _ _ (ne_d (by decide))).trans (f667 j)
    have f718 : σ27.1.2.1 (d) (4) = d + 7 := (k27.rf _ _ (ne_0 (by decide))).trans f668
    have f719 : σ27.1.1 (d + 8) = some (0, 5) := (k27.sh _ (ne_d (by decide))).trans f669
    have f720 : ∀ j, σ27.2 (d + 8) j = 0 := fun j => (k27.m _ _ (ne_d (by decide))).trans (f670 j)
    have f721 : σ27.1.1 (d + 9) = some (1, 8 * 0) := (k27.sh _ (ne_d (by decide))).trans f671
    have f722 : ∀ j, σ27.2 (d + 9) j = 0 := fun j => (k27.m _ _ (ne_d (by decide))).trans (f672 j)
    have f723 : σ27.1.2.1 (d + 8) (0) = d + 9 := (k27.rf _ _ (ne_d (by decide))).trans f673
    have f724 : σ27.1.2.1 (d) (5) = d + 8 := (k27.rf _ _ (ne_0 (by decide))).trans f674
    have f725 : σ27.1.1 (d + 10) = some (0, 5) := (k27.sh _ (ne_d (by decide))).trans f675
    have f726 : ∀ j, σ27.2 (d + 10) j = 0 := fun j => (k27.m _ _ (ne_d (by decide))).trans (f676 j)
    have f727 : σ27.1.1 (d + 11) = some (1, 8 * 100) := (k27.sh _ (ne_d (by decide))).trans f677
    have f728 : ∀ j, σ27.2 (d + 11) j = 0 := fun j => (k27.m _ _ (ne_d (by decide))).trans (f678 j)
    have f729 : σ27.1.2.1 (d + 10) (0) = d + 11 := (k27.rf _ _ (ne_d (by decide))).trans f679
    have f730 : σ27.1.2.1 (d) (6) = d + 10 := (k27.rf _ _ (ne_0 (by decide))).trans f680
    have f731 : σ27.1.1 (d + 12) = some (1, 30) := (k27.sh _ (ne_d (by decide))).trans f681
    have f732 : ∀ j, σ27.2 (d + 12) j = 0 := fun j => (k27.m _ _ (ne_d (by decide))).trans (f682 j)
    have f733 : σ27.1.2.1 (d) (7) = d + 12 := (k27.rf _ _ (ne_0 (by decide))).trans f683
    have f734 : σ27.1.1 (d + 13) = some (0, 5) := (k27.sh _ (ne_d (by decide))).trans f684
    have f735 : ∀ j, σ27.2 (d + 13) j = 0 := fun j => (k27.m _ _ (ne_d (by decide))).trans (f685 j)
    have f736 : σ27.1.1 (d + 14) = some (1, 8 * 36) := (k27.sh _ (ne_d (by decide))).trans f686
    have f737 : ∀ j, σ27.2 (d + 14) j = 0 := fun j => (k27.m _ _ (ne_d (by decide))).trans (f687 j)
    have f738 : σ27.1.2.1 (d + 13) (0) = d + 14 := (k27.rf _ _ (ne_d (by decide))).trans f688
    have f739 : σ27.1.2.1 (d + 7) (0) = d + 13 := (k27.rf _ _ (ne_d (by decide))).trans f689
    have f740 : σ27.1.1 (d + 15) = some (0, 5) := (k27.sh _ (ne_d (by decide))).trans f690
    have f741 : ∀ j, σ27.2 (d + 15) j = 0 := fun j => (k27.m _ _ (ne_d (by decide))).trans (f691 j)
    have f742 : σ27.1.1 (d + 16) = some (1, 8 * 36) := (k27.sh _ (ne_d (by decide))).trans f693
    have f743 : ∀ j, σ27.2 (d + 16) j = 0 := fun j => (k27.m _ _ (ne_d (by decide))).trans (f694 j)
    have f744 : σ27.1.2.1 (d + 15) (0) = d + 16 := (k27.rf _ _ (ne_d (by decide))).trans f695
    have f745 : σ27.1.2.1 (d + 7) (1) = d + 15 := (k27.rf _ _ (ne_d (by decide))).trans f696
    clear f647 f648 f649 f650 f651 f652 f653 f654 f655 f656 f657 f658 f659 f660 f661 f662 f663 f664 f665 f666 f667 f668 f669 f670 f671 f672 f673 f674 f675 f676 f677 f678 f679 f680 f681 f682 f683 f684 f685 f686 f687 f688 f689 f690 f691 f692 f693 f694 f695 f696
    have f746 : σ27.1.2.2 = d + 18 := k27.nx
    have f747 : σ27.1.1 (d + 17) = some (0, 5) := k27.sh0
    have f748 : ∀ j, σ27.2 (d + 17) j = 0 := k27.m0
    have b27 : BL d σ0 σ27 := BL.tr b26 (BL.mkn k27 (le_d (by decide)))
    refine zo_pos (le0_d hd (le_d (by decide))) ?_
    refine zo_own (c_X5_init (b := d + 18) (c := d + 19) (le0_d hd (le_d (by decide))) f747 f746 (s_d (by decide)) (s_d2 (by decide)) (by decide)) ?_
    rintro σ28 k28
    have f749 : σ28.1.1 (d) = some (0, 1) := (k28.sh _ (ne_0 (by decide))).trans f697
    have f750 : σ28.1.1 (d + 1) = some (1, 5) := (k28.sh _ (ne_d (by decide))).trans f698
    have f751 : ∀ j, σ28.2 (d + 1) j = 0 := fun j => (k28.m _ _ (ne_d (by decide))).trans (f699 j)
    have f752 : σ28.1.2.1 (d) (0) = d + 1 := (k28.rf _ _ (ne_0 (by decide)) (ne_0 (by decide))).trans f700
    have f753 : σ28.1.1 (d + 2) = some (0, 3) := (k28.sh _ (ne_d (by decide))).trans f701
    have f754 : ∀ j, σ28.2 (d + 2) j = 0 := fun j => (k28.m _ _ (ne_d (by decide))).trans (f702 j)
    have f755 : σ28.1.1 (d + 3) = some (1, 6) := (k28.sh _ (ne_d (by decide))).trans f703
    have f756 : ∀ j, σ28.2 (d + 3) j = 0 := fun j => (k28.m _ _ (ne_d (by decide))).trans (f704 j)
    have f757 : σ28.1.2.1 (d + 2) (0) = d + 3 := (k28.rf _ _ (ne_d (by decide)) (ne_d (by decide))).trans f705
    have f758 : σ28.1.2.1 (d) (1) = d + 2 := (k28.rf _ _ (ne_0 (by decide)) (ne_0 (by decide))).trans f706
    have f759 : σ28.1.1 (d + 4) = some (0, 3) := (k28.sh _ (ne_d (by decide))).trans f707
    have f760 : ∀ j, σ28.2 (d + 4) j = 0 := fun j => (k28.m _ _ (ne_d (by decide))).trans (f708 j)
    have f761 : σ28.1.1 (d + 5) = some (1, 6) := (k28.sh _ (ne_d (by decide))).trans f709
    have f762 : ∀ j, σ28.2 (d + 5) j = 0 := fun j => (k28.m _ _ (ne_d (by decide))).trans (f710 j)
    have f763 : σ28.1.2.1 (d + 4) (0) = d + 5 := (k28.rf _ _ (ne_d (by decide)) (ne_d (by decide))).trans f711
    have f764 : σ28.1.2.1 (d) (2) = d + 4 := (k28.rf _ _ (ne_0 (by decide)) (ne_0 (by decide))).trans f712
    have f765 : σ28.1.1 (d + 6) = some (1, 36) := (k28.sh _ (ne_d (by decide))).trans f713
    have f766 : ∀ j, σ28.2 (d + 6) j = 0 := fun j => (k28.m _ _ (ne_d (by decide))).trans (f714 j)
    have f767 : σ28.1.2.1 (d) (3) = d + 6 := (k28.rf _ _ (ne_0 (by decide)) (ne_0 (by decide))).trans f715
    have f768 : σ28.1.1 (d + 7) = some (6, 6) := (k28.sh _ (ne_d (by decide))).trans f716
    have f769 : ∀ j, σ28.2 (d + 7) j = 0 := fun j => (k28.m _ _ (ne_d (by decide))).trans (f717 j)
    have f770 : σ28.1.2.1 (d) (4) = d + 7 := (k28.rf _ _ (ne_0 (by decide)) (ne_0 (by decide))).trans f718
    have f771 : σ28.1.1 (d + 8) = some (0, 5) := (k28.sh _ (ne_d (by decide))).trans f719
    have f772 : ∀ j, σ28.2 (d + 8) j = 0 := fun j => (k28.m _ _ (ne_d (by decide))).trans (f720 j)
    have f773 : σ28.1.1 (d + 9) = some (1, 8 * 0) := (k28.sh _ (ne_d (by decide))).trans f721
    have f774 : ∀ j, σ28.2 (d + 9) j = 0 := fun j => (k28.m _ _ (ne_d (by decide))).trans (f722 j)
    have f775 : σ28.1.2.1 (d + 8) (0) = d + 9 := (k28.rf _ _ (ne_d (by decide)) (ne_d (by decide))).trans f723
    have f776 : σ28.1.2.1 (d) (5) = d + 8 := (k28.rf _ _ (ne_0 (by decide)) (ne_0 (by decide))).trans f724
    have f777 : σ28.1.1 (d + 10) = some (0, 5) := (k28.sh _ (ne_d (by decide))).trans f725
    have f778 : ∀ j, σ28.2 (d + 10) j = 0 := fun j => (k28.m _ _ (ne_d (by decide))).trans (f726 j)
    have f779 : σ28.1.1 (d + 11) = some (1, 8 * 100) := (k28.sh _ (ne_d (by decide))).trans f727
    have f780 : ∀ j, σ28.2 (d + 11) j = 0 := fun j => (k28.m _ _ (ne_d (by decide))).trans (f728 j)
    have f781 : σ28.1.2.1 (d + 10) (0) = d + 11 := (k28.rf _ _ (ne_d (by decide)) (ne_d (by decide))).trans f729
    have f782 : σ28.1.2.1 (d) (6) = d + 10 := (k28.rf _ _ (ne_0 (by decide)) (ne_0 (by decide))).trans f730
    have f783 : σ28.1.1 (d + 12) = some (1, 30) := (k28.sh _ (ne_d (by decide))).trans f731
    have f784 : ∀ j, σ28.2 (d + 12) j = 0 := fun j => (k28.m _ _ (ne_d (by decide))).trans (f732 j)
    have f785 : σ28.1.2.1 (d) (7) = d + 12 := (k28.rf _ _ (ne_0 (by decide)) (ne_0 (by decide))).trans f733
    have f786 : σ28.1.1 (d + 13) = some (0, 5) := (k28.sh _ (ne_d (by decide))).trans f734
    have f787 : ∀ j, σ28.2 (d + 13) j = 0 := fun j => (k28.m _ _ (ne_d (by decide))).trans (f735 j)
    have f788 : σ28.1.1 (d + 14) = some (1, 8 * 36) := (k28.sh _ (ne_d (by decide))).trans f736
    have f789 : ∀ j, σ28.2 (d + 14) j = 0 := fun j => (k28.m _ _ (ne_d (by decide))).trans (f737 j)
    have f790 : σ28.1.2.1 (d + 13) (0) = d + 14 := (k28.rf _ _ (ne_d (by decide)) (ne_d (by decide))).trans f738
    have f791 : σ28.1.2.1 (d + 7) (0) = d + 13 := (k28.rf _ _ (ne_d (by decide)) (ne_d (by decide))).trans f739
    have f792 : σ28.1.1 (d + 15) = some (0, 5) := (k28.sh _ (ne_d (by decide))).trans f740
    have f793 : ∀ j, σ28.2 (d + 15) j = 0 := fun j => (k28.m _ _ (ne_d (by decide))).trans (f741 j)
    have f794 : σ28.1.1 (d + 16) = some (1, 8 * 36) := (k28.sh _ (ne_d (by decide))).trans f742
    have f795 : ∀ j, σ28.2 (d + 16) j = 0 := fun j => (k28.m _ _ (ne_d (by decide))).trans (f743 j)
    have f796 : σ28.1.2.1 (d + 15) (0) = d + 16 := (k28.rf _ _ (ne_d (by decide)) (ne_d (by decide))).trans f744
    have f797 : σ28.1.2.1 (d + 7) (1) = d + 15 := (k28.rf _ _ (ne_d (by decide)) (ne_d (by decide))).trans f745
    have f798 : σ28.1.1 (d + 17) = some (0, 5) := (k28.sh _ (ne_d (by decide))).trans f747
    have f799 : ∀ j, σ28.2 (d + 17) j = 0 := fun j => (k28.m _ _ (ne_d (by decide))).trans (f748 j)
    clear f697 f698 f699 f700 f701 f702 f703 f704 f705 f706 f707 f708 f709 f710 f711 f712 f713 f714 f715 f716 f717 f718 f719 f720 f721 f722 f723 f724 f725 f726 f727 f728 f729 f730 f731 f732 f733 f734 f735 f736 f737 f738 f739 f740 f741 f742 f743 f744 f745 f746 f747 f748
    have f800 : σ28.1.2.2 = d + 19 := k28.nx
    have f801 : σ28.1.1 (d + 18) = some (1, 8 * 36) := k28.sh0
    have f802 : ∀ j, σ28.2 (d + 18) j = 0 := k28.m0
    have f803 : σ28.1.2.1 (d + 17) (0) = d + 18 := k28.at0
    have b28 : BL d σ0 σ28 := BL.tr b27 (BL.own k28 (le_d (by decide)) (le_d (by decide)))
    refine zo_pos (Or.inr f798) ?_
    refine zo_sr2 (t := 6) (i := 2) f768 (by decide) ?_
    rintro σ29 k29
    have f804 : σ29.1.1 (d) = some (0, 1) := (congrFun k29.sh _).trans f749
    have f805 : σ29.1.1 (d + 1) = some (1, 5) := (congrFun k29.sh _).trans f750
    have f806 : ∀ j, σ29.2 (d + 1) j = 0 := fun j => (congrFun (congrFun k29.m _) _).trans (f751 j)
    have f807 : σ29.1.2.1 (d) (0) = d + 1 := (k29.rf _ _ (ne_0 (by decide))).trans f752
    have f808 : σ29.1.1 (d + 2) = some (0, 3) := (congrFun k29.sh _).trans f753
    have f809 : ∀ j, σ29.2 (d + 2) j = 0 := fun j => (congrFun (congrFun k29.m _) _).trans (f754 j)
    have f810 : σ29.1.1 (d + 3) = some (1, 6) := (congrFun k29.sh _).trans f755
    have f811 : ∀ j, σ29.2 (d + 3) j = 0 := fun j => (congrFun (congrFun k29.m _) _).trans (f756 j)
    have f812 : σ29.1.2.1 (d + 2) (0) = d + 3 := (k29.rf _ _ (ne_d (by decide))).trans f757
    have f813 : σ29.1.2.1 (d) (1) = d + 2 := (k29.rf _ _ (ne_0 (by decide))).trans f758
    have f814 : σ29.1.1 (d + 4) = some (0, 3) := (congrFun k29.sh _).trans f759
    have f815 : ∀ j, σ29.2 (d + 4) j = 0 := fun j => (congrFun (congrFun k29.m _) _).trans (f760 j)
    have f816 : σ29.1.1 (d + 5) = some (1, 6) := (congrFun k29.sh _).trans f761
    have f817 : ∀ j, σ29.2 (d + 5) j = 0 := fun j => (congrFun (congrFun k29.m _) _).trans (f762 j)
    have f818 : σ29.1.2.1 (d + 4) (0) = d + 5 := (k29.rf _ _ (ne_d (by decide))).trans f763
    have f819 : σ29.1.2.1 (d) (2) = d + 4 := (k29.rf _ _ (ne_0 (by decide))).trans f764
    have f820 : σ29.1.1 (d + 6) = some (1, 36) := (congrFun k29.sh _).trans f765
    have f821 : ∀ j, σ29.2 (d + 6) j = 0 := fun j => (congrFun (congrFun k29.m _) _).trans (f766 j)
    have f822 : σ29.1.2.1 (d) (3) = d + 6 := (k29.rf _ _ (ne_0 (by decide))).trans f767
    have f823 : σ29.1.1 (d + 7) = some (6, 6) := (congrFun k29.sh _).trans f768
    have f824 : ∀ j, σ29.2 (d + 7) j = 0 := fun j => (congrFun (congrFun k29.m _) _).trans (f769 j)
    have f825 : σ29.1.2.1 (d) (4) = d + 7 := (k29.rf _ _ (ne_0 (by decide))).trans f770
    have f826 : σ29.1.1 (d + 8) = some (0, 5) := (congrFun k29.sh _).trans f771
    have f827 : ∀ j, σ29.2 (d + 8) j = 0 := fun j => (congrFun (congrFun k29.m _) _).trans (f772 j)
    have f828 : σ29.1.1 (d + 9) = some (1, 8 * 0) := (congrFun k29.sh _).trans f773
    have f829 : ∀ j, σ29.2 (d + 9) j = 0 := fun j => (congrFun (congrFun k29.m _) _).trans (f774 j)
    have f830 : σ29.1.2.1 (d + 8) (0) = d + 9 := (k29.rf _ _ (ne_d (by decide))).trans f775
    have f831 : σ29.1.2.1 (d) (5) = d + 8 := (k29.rf _ _ (ne_0 (by decide))).trans f776
    have f832 : σ29.1.1 (d + 10) = some (0, 5) := (congrFun k29.sh _).trans f777
    have f833 : ∀ j, σ29.2 (d + 10) j = 0 := fun j => (congrFun (congrFun k29.m _) _).trans (f778 j)
    have f834 : σ29.1.1 (d + 11) = some (1, 8 * 100) := (congrFun k29.sh _).trans f779
    have f835 : ∀ j, σ29.2 (d + 11) j = 0 := fun j => (congrFun (congrFun k29.m _) _).trans (f780 j)
    have f836 : σ29.1.2.1 (d + 10) (0) = d + 11 := (k29.rf _ _ (ne_d (by decide))).trans f781
    have f837 : σ29.1.2.1 (d) (6) = d + 10 := (k29.rf _ _ (ne_0 (by decide))).trans f782
    have f838 : σ29.1.1 (d + 12) = some (1, 30) := (congrFun k29.sh _).trans f783
    have f839 : ∀ j, σ29.2 (d + 12) j = 0 := fun j => (congrFun (congrFun k29.m _) _).trans (f784 j)
    have f840 : σ29.1.2.1 (d) (7) = d + 12 := (k29.rf _ _ (ne_0 (by decide))).trans f785
    have f841 : σ29.1.1 (d + 13) = some (0, 5) := (congrFun k29.sh _).trans f786
    have f842 : ∀ j, σ29.2 (d + 13) j = 0 := fun j => (congrFun (congrFun k29.m _) _).trans (f787 j)
    have f843 : σ29.1.1 (d + 14) = some (1, 8 * 36) := (congrFun k29.sh _).trans f788
    have f844 : ∀ j, σ29.2 (d + 14) j = 0 := fun j => (congrFun (congrFun k29.m _) _).trans (f789 j)
    have f845 : σ29.1.2.1 (d + 13) (0) = d + 14 := (k29.rf _ _ (ne_d (by decide))).trans f790
    have f846 : σ29.1.2.1 (d + 7) (0) = d + 13 := (k29.rj _ (by decide)).trans f791
    have f847 : σ29.1.1 (d + 15) = some (0, 5) := (congrFun k29.sh _).trans f792
    have f848 : ∀ j, σ29.2 (d + 15) j = 0 := fun j => (congrFun (congrFun k29.m _) _).trans (f793 j)
    have f849 : σ29.1.1 (d + 16) = some (1, 8 * 36) := (congrFun k29.sh _).trans f794
    have f850 : ∀ j, σ29.2 (d + 16) j = 0 := fun j => (congrFun (congrFun k29.m _) _).trans (f795 j)
    have f851 : σ29.1.2.1 (d + 15) (0) = d + 16 := (k29.rf _ _ (ne_d (by decide))).trans f796
    have f852 : σ29.1.2.1 (d + 7) (1) = d + 15 := (k29.rj _ (by decide)).trans f797
    have f853 : σ29.1.1 (d + 17) = some (0, 5) := (congrFun k29.sh _).trans f798
    have f854 : ∀ j, σ29.2 (d + 17) j = 0 := fun j => (congrFun (congrFun k29.m _) _).trans (f799 j)
    have f855 : σ29.1.2.2 = d + 19 := k29.nx.trans f800
    have f856 : σ29.1.1 (d + 18) = some (1, 8 * 36) := (congrFun k29.sh _).trans f801
    have f857 : ∀ j, σ29.2 (d + 18) j = 0 := fun j => (congrFun (congrFun k29.m _) _).trans (f802 j)
    have f858 : σ29.1.2.1 (d + 17) (0) = d + 18 := (k29.rf _ _ (ne_d (by decide))).trans f803
    clear f749 f750 f751 f752 f753 f754 f755 f756 f757 f758 f759 f760 f761 f762 f763 f764 f765 f766 f767 f768 f769 f770 f771 f772 f773 f774 f775 f776 f777 f778 f779 f780 f781 f782 f783 f784 f785 f786 f787 f788 f789 f790 f791 f792 f793 f794 f795 f796 f797 f798 f799 f800 f801 f802 f803
    have f859 : σ29.1.2.1 (d + 7) (2) = d + 17 := k29.at0
    have b29 : BL d σ0 σ29 := BL.tr b28 (BL.pr k29 (le_d (by decide)))
    refine j_X1_init_85 ?_
    rw [show w32 (2 + 1) = 3 by decide]
    refine zo_gr2 f804 f825 rfl rfl ?_
    refine zo_al2 (t := 5) f823 ?_
    refine zo_pos (by decide) ?_
    refine zo_gr2 f804 f825 rfl rfl ?_
    refine zo_nw2 (a := d + 19) (c := d + 20) f855 (s_d (by decide)) ?_
    rintro σ30 k30
    have f860 : σ30.1.1 (d) = some (0, 1) := (k30.sh _ (ne_0 (by decide))).trans f804
    have f861 : σ30.1.1 (d + 1) = some (1, 5) := (k30.sh _ (ne_d (by decide))).trans f805
    have f862 : ∀ j, σ30.2 (d + 1) j = 0 := fun j => (k30.m _ _ (ne_d (by decide))).trans (f806 j)
    have f863 : σ30.1.2.1 (d) (0) = d + 1 := (k30.rf _ _ (ne_0 (by decide))).trans f807
    have f864 : σ30.1.1 (d + 2) = some (0, 3) := (k30.sh _ (ne_d (by decide))).trans f808
    have f865 : ∀ j, σ30.2 (d + 2) j = 0 := fun j => (k30.m _ _ (ne_d (by decide))).trans (f809 j)
    have f866 : σ30.1.1 (d + 3) = some (1, 6) := (k30.sh _ (ne_d (by decide))).trans f810
    have f867 : ∀ j, σ30.2 (d + 3) j = 0 := fun j => (k30.m _ _ (ne_d (by decide))).trans (f811 j)
    have f868 : σ30.1.2.1 (d + 2) (0) = d + 3 := (k30.rf _ _ (ne_d (by decide))).trans f812
    have f869 : σ30.1.2.1 (d) (1) = d + 2 := (k30.rf _ _ (ne_0 (by decide))).trans f813
    have f870 : σ30.1.1 (d + 4) = some (0, 3) := (k30.sh _ (ne_d (by decide))).trans f814
    have f871 : ∀ j, σ30.2 (d + 4) j = 0 := fun j => (k30.m _ _ (ne_d (by decide))).trans (f815 j)
    have f872 : σ30.1.1 (d + 5) = some (1, 6) := (k30.sh _ (ne_d (by decide))).trans f816
    have f873 : ∀ j, σ30.2 (d + 5) j = 0 := fun j => (k30.m _ _ (ne_d (by decide))).trans (f817 j)
    have f874 : σ30.1.2.1 (d + 4) (0) = d + 5 := (k30.rf _ _ (ne_d (by decide))).trans f818
    have f875 : σ30.1.2.1 (d) (2) = d + 4 := (k30.rf _ _ (ne_0 (by decide))).trans f819
    have f876 : σ30.1.1 (d + 6) = some (1, 36) := (k30.sh _ (ne_d (by decide))).trans f820
    have f877 : ∀ j, σ30.2 (d + 6) j = 0 := fun j => (k30.m _ _ (ne_d (by decide))).trans (f821 j)
    have f878 : σ30.1.2.1 (d) (3) = d + 6 := (k30.rf _ _ (ne_0 (by decide))).trans f822
    have f879 : σ30.1.1 (d + 7) = some (6, 6) := (k30.sh _ (ne_d (by decide))).trans f823
    have f880 : ∀ j, σ30.2 (d + 7) j = 0 := fun j => (k30.m _ _ (ne_d (by decide))).trans (f824 j)
    have f881 : σ30.1.2.1 (d) (4) = d + 7 := (k30.rf _ _ (ne_0 (by decide))).trans f825
    have f882 : σ30.1.1 (d + 8) = some (0, 5) := (k30.sh _ (ne_d (by decide))).trans f826
    have f883 : ∀ j, σ30.2 (d + 8) j = 0 := fun j => (k30.m _ _ (ne_d (by decide))).trans (f827 j)
    have f884 : σ30.1.1 (d + 9) = some (1, 8 * 0) := (k30.sh _ (ne_d (by decide))).trans f828
    have f885 : ∀ j, σ30.2 (d + 9) j = 0 := fun j => (k30.m _ _ (ne_d (by decide))).trans (f829 j)
    have f886 : σ30.1.2.1 (d + 8) (0) = d + 9 := (k30.rf _ _ (ne_d (by decide))).trans f830
    have f887 : σ30.1.2.1 (d) (5) = d + 8 := (k30.rf _ _ (ne_0 (by decide))).trans f831
    have f888 : σ30.1.1 (d + 10) = some (0, 5) := (k30.sh _ (ne_d (by decide))).trans f832
    have f889 : ∀ j, σ30.2 (d + 10) j = 0 := fun j => (k30.m _ _ (ne_d (by decide))).trans (f833 j)
    have f890 : σ30.1.1 (d + 11) = some (1, 8 * 100) := (k30.sh _ (ne_d (by decide))).trans f834
    have f891 : ∀ j, σ30.2 (d + 11) j = 0 := fun j => (k30.m _ _ (ne_d (by decide))).trans (f835 j)
    have f892 : σ30.1.2.1 (d + 10) (0) = d + 11 := (k30.rf _ _ (ne_d (by decide))).trans f836
    have f893 : σ30.1.2.1 (d) (6) = d + 10 := (k30.rf _ _ (ne_0 (by decide))).trans f837
    have f894 : σ30.1.1 (d + 12) = some (1, 30) := (k30.sh _ (ne_d (by decide))).trans f838
    have f895 : ∀ j, σ30.2 (d + 12) j = 0 := fun j => (k30.m _ _ (ne_d (by decide))).trans (f839 j)
    have f896 : σ30.1.2.1 (d) (7) = d + 12 := (k30.rf _ _ (ne_0 (by decide))).trans f840
    have f897 : σ30.1.1 (d + 13) = some (0, 5) := (k30.sh _ (ne_d (by decide))).trans f841
    have f898 : ∀ j, σ30.2 (d + 13) j = 0 := fun j => (k30.m _ _ (ne_d (by decide))).trans (f842 j)
    have f899 : σ30.1.1 (d + 14) = some (1, 8 * 36) := (k30.sh _ (ne_d (by decide))).trans f843
    have f900 : ∀ j, σ30.2 (d + 14) j = 0 := fun j => (k30.m _ _ (ne_d (by decide))).trans (f844 j)
    have f901 : σ30.1.2.1 (d + 13) (0) = d + 14 := (k30.rf _ _ (ne_d (by decide))).trans f845
    have f902 : σ30.1.2.1 (d + 7) (0) = d + 13 := (k30.rf _ _ (ne_d (by decide))).trans f846
    have f903 : σ30.1.1 (d + 15) = some (0, 5) := (k30.sh _ (ne_d (by decide))).trans f847
    have f904 : ∀ j, σ30.2 (d + 15) j = 0 := fun j => (k30.m _ _ (ne_d (by decide))).trans (f848 j)
    have f905 : σ30.1.1 (d + 16) = some (1, 8 * 36) := (k30.sh _ (ne_d (by decide))).trans f849
    have f906 : ∀ j, σ30.2 (d + 16) j = 0 := fun j => (k30.m _ _ (ne_d (by decide))).trans (f850 j)
    have f907 : σ30.1.2.1 (d + 15) (0) = d + 16 := (k30.rf _ _ (ne_d (by decide))).trans f851
    have f908 : σ30.1.2.1 (d + 7) (1) = d + 15 := (k30.rf _ _ (ne_d (by decide))).trans f852
    have f909 : σ30.1.1 (d + 17) = some (0, 5) := (k30.sh _ (ne_d (by decide))).trans f853
    have f910 : ∀ j, σ30.2 (d + 17) j = 0 := fun j => (k30.m _ _ (ne_d (by decide))).trans (f854 j)
    have f911 : σ30.1.1 (d + 18) = some (1, 8 * 36) := (k30.sh _ (ne_d (by decide))).trans f856
    have f912 : ∀ j, σ30.2 (d + 18) j = 0 := fun j => (k30.m _ _ (ne_d (by decide))).trans (f857 j)
    have f913 : σ30.1.2.1 (d + 17) (0) = d + 18 := (k30.rf _ _ (ne_d (by decide))).trans f858
    have f914 : σ30.1.2.1 (d + 7) (2) = d + 17 := (k30.rf _ _ (ne_d (by decide))).trans f859
    clear f804 f805 f806 f807 f808 f809 f810 f811 f812 f813 f814 f815 f816 f817 f818 f819 f820 f821 f822 f823 f824 f825 f826 f827 f828 f829 f830 f831 f832 f833 f834 f835 f836 f837 f838 f839 f840 f841 f842 f843 f844 f845 f846 f847 f848 f849 f850 f851 f852 f853 f854 f855 f856 f857 f858 f859
    have f915 : σ30.1.2.2 = d + 20 := k30.nx
    have f916 : σ30.1.1 (d + 19) = some (0, 5) := k30.sh0
    have f917 : ∀ j, σ30.2 (d + 19) j = 0 := k30.m0
    have b30 : BL d σ0 σ30 := BL.tr b29 (BL.mkn k30 (le_d (by decide)))
    refine zo_pos (le0_d hd (le_d (by decide))) ?_
    refine zo_own (c_X5_init (b := d + 20) (c := d + 21) (le0_d hd (le_d (by decide))) f916 f915 (s_d (by decide)) (s_d2 (by decide)) (by decide)) ?_
    rintro σ31 k31
    have f918 : σ31.1.1 (d) = some (0, 1) := (k31.sh _ (ne_0 (by decide))).trans f860
    have f919 : σ31.1.1 (d + 1) = some (1, 5) := (k31.sh _ (ne_d (by decide))).trans f861
    have f920 : ∀ j, σ31.2 (d + 1) j = 0 := fun j => (k31.m _ _ (ne_d (by decide))).trans (f862 j)
    have f921 : σ31.1.2.1 (d) (0) = d + 1 := (k31.rf _ _ (ne_0 (by decide)) (ne_0 (by decide))).trans f863
    have f922 : σ31.1.1 (d + 2) = some (0, 3) := (k31.sh _ (ne_d (by decide))).trans f864
    have f923 : ∀ j, σ31.2 (d + 2) j = 0 := fun j => (k31.m _ _ (ne_d (by decide))).trans (f865 j)
    have f924 : σ31.1.1 (d + 3) = some (1, 6) := (k31.sh _ (ne_d (by decide))).trans f866
    have f925 : ∀ j, σ31.2 (d + 3) j = 0 := fun j => (k31.m _ _ (ne_d (by decide))).trans (f867 j)
    have f926 : σ31.1.2.1 (d + 2) (0) = d + 3 := (k31.rf _ _ (ne_d (by decide)) (ne_d (by decide))).trans f868
    have f927 : σ31.1.2.1 (d) (1) = d + 2 := (k31.rf _ _ (ne_0 (by decide)) (ne_0 (by decide))).trans f869
    have f928 : σ31.1.1 (d + 4) = some (0, 3) := (k31.sh _ (ne_d (by decide))).trans f870
    have f929 : ∀ j, σ31.2 (d + 4) j = 0 := fun j => (k31.m _ _ (ne_d (by decide))).trans (f871 j)
    have f930 : σ31.1.1 (d + 5) = some (1, 6) := (k31.sh _ (ne_d (by decide))).trans f872
    have f931 : ∀ j, σ31.2 (d + 5) j = 0 := fun j => (k31.m _ _ (ne_d (by decide))).trans (f873 j)
    have f932 : σ31.1.2.1 (d + 4) (0) = d + 5 := (k31.rf _ _ (ne_d (by decide)) (ne_d (by decide))).trans f874
    have f933 : σ31.1.2.1 (d) (2) = d + 4 := (k31.rf _ _ (ne_0 (by decide)) (ne_0 (by decide))).trans f875
    have f934 : σ31.1.1 (d + 6) = some (1, 36) := (k31.sh _ (ne_d (by decide))).trans f876
    have f935 : ∀ j, σ31.2 (d + 6) j = 0 := fun j => (k31.m _ _ (ne_d (by decide))).trans (f877 j)
    have f936 : σ31.1.2.1 (d) (3) = d + 6 := (k31.rf _ _ (ne_0 (by decide)) (ne_0 (by decide))).trans f878
    have f937 : σ31.1.1 (d + 7) = some (6, 6) := (k31.sh _ (ne_d (by decide))).trans f879
    have f938 : ∀ j, σ31.2 (d + 7) j = 0 := fun j => (k31.m _ _ (ne_d (by decide))).trans (f880 j)
    have f939 : σ31.1.2.1 (d) (4) = d + 7 := (k31.rf _ _ (ne_0 (by decide)) (ne_0 (by decide))).trans f881
    have f940 : σ31.1.1 (d + 8) = some (0, 5) := (k31.sh _ (ne_d (by decide))).trans f882
    have f941 : ∀ j, σ31.2 (d + 8) j = 0 := fun j => (k31.m _ _ (ne_d (by decide))).trans (f883 j)
    have f942 : σ31.1.1 (d + 9) = some (1, 8 * 0) := (k31.sh _ (ne_d (by decide))).trans f884
    have f943 : ∀ j, σ31.2 (d + 9) j = 0 := fun j => (k31.m _ _ (ne_d (by decide))).trans (f885 j)
    have f944 : σ31.1.2.1 (d + 8) (0) = d + 9 := (k31.rf _ _ (ne_d (by decide)) (ne_d (by decide))).trans f886
    have f945 : σ31.1.2.1 (d) (5) = d + 8 := (k31.rf _ _ (ne_0 (by decide)) (ne_0 (by decide))).trans f887
    have f946 : σ31.1.1 (d + 10) = some (0, 5) := (k31.sh _ (ne_d (by decide))).trans f888
    have f947 : ∀ j, σ31.2 (d + 10) j = 0 := fun j => (k31.m _ _ (ne_d (by decide))).trans (f889 j)
    have f948 : σ31.1.1 (d + 11) = some (1, 8 * 100) := (k31.sh _ (ne_d (by decide))).trans f890
    have f949 : ∀ j, σ31.2 (d + 11) j = 0 := fun j => (k31.m _ _ (ne_d (by decide))).trans (f891 j)
    have f950 : σ31.1.2.1 (d + 10) (0) = d + 11 := (k31.rf _ _ (ne_d (by decide)) (ne_d (by decide))).trans f892
    have f951 : σ31.1.2.1 (d) (6) = d + 10 := (k31.rf _ _ (ne_0 (by decide)) (ne_0 (by decide))).trans f893
    have f952 : σ31.1.1 (d + 12) = some (1, 30) := (k31.sh _ (ne_d (by decide))).trans f894
    have f953 : ∀ j, σ31.2 (d + 12) j = 0 := fun j => (k31.m _ _ (ne_d (by decide))).trans (f895 j)
    have f954 : σ31.1.2.1 (d) (7) = d + 12 := (k31.rf _ _ (ne_0 (by decide)) (ne_0 (by decide))).trans f896
    have f955 : σ31.1.1 (d + 13) = some (0, 5) := (k31.sh _ (ne_d (by decide))).trans f897
    have f956 : ∀ j, σ31.2 (d + 13) j = 0 := fun j => (k31.m _ _ (ne_d (by decide))).trans (f898 j)
    have f957 : σ31.1.1 (d + 14) = some (1, 8 * 36) := (k31.sh _ (ne_d (by decide))).trans f899
    have f958 : ∀ j, σ31.2 (d + 14) j = 0 := fun j => (k31.m _ _ (ne_d (by decide))).trans (f900 j)
    have f959 : σ31.1.2.1 (d + 13) (0) = d + 14 := (k31.rf _ _ (ne_d (by decide)) (ne_d (by decide))).trans f901
    have f960 : σ31.1.2.1 (d + 7) (0) = d + 13 := (k31.rf _ _ (ne_d (by decide)) (ne_d (by decide))).trans f902
    have f961 : σ31.1.1 (d + 15) = some (0, 5) := (k31.sh _ (ne_d (by decide))).trans f903
    have f962 : ∀ j, σ31.2 (d + 15) j = 0 := fun j => (k31.m _ _ (ne_d (by decide))).trans (f904 j)
    have f963 : σ31.1.1 (d + 16) = some (1, 8 * 36) := (k31.sh _ (ne_d (by decide))).trans f905
    have f964 : ∀ j, σ31.2 (d + 16) j = 0 := fun j => (k31.m _ _ (ne_d (by decide))).trans (f906 j)
    have f965 : σ31.1.2.1 (d + 15) (0) = d + 16 := (k31.rf _ _ (ne_d (by decide)) (ne_d (by decide))).trans f907
    have f966 : σ31.1.2.1 (d + 7) (1) = d + 15 := (k31.rf _ _ (ne_d (by decide)) (ne_d (by decide))).trans f908
    have f967 : σ31.1.1 (d + 17) = some (0, 5) := (k31.sh _ (ne_d (by decide))).trans f909
    have f968 : ∀ j, σ31.2 (d + 17) j = 0 := fun j => (k31.m _ _ (ne_d (by decide))).trans (f910 j)
    have f969 : σ31.1.1 (d + 18) = some (1, 8 * 36) := (k31.sh _ (ne_d (by decide))).trans f911
    have f970 : ∀ j, σ31.2 (d + 18) j = 0 := fun j => (k31.m _ _ (ne_d (by decide))).trans (f912 j)
    have f971 : σ31.1.2.1 (d + 17) (0) = d + 18 := (k31.rf _ _ (ne_d (by decide)) (ne_d (by decide))).trans f913
    have f972 : σ31.1.2.1 (d + 7) (2) = d + 17 := (k31.rf _ _ (ne_d (by decide)) (ne_d (by decide))).trans f914
    have f973 : σ31.1.1 (d + 19) = some (0, 5) := (k31.sh _ (ne_d (by decide))).trans f916
    have f974 : ∀ j, σ31.2 (d + 19) j = 0 := fun j => (k31.m _ _ (ne_d (by decide))).trans (f917 j)
    clear f860 f861 f862 f863 f864 f865 f866 f867 f868 f869 f870 f871 f872 f873 f874 f875 f876 f877 f878 f879 f880 f881 f882 f883 f884 f885 f886 f887 f888 f889 f890 f891 f892 f893 f894 f895 f896 f897 f898 f899 f900 f901 f902 f903 f904 f905 f906 f907 f908 f909 f910 f911 f912 f913 f914 f915 f916 f917
    have f975 : σ31.1.2.2 = d + 21 := k31.nx
    have f976 : σ31.1.1 (d + 20) = some (1, 8 * 36) := k31.sh0
    have f977 : ∀ j, σ31.2 (d + 20) j = 0 := k31.m0
    have f978 : σ31.1.2.1 (d + 19) (0) = d + 20 := k31.at0
    have b31 : BL d σ0 σ31 := BL.tr b30 (BL.own k31 (le_d (by decide)) (le_d (by decide)))
    refine zo_pos (Or.inr f973) ?_
    refine zo_sr2 (t := 6) (i := 3) f937 (by decide) ?_
    rintro σ32 k32
    have f979 : σ32.1.1 (d) = some (0, 1) := (congrFun k32.sh _).trans f918
    have f980 : σ32.1.1 (d + 1) = some (1, 5) := (congrFun k32.sh _).trans f919
    have f981 : ∀ j, σ32.2 (d + 1) j = 0 := fun j => (congrFun (congrFun k32.m _) _).trans (f920 j)
    have f982 : σ32.1.2.1 (d) (0) = d + 1 := (k32.rf _ _ (ne_0 (by decide))).trans f921
    have f983 : σ32.1.1 (d + 2) = some (0, 3) := (congrFun k32.sh _).trans f922
    have f984 : ∀ j, σ32.2 (d + 2) j = 0 := fun j => (congrFun (congrFun k32.m _) _).trans (f923 j)
    have f985 : σ32.1.1 (d + 3) = some (1, 6) := (congrFun k32.sh _).trans f924
    have f986 : ∀ j, σ32.2 (d + 3) j = 0 := fun j => (congrFun (congrFun k32.m _) _).trans (f925 j)
    have f987 : σ32.1.2.1 (d + 2) (0) = d + 3 := (k32.rf _ _ (ne_d (by decide))).trans f926
    have f988 : σ32.1.2.1 (d) (1) = d + 2 := (k32.rf _ _ (ne_0 (by decide))).trans f927
    have f989 : σ32.1.1 (d + 4) = some (0, 3) := (congrFun k32.sh _).trans f928
    have f990 : ∀ j, σ32.2 (d + 4) j = 0 := fun j => (congrFun (congrFun k32.m _) _).trans (f929 j)
    have f991 : σ32.1.1 (d + 5) = some (1, 6) := (congrFun k32.sh _).trans f930
    have f992 : ∀ j, σ32.2 (d + 5) j = 0 := fun j => (congrFun (congrFun k32.m _) _).trans (f931 j)
    have f993 : σ32.1.2.1 (d + 4) (0) = d + 5 := (k32.rf _ _ (ne_d (by decide))).trans f932
    have f994 : σ32.1.2.1 (d) (2) = d + 4 := (k32.rf _ _ (ne_0 (by decide))).trans f933
    have f995 : σ32.1.1 (d + 6) = some (1, 36) := (congrFun k32.sh _).trans f934
    have f996 : ∀ j, σ32.2 (d + 6) j = 0 := fun j => (congrFun (congrFun k32.m _) _).trans (f935 j)
    have f997 : σ32.1.2.1 (d) (3) = d + 6 := (k32.rf _ _ (ne_0 (by decide))).trans f936
    have f998 : σ32.1.1 (d + 7) = some (6, 6) := (congrFun k32.sh _).trans f937
    have f999 : ∀ j, σ32.2 (d + 7) j = 0 := fun j => (congrFun (congrFun k32.m _) _).trans (f938 j)
    have f1000 : σ32.1.2.1 (d) (4) = d + 7 := (k32.rf _ _ (ne_0 (by decide))).trans f939
    have f1001 : σ32.1.1 (d + 8) = some (0, 5) := (congrFun k32.sh _).trans f940
    have f1002 : ∀ j, σ32.2 (d + 8) j = 0 := fun j => (congrFun (congrFun k32.m _) _).trans (f941 j)
    have f1003 : σ32.1.1 (d + 9) = some (1, 8 * 0) := (congrFun k32.sh _).trans f942
    have f1004 : ∀ j, σ32.2 (d + 9) j = 0 := fun j => (congrFun (congrFun k32.m _) _).trans (f943 j)
    have f1005 : σ32.1.2.1 (d + 8) (0) = d + 9 := (k32.rf _ _ (ne_d (by decide))).trans f944
    have f1006 : σ32.1.2.1 (d) (5) = d + 8 := (k32.rf _ _ (ne_0 (by decide))).trans f945
    have f1007 : σ32.1.1 (d + 10) = some (0, 5) := (congrFun k32.sh _).trans f946
    have f1008 : ∀ j, σ32.2 (d + 10) j = 0 := fun j => (congrFun (congrFun k32.m _) _).trans (f947 j)
    have f1009 : σ32.1.1 (d + 11) = some (1, 8 * 100) := (congrFun k32.sh _).trans f948
    have f1010 : ∀ j, σ32.2 (d + 11) j = 0 := fun j => (congrFun (congrFun k32.m _) _).trans (f949 j)
    have f1011 : σ32.1.2.1 (d + 10) (0) = d + 11 := (k32.rf _ _ (ne_d (by decide))).trans f950
    have f1012 : σ32.1.2.1 (d) (6) = d + 10 := (k32.rf _ _ (ne_0 (by decide))).trans f951
    have f1013 : σ32.1.1 (d + 12) = some (1, 30) := (congrFun k32.sh _).trans f952
    have f1014 : ∀ j, σ32.2 (d + 12) j = 0 := fun j => (congrFun (congrFun k32.m _) _).trans (f953 j)
    have f1015 : σ32.1.2.1 (d) (7) = d + 12 := (k32.rf _ _ (ne_0 (by decide))).trans f954
    have f1016 : σ32.1.1 (d + 13) = some (0, 5) := (congrFun k32.sh _).trans f955
    have f1017 : ∀ j, σ32.2 (d + 13) j = 0 := fun j => (congrFun (congrFun k32.m _) _).trans (f956 j)
    have f1018 : σ32.1.1 (d + 14) = some (1, 8 * 36) := (congrFun k32.sh _).trans f957
    have f1019 : ∀ j, σ32.2 (d + 14) j = 0 := fun j => (congrFun (congrFun k32.m _) _).trans (f958 j)
    have f1020 : σ32.1.2.1 (d + 13) (0) = d + 14 := (k32.rf _ _ (ne_d (by decide))).trans f959
    have f1021 : σ32.1.2.1 (d + 7) (0) = d + 13 := (k32.rj _ (by decide)).trans f960
    have f1022 : σ32.1.1 (d + 15) = some (0, 5) := (congrFun k32.sh _).trans f961
    have f1023 : ∀ j, σ32.2 (d + 15) j = 0 := fun j => (congrFun (congrFun k32.m _) _).trans (f962 j)
    have f1024 : σ32.1.1 (d + 16) = some (1, 8 * 36) := (congrFun k32.sh _).trans f963
    have f1025 : ∀ j, σ32.2 (d + 16) j = 0 := fun j => (congrFun (congrFun k32.m _) _).trans (f964 j)
    have f1026 : σ32.1.2.1 (d + 15) (0) = d + 16 := (k32.rf _ _ (ne_d (by decide))).trans f965
    have f1027 : σ32.1.2.1 (d + 7) (1) = d + 15 := (k32.rj _ (by decide)).trans f966
    have f1028 : σ32.1.1 (d + 17) = some (0, 5) := (congrFun k32.sh _).trans f967
    have f1029 : ∀ j, σ32.2 (d + 17) j = 0 := fun j => (congrFun (congrFun k32.m _) _).trans (f968 j)
    have f1030 : σ32.1.1 (d + 18) = some (1, 8 * 36) := (congrFun k32.sh _).trans f969
    have f1031 : ∀ j, σ32.2 (d + 18) j = 0 := fun j => (congrFun (congrFun k32.m _) _).trans (f970 j)
    have f1032 : σ32.1.2.1 (d + 17) (0) = d + 18 := (k32.rf _ _ (ne_d (by decide))).trans f971
    have f1033 : σ32.1.2.1 (d + 7) (2) = d + 17 := (k32.rj _ (by decide)).trans f972
    have f1034 : σ32.1.1 (d + 19) = some (0, 5) := (congrFun k32.sh _).trans f973
    have f1035 : ∀ j, σ32.2 (d + 19) j = 0 := fun j => (congrFun (congrFun k32.m _) _).trans (f974 j)
    have f1036 : σ32.1.2.2 = d + 21 := k32.nx.trans f975
    have f1037 : σ32.1.1 (d + 20) = some (1, 8 * 36) := (congrFun k32.sh _).trans f976
    have f1038 : ∀ j, σ32.2 (d + 20) j = 0 := fun j => (congrFun (congrFun k32.m _) _).trans (f977 j)
    have f1039 : σ32.1.2.1 (d + 19) (0) = d + 20 := (k32.rf _ _ (ne_d (by decide))).trans f978
    clear f918 f919 f920 f921 f922 f923 f924 f925 f926 f927 f928 f929 f930 f931 f932 f933 f934 f935 f936 f937 f938 f939 f940 f941 f942 f943 f944 f945 f946 f947 f948 f949 f950 f951 f952 f953 f954 f955 f956 f957 f958 f959 f960 f961 f962 f963 f964 f965 f966 f967 f968 f969 f970 f971 f972 f973 f974 f975 f976 f977 f978
    have f1040 : σ32.1.2.1 (d + 7) (3) = d + 19 := k32.at0
    have b32 : BL d σ0 σ32 := BL.tr b31 (BL.pr k32 (le_d (by decide)))
    refine j_X1_init_85 ?_
    rw [show w32 (3 + 1) = 4 by decide]
    refine zo_gr2 f979 f1000 rfl rfl ?_
    refine zo_al2 (t := 5) f998 ?_
    refine zo_pos (by decide) ?_
    refine zo_gr2 f979 f1000 rfl rfl ?_
    refine zo_nw2 (a := d + 21) (c := d + 22) f1036 (s_d (by decide)) ?_
    rintro σ33 k33
    have f1041 : σ33.1.1 (d) = some (0, 1) := (k33.sh _ (ne_0 (by decide))).trans f979
    have f1042 : σ33.1.1 (d + 1) = some (1, 5) := (k33.sh _ (ne_d (by decide))).trans f980
    have f1043 : ∀ j, σ33.2 (d + 1) j = 0 := fun j => (k33.m _ _ (ne_d (by decide))).trans (f981 j)
    have f1044 : σ33.1.2.1 (d) (0) = d + 1 := (k33.rf _ _ (ne_0 (by decide))).trans f982
    have f1045 : σ33.1.1 (d + 2) = some (0, 3) := (k33.sh _ (ne_d (by decide))).trans f983
    have f1046 : ∀ j, σ33.2 (d + 2) j = 0 := fun j => (k33.m _ _ (ne_d (by decide))).trans (f984 j)
    have f1047 : σ33.1.1 (d + 3) = some (1, 6) := (k33.sh _ (ne_d (by decide))).trans f985
    have f1048 : ∀ j, σ33.2 (d + 3) j = 0 := fun j => (k33.m _ _ (ne_d (by decide))).trans (f986 j)
    have f1049 : σ33.1.2.1 (d + 2) (0) = d + 3 := (k33.rf _ _ (ne_d (by decide))).trans f987
    have f1050 : σ33.1.2.1 (d) (1) = d + 2 := (k33.rf _ _ (ne_0 (by decide))).trans f988
    have f1051 : σ33.1.1 (d + 4) = some (0, 3) := (k33.sh _ (ne_d (by decide))).trans f989
    have f1052 : ∀ j, σ33.2 (d + 4) j = 0 := fun j => (k33.m _ _ (ne_d (by decide))).trans (f990 j)
    have f1053 : σ33.1.1 (d + 5) = some (1, 6) := (k33.sh _ (ne_d (by decide))).trans f991
    have f1054 : ∀ j, σ33.2 (d + 5) j = 0 := fun j => (k33.m _ _ (ne_d (by decide))).trans (f992 j)
    have f1055 : σ33.1.2.1 (d + 4) (0) = d + 5 := (k33.rf _ _ (ne_d (by decide))).trans f993
    have f1056 : σ33.1.2.1 (d) (2) = d + 4 := (k33.rf _ _ (ne_0 (by decide))).trans f994
    have f1057 : σ33.1.1 (d + 6) = some (1, 36) := (k33.sh _ (ne_d (by decide))).trans f995
    have f1058 : ∀ j, σ33.2 (d + 6) j = 0 := fun j => (k33.m _ _ (ne_d (by decide))).trans (f996 j)
    have f1059 : σ33.1.2.1 (d) (3) = d + 6 := (k33.rf _ _ (ne_0 (by decide))).trans f997
    have f1060 : σ33.1.1 (d + 7) = some (6, 6) := (k33.sh _ (ne_d (by decide))).trans f998
    have f1061 : ∀ j, σ33.2 (d + 7) j = 0 := fun j => (k33.m _ _ (ne_d (by decide))).trans (f999 j)
    have f1062 : σ33.1.2.1 (d) (4) = d + 7 := (k33.rf _ _ (ne_0 (by decide))).trans f1000
    have f1063 : σ33.1.1 (d + 8) = some (0, 5) := (k33.sh _ (ne_d (by decide))).trans f1001
    have f1064 : ∀ j, σ33.2 (d + 8) j = 0 := fun j => (k33.m _ _ (ne_d (by decide))).trans (f1002 j)
    have f1065 : σ33.1.1 (d + 9) = some (1, 8 * 0) := (k33.sh _ (ne_d (by decide))).trans f1003
    have f1066 : ∀ j, σ33.2 (d + 9) j = 0 := fun j => (k33.m _ _ (ne_d (by decide))).trans (f1004 j)
    have f1067 : σ33.1.2.1 (d + 8) (0) = d + 9 := (k33.rf _ _ (ne_d (by decide))).trans f1005
    have f1068 : σ33.1.2.1 (d) (5) = d + 8 := (k33.rf _ _ (ne_0 (by decide))).trans f1006
    have f1069 : σ33.1.1 (d + 10) = some (0, 5) := (k33.sh _ (ne_d (by decide))).trans f1007
    have f1070 : ∀ j, σ33.2 (d + 10) j = 0 := fun j => (k33.m _ _ (ne_d (by decide))).trans (f1008 j)
    have f1071 : σ33.1.1 (d + 11) = some (1, 8 * 100) := (k33.sh _ (ne_d (by decide))).trans f1009
    have f1072 : ∀ j, σ33.2 (d + 11) j = 0 := fun j => (k33.m _ _ (ne_d (by decide))).trans (f1010 j)
    have f1073 : σ33.1.2.1 (d + 10) (0) = d + 11 := (k33.rf _ _ (ne_d (by decide))).trans f1011
    have f1074 : σ33.1.2.1 (d) (6) = d + 10 := (k33.rf _ _ (ne_0 (by decide))).trans f1012
    have f1075 : σ33.1.1 (d + 12) = some (1, 30) := (k33.sh _ (ne_d (by decide))).trans f1013
    have f1076 : ∀ j, σ33.2 (d + 12) j = 0 := fun j => (k33.m _ _ (ne_d (by decide))).trans (f1014 j)
    have f1077 : σ33.1.2.1 (d) (7) = d + 12 := (k33.rf _ _ (ne_0 (by decide))).trans f1015
    have f1078 : σ33.1.1 (d + 13) = some (0, 5) := (k33.sh _ (ne_d (by decide))).trans f1016
    have f1079 : ∀ j, σ33.2 (d + 13) j = 0 := fun j => (k33.m _ _ (ne_d (by decide))).trans (f1017 j)
    have f1080 : σ33.1.1 (d + 14) = some (1, 8 * 36) := (k33.sh _ (ne_d (by decide))).trans f1018
    have f1081 : ∀ j, σ33.2 (d + 14) j = 0 := fun j => (k33.m _ _ (ne_d (by decide))).trans (f1019 j)
    have f1082 : σ33.1.2.1 (d + 13) (0) = d + 14 := (k33.rf _ _ (ne_d (by decide))).trans f1020
    have f1083 : σ33.1.2.1 (d + 7) (0) = d + 13 := (k33.rf _ _ (ne_d (by decide))).trans f1021
    have f1084 : σ33.1.1 (d + 15) = some (0, 5) := (k33.sh _ (ne_d (by decide))).trans f1022
    have f1085 : ∀ j, σ33.2 (d + 15) j = 0 := fun j => (k33.m _ _ (ne_d (by decide))).trans (f1023 j)
    have f1086 : σ33.1.1 (d + 16) = some (1, 8 * 36) := (k33.sh _ (ne_d (by decide))).trans f1024
    have f1087 : ∀ j, σ33.2 (d + 16) j = 0 := fun j => (k33.m _ _ (ne_d (by decide))).trans (f1025 j)
    have f1088 : σ33.1.2.1 (d + 15) (0) = d + 16 := (k33.rf _ _ (ne_d (by decide))).trans f1026
    have f1089 : σ33.1.2.1 (d + 7) (1) = d + 15 := (k33.rf _ _ (ne_d (by decide))).trans f1027
    have f1090 : σ33.1.1 (d + 17) = some (0, 5) := (k33.sh _ (ne_d (by decide))).trans f1028
    have f1091 : ∀ j, σ33.2 (d + 17) j = 0 := fun j => (k33.m _ _ (ne_d (by decide))).trans (f1029 j)
    have f1092 : σ33.1.1 (d + 18) = some (1, 8 * 36) := (k33.sh _ (ne_d (by decide))).trans f1030
    have f1093 : ∀ j, σ33.2 (d + 18) j = 0 := fun j => (k33.m _ _ (ne_d (by decide))).trans (f1031 j)
    have f1094 : σ33.1.2.1 (d + 17) (0) = d + 18 := (k33.rf _ _ (ne_d (by decide))).trans f1032
    have f1095 : σ33.1.2.1 (d + 7) (2) = d + 17 := (k33.rf _ _ (ne_d (by decide))).trans f1033
    have f1096 : σ33.1.1 (d + 19) = some (0, 5) := (k33.sh _ (ne_d (by decide))).trans f1034
    have f1097 : ∀ j, σ33.2 (d + 19) j = 0 := fun j => (k33.m _ _ (ne_d (by decide))).trans (f1035 j)
    have f1098 : σ33.1.1 (d + 20) = some (1, 8 * 36) := (k33.sh _ (ne_d (by decide))).trans f1037
    have f1099 : ∀ j, σ33.2 (d + 20) j = 0 := fun j => (k33.m _ _ (ne_d (by decide))).trans (f1038 j)
    have f1100 : σ33.1.2.1 (d + 19) (0) = d + 20 := (k33.rf _ _ (ne_d (by decide))).trans f1039
    have f1101 : σ33.1.2.1 (d + 7) (3) = d + 19 := (k33.rf _ _ (ne_d (by decide))).trans f1040
    clear f979 f980 f981 f982 f983 f984 f985 f986 f987 f988 f989 f990 f991 f992 f993 f994 f995 f996 f997 f998 f999 f1000 f1001 f1002 f1003 f1004 f1005 f1006 f1007 f1008 f1009 f1010 f1011 f1012 f1013 f1014 f1015 f1016 f1017 f1018 f1019 f1020 f1021 f1022 f1023 f1024 f1025 f1026 f1027 f1028 f1029 f1030 f1031 f1032 f1033 f1034 f1035 f1036 f1037 f1038 f1039 f1040
    have f1102 : σ33.1.2.2 = d + 22 := k33.nx
    have f1103 : σ33.1.1 (d + 21) = some (0, 5) := k33.sh0
    have f1104 : ∀ j, σ33.2 (d + 21) j = 0 := k33.m0
    have b33 : BL d σ0 σ33 := BL.tr b32 (BL.mkn k33 (le_d (by decide)))
    refine zo_pos (le0_d hd (le_d (by decide))) ?_
    refine zo_own (c_X5_init (b := d + 22) (c := d + 23) (le0_d hd (le_d (by decide))) f1103 f1102 (s_d (by decide)) (s_d2 (by decide)) (by decide)) ?_
    rintro σ34 k34
    have f1105 : σ34.1.1 (d) = some (0, 1) := (k34.sh _ (ne_0 (by decide))).trans f1041
    have f1106 : σ34.1.1 (d + 1) = some (1, 5) := (k34.sh _ (ne_d (by decide))).trans f1042
    have f1107 : ∀ j, σ34.2 (d + 1) j = 0 := fun j => (k34.m _ _ (ne_d (by decide))).trans (f1043 j)
    have f1108 : σ34.1.2.1 (d) (0) = d + 1 := (k34.rf _ _ (ne_0 (by decide)) (ne_0 (by decide))).trans f1044
    have f1109 : σ34.1.1 (d + 2) = some (0, 3) := (k34.sh _ (ne_d (by decide))).trans f1045
    have f1110 : ∀ j, σ34.2 (d + 2) j = 0 := fun j => (k34.m _ _ (ne_d (by decide))).trans (f1046 j)
    have f1111 : σ34.1.1 (d + 3) = some (1, 6) := (k34.sh _ (ne_d (by decide))).trans f1047
    have f1112 : ∀ j, σ34.2 (d + 3) j = 0 := fun j => (k34.m _ _ (ne_d (by decide))).trans (f1048 j)
    have f1113 : σ34.1.2.1 (d + 2) (0) = d + 3 := (k34.rf _ _ (ne_d (by decide)) (ne_d (by decide))).trans f1049
    have f1114 : σ34.1.2.1 (d) (1) = d + 2 := (k34.rf _ _ (ne_0 (by decide)) (ne_0 (by decide))).trans f1050
    have f1115 : σ34.1.1 (d + 4) = some (0, 3) := (k34.sh _ (ne_d (by decide))).trans f1051
    have f1116 : ∀ j, σ34.2 (d + 4) j = 0 := fun j => (k34.m _ _ (ne_d (by decide))).trans (f1052 j)
    have f1117 : σ34.1.1 (d + 5) = some (1, 6) := (k34.sh _ (ne_d (by decide))).trans f1053
    have f1118 : ∀ j, σ34.2 (d + 5) j = 0 := fun j => (k34.m _ _ (ne_d (by decide))).trans (f1054 j)
    have f1119 : σ34.1.2.1 (d + 4) (0) = d + 5 := (k34.rf _ _ (ne_d (by decide)) (ne_d (by decide))).trans f1055
    have f1120 : σ34.1.2.1 (d) (2) = d + 4 := (k34.rf _ _ (ne_0 (by decide)) (ne_0 (by decide))).trans f1056
    have f1121 : σ34.1.1 (d + 6) = some (1, 36) := (k34.sh _ (ne_d (by decide))).trans f1057
    have f1122 : ∀ j, σ34.2 (d + 6) j = 0 := fun j => (k34.m _ _ (ne_d (by decide))).trans (f1058 j)
    have f1123 : σ34.1.2.1 (d) (3) = d + 6 := (k34.rf _ _ (ne_0 (by decide)) (ne_0 (by decide))).trans f1059
    have f1124 : σ34.1.1 (d + 7) = some (6, 6) := (k34.sh _ (ne_d (by decide))).trans f1060
    have f1125 : ∀ j, σ34.2 (d + 7) j = 0 := fun j => (k34.m _ _ (ne_d (by decide))).trans (f1061 j)
    have f1126 : σ34.1.2.1 (d) (4) = d + 7 := (k34.rf _ _ (ne_0 (by decide)) (ne_0 (by decide))).trans f1062
    have f1127 : σ34.1.1 (d + 8) = some (0, 5) := (k34.sh _ (ne_d (by decide))).trans f1063
    have f1128 : ∀ j, σ34.2 (d + 8) j = 0 := fun j => (k34.m _ _ (ne_d (by decide))).trans (f1064 j)
    have f1129 : σ34.1.1 (d + 9) = some (1, 8 * 0) := (k34.sh _ (ne_d (by decide))).trans f1065
    have f1130 : ∀ j, σ34.2 (d + 9) j = 0 := fun j => (k34.m _ _ (ne_d (by decide))).trans (f1066 j)
    have f1131 : σ34.1.2.1 (d + 8) (0) = d + 9 := (k34.rf _ _ (ne_d (by decide)) (ne_d (by decide))).trans f1067
    have f1132 : σ34.1.2.1 (d) (5) = d + 8 := (k34.rf _ _ (ne_0 (by decide)) (ne_0 (by decide))).trans f1068
    have f1133 : σ34.1.1 (d + 10) = some (0, 5) := (k34.sh _ (ne_d (by decide))).trans f1069
    have f1134 : ∀ j, σ34.2 (d + 10) j = 0 := fun j => (k34.m _ _ (ne_d (by decide))).trans (f1070 j)
    have f1135 : σ34.1.1 (d + 11) = some (1, 8 * 100) := (k34.sh _ (ne_d (by decide))).trans f1071
    have f1136 : ∀ j, σ34.2 (d + 11) j = 0 := fun j => (k34.m _ _ (ne_d (by decide))).trans (f1072 j)
    have f1137 : σ34.1.2.1 (d + 10) (0) = d + 11 := (k34.rf _ _ (ne_d (by decide)) (ne_d (by decide))).trans f1073
    have f1138 : σ34.1.2.1 (d) (6) = d + 10 := (k34.rf _ _ (ne_0 (by decide)) (ne_0 (by decide))).trans f1074
    have f1139 : σ34.1.1 (d + 12) = some (1, 30) := (k34.sh _ (ne_d (by decide))).trans f1075
    have f1140 : ∀ j, σ34.2 (d + 12) j = 0 := fun j => (k34.m _ _ (ne_d (by decide))).trans (f1076 j)
    have f1141 : σ34.1.2.1 (d) (7) = d + 12 := (k34.rf _ _ (ne_0 (by decide)) (ne_0 (by decide))).trans f1077
    have f1142 : σ34.1.1 (d + 13) = some (0, 5) := (k34.sh _ (ne_d (by decide))).trans f1078
    have f1143 : ∀ j, σ34.2 (d + 13) j = 0 := fun j => (k34.m _ _ (ne_d (by decide))).trans (f1079 j)
    have f1144 : σ34.1.1 (d + 14) = some (1, 8 * 36) := (k34.sh _ (ne_d (by decide))).trans f1080
    have f1145 : ∀ j, σ34.2 (d + 14) j = 0 := fun j => (k34.m _ _ (ne_d (by decide))).trans (f1081 j)
    have f1146 : σ34.1.2.1 (d + 13) (0) = d + 14 := (k34.rf _ _ (ne_d (by decide)) (ne_d (by decide))).trans f1082
    have f1147 : σ34.1.2.1 (d + 7) (0) = d + 13 := (k34.rf _ _ (ne_d (by decide)) (ne_d (by decide))).trans f1083
    have f1148 : σ34.1.1 (d + 15) = some (0, 5) := (k34.sh _ (ne_d (by decide))).trans f1084
    have f1149 : ∀ j, σ34.2 (d + 15) j = 0 := fun j => (k34.m _ _ (ne_d (by decide))).trans (f1085 j)
    have f1150 : σ34.1.1 (d + 16) = some (1, 8 * 36) := (k34.sh _ (ne_d (by decide))).trans f1086
    have f1151 : ∀ j, σ34.2 (d + 16) j = 0 := fun j => (k34.m _ _ (ne_d (by decide))).trans (f1087 j)
    have f1152 : σ34.1.2.1 (d + 15) (0) = d + 16 := (k34.rf _ _ (ne_d (by decide)) (ne_d (by decide))).trans f1088
    have f1153 : σ34.1.2.1 (d + 7) (1) = d + 15 := (k34.rf _ _ (ne_d (by decide)) (ne_d (by decide))).trans f1089
    have f1154 : σ34.1.1 (d + 17) = some (0, 5) := (k34.sh _ (ne_d (by decide))).trans f1090
    have f1155 : ∀ j, σ34.2 (d + 17) j = 0 := fun j => (k34.m _ _ (ne_d (by decide))).trans (f1091 j)
    have f1156 : σ34.1.1 (d + 18) = some (1, 8 * 36) := (k34.sh _ (ne_d (by decide))).trans f1092
    have f1157 : ∀ j, σ34.2 (d + 18) j = 0 := fun j => (k34.m _ _ (ne_d (by decide))).trans (f1093 j)
    have f1158 : σ34.1.2.1 (d + 17) (0) = d + 18 := (k34.rf _ _ (ne_d (by decide)) (ne_d (by decide))).trans f1094
    have f1159 : σ34.1.2.1 (d + 7) (2) = d + 17 := (k34.rf _ _ (ne_d (by decide)) (ne_d (by decide))).trans f1095
    have f1160 : σ34.1.1 (d + 19) = some (0, 5) := (k34.sh _ (ne_d (by decide))).trans f1096
    have f1161 : ∀ j, σ34.2 (d + 19) j = 0 := fun j => (k34.m _ _ (ne_d (by decide))).trans (f1097 j)
    have f1162 : σ34.1.1 (d + 20) = some (1, 8 * 36) := (k34.sh _ (ne_d (by decide))).trans f1098
    have f1163 : ∀ j, σ34.2 (d + 20) j = 0 := fun j => (k34.m _ _ (ne_d (by decide))).trans (f1099 j)
    have f1164 : σ34.1.2.1 (d + 19) (0) = d + 20 := (k34.rf _ _ (ne_d (by decide)) (ne_d (by decide))).trans f1100
    have f1165 : σ34.1.2.1 (d + 7) (3) = d + 19 := (k34.rf _ _ (ne_d (by decide)) (ne_d (by decide))).trans f1101
    have f1166 : σ34.1.1 (d + 21) = some (0, 5) := (k34.sh _ (ne_d (by decide))).trans f1103
    have f1167 : ∀ j, σ34.2 (d + 21) j = 0 := fun j => (k34.m _ _ (ne_d (by decide))).trans (f1104 j)
    clear f1041 f1042 f1043 f1044 f1045 f1046 f1047 f1048 f1049 f1050 f1051 f1052 f1053 f1054 f1055 f1056 f1057 f1058 f1059 f1060 f1061 f1062 f1063 f1064 f1065 f1066 f1067 f1068 f1069 f1070 f1071 f1072 f1073 f1074 f1075 f1076 f1077 f1078 f1079 f1080 f1081 f1082 f1083 f1084 f1085 f1086 f1087 f1088 f1089 f1090 f1091 f1092 f1093 f1094 f1095 f1096 f1097 f1098 f1099 f1100 f1101 f1102 f1103 f1104
    have f1168 : σ34.1.2.2 = d + 23 := k34.nx
    have f1169 : σ34.1.1 (d + 22) = some (1, 8 * 36) := k34.sh0
    have f1170 : ∀ j, σ34.2 (d + 22) j = 0 := k34.m0
    have f1171 : σ34.1.2.1 (d + 21) (0) = d + 22 := k34.at0
    have b34 : BL d σ0 σ34 := BL.tr b33 (BL.own k34 (le_d (by decide)) (le_d (by decide)))
    refine zo_pos (Or.inr f1166) ?_
    refine zo_sr2 (t := 6) (i := 4) f1124 (by decide) ?_
    rintro σ35 k35
    have f1172 : σ35.1.1 (d) = some (0, 1) := (congrFun k35.sh _).trans f1105
    have f1173 : σ35.1.1 (d + 1) = some (1, 5) := (congrFun k35.sh _).trans f1106
    have f1174 : ∀ j, σ35.2 (d + 1) j = 0 := fun j => (congrFun (congrFun k35.m _) _).trans (f1107 j)
    have f1175 : σ35.1.2.1 (d) (0) = d + 1 := (k35.rf _ _ (ne_0 (by decide))).trans f1108
    have f1176 : σ35.1.1 (d + 2) = some (0, 3) := (congrFun k35.sh _).trans f1109
    have f1177 : ∀ j, σ35.2 (d + 2) j = 0 := fun j => (congrFun (congrFun k35.m _) _).trans (f1110 j)
    have f1178 : σ35.1.1 (d + 3) = some (1, 6) := (congrFun k35.sh _).trans f1111
    have f1179 : ∀ j, σ35.2 (d + 3) j = 0 := fun j => (congrFun (congrFun k35.m _) _).trans (f1112 j)
    have f1180 : σ35.1.2.1 (d + 2) (0) = d + 3 := (k35.rf _ _ (ne_d (by decide))).trans f1113
    have f1181 : σ35.1.2.1 (d) (1) = d + 2 := (k35.rf _ _ (ne_0 (by decide))).trans f1114
    have f1182 : σ35.1.1 (d + 4) = some (0, 3) := (congrFun k35.sh _).trans f1115
    have f1183 : ∀ j, σ35.2 (d + 4) j = 0 := fun j => (congrFun (congrFun k35.m _) _).trans (f1116 j)
    have f1184 : σ35.1.1 (d + 5) = some (1, 6) := (congrFun k35.sh _).trans f1117
    have f1185 : ∀ j, σ35.2 (d + 5) j = 0 := fun j => (congrFun (congrFun k35.m _) _).trans (f1118 j)
    have f1186 : σ35.1.2.1 (d + 4) (0) = d + 5 := (k35.rf _ _ (ne_d (by decide))).trans f1119
    have f1187 : σ35.1.2.1 (d) (2) = d + 4 := (k35.rf _ _ (ne_0 (by decide))).trans f1120
    have f1188 : σ35.1.1 (d + 6) = some (1, 36) := (congrFun k35.sh _).trans f1121
    have f1189 : ∀ j, σ35.2 (d + 6) j = 0 := fun j => (congrFun (congrFun k35.m _) _).trans (f1122 j)
    have f1190 : σ35.1.2.1 (d) (3) = d + 6 := (k35.rf _ _ (ne_0 (by decide))).trans f1123
    have f1191 : σ35.1.1 (d + 7) = some (6, 6) := (congrFun k35.sh _).trans f1124
    have f1192 : ∀ j, σ35.2 (d + 7) j = 0 := fun j => (congrFun (congrFun k35.m _) _).trans (f1125 j)
    have f1193 : σ35.1.2.1 (d) (4) = d + 7 := (k35.rf _ _ (ne_0 (by decide))).trans f1126
    have f1194 : σ35.1.1 (d + 8) = some (0, 5) := (congrFun k35.sh _).trans f1127
    have f1195 : ∀ j, σ35.2 (d + 8) j = 0 := fun j => (congrFun (congrFun k35.m _) _).trans (f1128 j)
    have f1196 : σ35.1.1 (d + 9) = some (1, 8 * 0) := (congrFun k35.sh _).trans f1129
    have f1197 : ∀ j, σ35.2 (d + 9) j = 0 := fun j => (congrFun (congrFun k35.m _) _).trans (f1130 j)
    have f1198 : σ35.1.2.1 (d + 8) (0) = d + 9 := (k35.rf _ _ (ne_d (by decide))).trans f1131
    have f1199 : σ35.1.2.1 (d) (5) = d + 8 := (k35.rf _ _ (ne_0 (by decide))).trans f1132
    have f1200 : σ35.1.1 (d + 10) = some (0, 5) := (congrFun k35.sh _).trans f1133
    have f1201 : ∀ j, σ35.2 (d + 10) j = 0 := fun j => (congrFun (congrFun k35.m _) _).trans (f1134 j)
    have f1202 : σ35.1.1 (d + 11) = some (1, 8 * 100) := (congrFun k35.sh _).trans f1135
    have f1203 : ∀ j, σ35.2 (d + 11) j = 0 := fun j => (congrFun (congrFun k35.m _) _).trans (f1136 j)
    have f1204 : σ35.1.2.1 (d + 10) (0) = d + 11 := (k35.rf _ _ (ne_d (by decide))).trans f1137
    have f1205 : σ35.1.2.1 (d) (6) = d + 10 := (k35.rf _ _ (ne_0 (by decide))).trans f1138
    have f1206 : σ35.1.1 (d + 12) = some (1, 30) := (congrFun k35.sh _).trans f1139
    have f1207 : ∀ j, σ35.2 (d + 12) j = 0 := fun j => (congrFun (congrFun k35.m _) _).trans (f1140 j)
    have f1208 : σ35.1.2.1 (d) (7) = d + 12 := (k35.rf _ _ (ne_0 (by decide))).trans f1141
    have f1209 : σ35.1.1 (d + 13) = some (0, 5) := (congrFun k35.sh _).trans f1142
    have f1210 : ∀ j, σ35.2 (d + 13) j = 0 := fun j => (congrFun (congrFun k35.m _) _).trans (f1143 j)
    have f1211 : σ35.1.1 (d + 14) = some (1, 8 * 36) := (congrFun k35.sh _).trans f1144
    have f1212 : ∀ j, σ35.2 (d + 14) j = 0 := fun j => (congrFun (congrFun k35.m _) _).trans (f1145 j)
    have f1213 : σ35.1.2.1 (d + 13) (0) = d + 14 := (k35.rf _ _ (ne_d (by decide))).trans f1146
    have f1214 : σ35.1.2.1 (d + 7) (0) = d + 13 := (k35.rj _ (by decide)).trans f1147
    have f1215 : σ35.1.1 (d + 15) = some (0, 5) := (congrFun k35.sh _).trans f1148
    have f1216 : ∀ j, σ35.2 (d + 15) j = 0 := fun j => (congrFun (congrFun k35.m _) _).trans (f1149 j)
    have f1217 : σ35.1.1 (d + 16) = some (1, 8 * 36) := (congrFun k35.sh _).trans f1150
    have f1218 : ∀ j, σ35.2 (d + 16) j = 0 := fun j => (congrFun (congrFun k35.m _) _).trans (f1151 j)
    have f1219 : σ35.1.2.1 (d + 15) (0) = d + 16 := (k35.rf _ _ (ne_d (by decide))).trans f1152
    have f1220 : σ35.1.2.1 (d + 7) (1) = d + 15 := (k35.rj _ (by decide)).trans f1153
    have f1221 : σ35.1.1 (d + 17) = some (0, 5) := (congrFun k35.sh _).trans f1154
    have f1222 : ∀ j, σ35.2 (d + 17) j = 0 := fun j => (congrFun (congrFun k35.m _) _).trans (f1155 j)
    have f1223 : σ35.1.1 (d + 18) = some (1, 8 * 36) := (congrFun k35.sh _).trans f1156
    have f1224 : ∀ j, σ35.2 (d + 18) j = 0 := fun j => (congrFun (congrFun k35.m _) _).trans (f1157 j)
    have f1225 : σ35.1.2.1 (d + 17) (0) = d + 18 := (k35.rf _ _ (ne_d (by decide))).trans f1158
    have f1226 : σ35.1.2.1 (d + 7) (2) = d + 17 := (k35.rj _ (by decide)).trans f1159
    have f1227 : σ35.1.1 (d + 19) = some (0, 5) := (congrFun k35.sh _).trans f1160
    have f1228 : ∀ j, σ35.2 (d + 19) j = 0 := fun j => (congrFun (congrFun k35.m _) _).trans (f1161 j)
    have f1229 : σ35.1.1 (d + 20) = some (1, 8 * 36) := (congrFun k35.sh _).trans f1162
    have f1230 : ∀ j, σ35.2 (d + 20) j = 0 := fun j => (congrFun (congrFun k35.m _) _).trans (f1163 j)
    have f1231 : σ35.1.2.1 (d + 19) (0) = d + 20 := (k35.rf _ _ (ne_d (by decide))).trans f1164
    have f1232 : σ35.1.2.1 (d + 7) (3) = d + 19 := (k35.rj _ (by decide)).trans f1165
    have f1233 : σ35.1.1 (d + 21) = some (0, 5) := (congrFun k35.sh _).trans f1166
    have f1234 : ∀ j, σ35.2 (d + 21) j = 0 := fun j => (congrFun (congrFun k35.m _) _).trans (f1167 j)
    have f1235 : σ35.1.2.2 = d + 23 := k35.nx.trans f1168
    have f1236 : σ35.1.1 (d + 22) = some (1, 8 * 36) := (congrFun k35.sh _).trans f1169
    have f1237 : ∀ j, σ35.2 (d + 22) j = 0 := fun j => (congrFun (congrFun k35.m _) _).trans (f1170 j)
    have f1238 : σ35.1.2.1 (d + 21) (0) = d + 22 := (k35.rf _ _ (ne_d (by decide))).trans f1171
    clear f1105 f1106 f1107 f1108 f1109 f1110 f1111 f1112 f1113 f1114 f1115 f1116 f1117 f1118 f1119 f1120 f1121 f1122 f1123 f1124 f1125 f1126 f1127 f1128 f1129 f1130 f1131 f1132 f1133 f1134 f1135 f1136 f1137 f1138 f1139 f1140 f1141 f1142 f1143 f1144 f1145 f1146 f1147 f1148 f1149 f1150 f1151 f1152 f1153 f1154 f1155 f1156 f1157 f1158 f1159 f1160 f1161 f1162 f1163 f1164 f1165 f1166 f1167 f1168 f1169 f1170 f1171
    have f1239 : σ35.1.2.1 (d + 7) (4) = d + 21 := k35.at0
    have b35 : BL d σ0 σ35 := BL.tr b34 (BL.pr k35 (le_d (by decide)))
    refine j_X1_init_85 ?_
    rw [show w32 (4 + 1) = 5 by decide]
    refine zo_gr2 f1172 f1193 rfl rfl ?_
    refine zo_al2 (t := 5) f1191 ?_
    refine zo_pos (by decide) ?_
    refine zo_gr2 f1172 f1193 rfl rfl ?_
    refine zo_nw2 (a := d + 23) (c := d + 24) f1235 (s_d (by decide)) ?_
    rintro σ36 k36
    have f1240 : σ36.1.1 (d) = some (0, 1) := (k36.sh _ (ne_0 (by decide))).trans f1172
    have f1241 : σ36.1.1 (d + 1) = some (1, 5) := (k36.sh _ (ne_d (by decide))).trans f1173
    have f1242 : ∀ j, σ36.2 (d + 1) j = 0 := fun j => (k36.m _ _ (ne_d (by decide))).trans (f1174 j)
    have f1243 : σ36.1.2.1 (d) (0) = d + 1 := (k36.rf _ _ (ne_0 (by decide))).trans f1175
    have f1244 : σ36.1.1 (d + 2) = some (0, 3) := (k36.sh _ (ne_d (by decide))).trans f1176
    have f1245 : ∀ j, σ36.2 (d + 2) j = 0 := fun j => (k36.m _ _ (ne_d (by decide))).trans (f1177 j)
    have f1246 : σ36.1.1 (d + 3) = some (1, 6) := (k36.sh _ (ne_d (by decide))).trans f1178
    have f1247 : ∀ j, σ36.2 (d + 3) j = 0 := fun j => (k36.m _ _ (ne_d (by decide))).trans (f1179 j)
    have f1248 : σ36.1.2.1 (d + 2) (0) = d + 3 := (k36.rf _ _ (ne_d (by decide))).trans f1180
    have f1249 : σ36.1.2.1 (d) (1) = d + 2 := (k36.rf _ _ (ne_0 (by decide))).trans f1181
    have f1250 : σ36.1.1 (d + 4) = some (0, 3) := (k36.sh _ (ne_d (by decide))).trans f1182
    have f1251 : ∀ j, σ36.2 (d + 4) j = 0 := fun j => (k36.m _ _ (ne_d (by decide))).trans (f1183 j)
    have f1252 : σ36.1.1 (d + 5) = some (1, 6) := (k36.sh _ (ne_d (by decide))).trans f1184
    have f1253 : ∀ j, σ36.2 (d + 5) j = 0 := fun j => (k36.m _ _ (ne_d (by decide))).trans (f1185 j)
    have f1254 : σ36.1.2.1 (d + 4) (0) = d + 5 := (k36.rf _ _ (ne_d (by decide))).trans f1186
    have f1255 : σ36.1.2.1 (d) (2) = d + 4 := (k36.rf _ _ (ne_0 (by decide))).trans f1187
    have f1256 : σ36.1.1 (d + 6) = some (1, 36) := (k36.sh _ (ne_d (by decide))).trans f1188
    have f1257 : ∀ j, σ36.2 (d + 6) j = 0 := fun j => (k36.m _ _ (ne_d (by decide))).trans (f1189 j)
    have f1258 : σ36.1.2.1 (d) (3) = d + 6 := (k36.rf _ _ (ne_0 (by decide))).trans f1190
    have f1259 : σ36.1.1 (d + 7) = some (6, 6) := (k36.sh _ (ne_d (by decide))).trans f1191
    have f1260 : ∀ j, σ36.2 (d + 7) j = 0 := fun j => (k36.m _ _ (ne_d (by decide))).trans (f1192 j)
    have f1261 : σ36.1.2.1 (d) (4) = d + 7 := (k36.rf _ _ (ne_0 (by decide))).trans f1193
    have f1262 : σ36.1.1 (d + 8) = some (0, 5) := (k36.sh _ (ne_d (by decide))).trans f1194
    have f1263 : ∀ j, σ36.2 (d + 8) j = 0 := fun j => (k36.m _ _ (ne_d (by decide))).trans (f1195 j)
    have f1264 : σ36.1.1 (d + 9) = some (1, 8 * 0) := (k36.sh _ (ne_d (by decide))).trans f1196
    have f1265 : ∀ j, σ36.2 (d + 9) j = 0 := fun j => (k36.m _ _ (ne_d (by decide))).trans (f1197 j)
    have f1266 : σ36.1.2.1 (d + 8) (0) = d + 9 := (k36.rf _ _ (ne_d (by decide))).trans f1198
    have f1267 : σ36.1.2.1 (d) (5) = d + 8 := (k36.rf _ _ (ne_0 (by decide))).trans f1199
    have f1268 : σ36.1.1 (d + 10) = some (0, 5) := (k36.sh _ (ne_d (by decide))).trans f1200
    have f1269 : ∀ j, σ36.2 (d + 10) j = 0 := fun j => (k36.m _ _ (ne_d (by decide))).trans (f1201 j)
    have f1270 : σ36.1.1 (d + 11) = some (1, 8 * 100) := (k36.sh _ (ne_d (by decide))).trans f1202
    have f1271 : ∀ j, σ36.2 (d + 11) j = 0 := fun j => (k36.m _ _ (ne_d (by decide))).trans (f1203 j)
    have f1272 : σ36.1.2.1 (d + 10) (0) = d + 11 := (k36.rf _ _ (ne_d (by decide))).trans f1204
    have f1273 : σ36.1.2.1 (d) (6) = d + 10 := (k36.rf _ _ (ne_0 (by decide))).trans f1205
    have f1274 : σ36.1.1 (d + 12) = some (1, 30) := (k36.sh _ (ne_d (by decide))).trans f1206
    have f1275 : ∀ j, σ36.2 (d + 12) j = 0 := fun j => (k36.m _ _ (ne_d (by decide))).trans (f1207 j)
    have f1276 : σ36.1.2.1 (d) (7) = d + 12 := (k36.rf _ _ (ne_0 (by decide))).trans f1208
    have f1277 : σ36.1.1 (d + 13) = some (0, 5) := (k36.sh _ (ne_d (by decide))).trans f1209
    have f1278 : ∀ j, σ36.2 (d + 13) j = 0 := fun j => (k36.m _ _ (ne_d (by decide))).trans (f1210 j)
    have f1279 : σ36.1.1 (d + 14) = some (1, 8 * 36) := (k36.sh _ (ne_d (by decide))).trans f1211
    have f1280 : ∀ j, σ36.2 (d + 14) j = 0 := fun j => (k36.m _ _ (ne_d (by decide))).trans (f1212 j)
    have f1281 : σ36.1.2.1 (d + 13) (0) = d + 14 := (k36.rf _ _ (ne_d (by decide))).trans f1213
    have f1282 : σ36.1.2.1 (d + 7) (0) = d + 13 := (k36.rf _ _ (ne_d (by decide))).trans f1214
    have f1283 : σ36.1.1 (d + 15) = some (0, 5) := (k36.sh _ (ne_d (by decide))).trans f1215
    have f1284 : ∀ j, σ36.2 (d + 15) j = 0 := fun j => (k36.m _ _ (ne_d (by decide))).trans (f1216 j)
    have f1285 : σ36.1.1 (d + 16) = some (1, 8 * 36) := (k36.sh _ (ne_d (by decide))).trans f1217
    have f1286 : ∀ j, σ36.2 (d + 16) j = 0 := fun j => (k36.m _ _ (ne_d (by decide))).trans (f1218 j)
    have f1287 : σ36.1.2.1 (d + 15) (0) = d + 16 := (k36.rf _ _ (ne_d (by decide))).trans f1219
    have f1288 : σ36.1.2.1 (d + 7) (1) = d + 15 := (k36.rf _ _ (ne_d (by decide))).trans f1220
    have f1289 : σ36.1.1 (d + 17) = some (0, 5) := (k36.sh _ (ne_d (by decide))).trans f1221
    have f1290 : ∀ j, σ36.2 (d + 17) j = 0 := fun j => (k36.m _ _ (ne_d (by decide))).trans (f1222 j)
    have f1291 : σ36.1.1 (d + 18) = some (1, 8 * 36) := (k36.sh _ (ne_d (by decide))).trans f1223
    have f1292 : ∀ j, σ36.2 (d + 18) j = 0 := fun j => (k36.m _ _ (ne_d (by decide))).trans (f1224 j)
    have f1293 : σ36.1.2.1 (d + 17) (0) = d + 18 := (k36.rf _ _ (ne_d (by decide))).trans f1225
    have f1294 : σ36.1.2.1 (d + 7) (2) = d + 17 := (k36.rf _ _ (ne_d (by decide))).trans f1226
    have f1295 : σ36.1.1 (d + 19) = some (0, 5) := (k36.sh _ (ne_d (by decide))).trans f1227
    have f1296 : ∀ j, σ36.2 (d + 19) j = 0 := fun j => (k36.m _ _ (ne_d (by decide))).trans (f1228 j)
    have f1297 : σ36.1.1 (d + 20) = some (1, 8 * 36) := (k36.sh _ (ne_d (by decide))).trans f1229
    have f1298 : ∀ j, σ36.2 (d + 20) j = 0 := fun j => (k36.m _ _ (ne_d (by decide))).trans (f1230 j)
    have f1299 : σ36.1.2.1 (d + 19) (0) = d + 20 := (k36.rf _ _ (ne_d (by decide))).trans f1231
    have f1300 : σ36.1.2.1 (d + 7) (3) = d + 19 := (k36.rf _ _ (ne_d (by decide))).trans f1232
    have f1301 : σ36.1.1 (d + 21) = some (0, 5) := (k36.sh _ (ne_d (by decide))).trans f1233
    have f1302 : ∀ j, σ36.2 (d + 21) j = 0 := fun j => (k36.m _ _ (ne_d (by decide))).trans (f1234 j)
    have f1303 : σ36.1.1 (d + 22) = some (1, 8 * 36) := (k36.sh _ (ne_d (by decide))).trans f1236
    have f1304 : ∀ j, σ36.2 (d + 22) j = 0 := fun j => (k36.m _ _ (ne_d (by decide))).trans (f1237 j)
    have f1305 : σ36.1.2.1 (d + 21) (0) = d + 22 := (k36.rf _ _ (ne_d (by decide))).trans f1238
    have f1306 : σ36.1.2.1 (d + 7) (4) = d + 21 := (k36.rf _ _ (ne_d (by decide))).trans f1239
    clear f1172 f1173 f1174 f1175 f1176 f1177 f1178 f1179 f1180 f1181 f1182 f1183 f1184 f1185 f1186 f1187 f1188 f1189 f1190 f1191 f1192 f1193 f1194 f1195 f1196 f1197 f1198 f1199 f1200 f1201 f1202 f1203 f1204 f1205 f1206 f1207 f1208 f1209 f1210 f1211 f1212 f1213 f1214 f1215 f1216 f1217 f1218 f1219 f1220 f1221 f1222 f1223 f1224 f1225 f1226 f1227 f1228 f1229 f1230 f1231 f1232 f1233 f1234 f1235 f1236 f1237 f1238 f1239
    have f1307 : σ36.1.2.2 = d + 24 := k36.nx
    have f1308 : σ36.1.1 (d + 23) = some (0, 5) := k36.sh0
    have f1309 : ∀ j, σ36.2 (d + 23) j = 0 := k36.m0
    have b36 : BL d σ0 σ36 := BL.tr b35 (BL.mkn k36 (le_d (by decide)))
    refine zo_pos (le0_d hd (le_d (by decide))) ?_
    refine zo_own (c_X5_init (b := d + 24) (c := d + 25) (le0_d hd (le_d (by decide))) f1308 f1307 (s_d (by decide)) (s_d2 (by decide)) (by decide)) ?_
    rintro σ37 k37
    have f1310 : σ37.1.1 (d) = some (0, 1) := (k37.sh _ (ne_0 (by decide))).trans f1240
    have f1311 : σ37.1.1 (d + 1) = some (1, 5) := (k37.sh _ (ne_d (by decide))).trans f1241
    have f1312 : ∀ j, σ37.2 (d + 1) j = 0 := fun j => (k37.m _ _ (ne_d (by decide))).trans (f1242 j)
    have f1313 : σ37.1.2.1 (d) (0) = d + 1 := (k37.rf _ _ (ne_0 (by decide)) (ne_0 (by decide))).trans f1243
    have f1314 : σ37.1.1 (d + 2) = some (0, 3) := (k37.sh _ (ne_d (by decide))).trans f1244
    have f1315 : ∀ j, σ37.2 (d + 2) j = 0 := fun j => (k37.m _ _ (ne_d (by decide))).trans (f1245 j)
    have f1316 : σ37.1.1 (d + 3) = some (1, 6) := (k37.sh _ (ne_d (by decide))).trans f1246
    have f1317 : ∀ j, σ37.2 (d + 3) j = 0 := fun j => (k37.m _ _ (ne_d (by decide))).trans (f1247 j)
    have f1318 : σ37.1.2.1 (d + 2) (0) = d + 3 := (k37.rf _ _ (ne_d (by decide)) (ne_d (by decide))).trans f1248
    have f1319 : σ37.1.2.1 (d) (1) = d + 2 := (k37.rf _ _ (ne_0 (by decide)) (ne_0 (by decide))).trans f1249
    have f1320 : σ37.1.1 (d + 4) = some (0, 3) := (k37.sh _ (ne_d (by decide))).trans f1250
    have f1321 : ∀ j, σ37.2 (d + 4) j = 0 := fun j => (k37.m _ _ (ne_d (by decide))).trans (f1251 j)
    have f1322 : σ37.1.1 (d + 5) = some (1, 6) := (k37.sh _ (ne_d (by decide))).trans f1252
    have f1323 : ∀ j, σ37.2 (d + 5) j = 0 := fun j => (k37.m _ _ (ne_d (by decide))).trans (f1253 j)
    have f1324 : σ37.1.2.1 (d + 4) (0) = d + 5 := (k37.rf _ _ (ne_d (by decide)) (ne_d (by decide))).trans f1254
    have f1325 : σ37.1.2.1 (d) (2) = d + 4 := (k37.rf _ _ (ne_0 (by decide)) (ne_0 (by decide))).trans f1255
    have f1326 : σ37.1.1 (d + 6) = some (1, 36) := (k37.sh _ (ne_d (by decide))).trans f1256
    have f1327 : ∀ j, σ37.2 (d + 6) j = 0 := fun j => (k37.m _ _ (ne_d (by decide))).trans (f1257 j)
    have f1328 : σ37.1.2.1 (d) (3) = d + 6 := (k37.rf _ _ (ne_0 (by decide)) (ne_0 (by decide))).trans f1258
    have f1329 : σ37.1.1 (d + 7) = some (6, 6) := (k37.sh _ (ne_d (by decide))).trans f1259
    have f1330 : ∀ j, σ37.2 (d + 7) j = 0 := fun j => (k37.m _ _ (ne_d (by decide))).trans (f1260 j)
    have f1331 : σ37.1.2.1 (d) (4) = d + 7 := (k37.rf _ _ (ne_0 (by decide)) (ne_0 (by decide))).trans f1261
    have f1332 : σ37.1.1 (d + 8) = some (0, 5) := (k37.sh _ (ne_d (by decide))).trans f1262
    have f1333 : ∀ j, σ37.2 (d + 8) j = 0 := fun j => (k37.m _ _ (ne_d (by decide))).trans (f1263 j)
    have f1334 : σ37.1.1 (d + 9) = some (1, 8 * 0) := (k37.sh _ (ne_d (by decide))).trans f1264
    have f1335 : ∀ j, σ37.2 (d + 9) j = 0 := fun j => (k37.m _ _ (ne_d (by decide))).trans (f1265 j)
    have f1336 : σ37.1.2.1 (d + 8) (0) = d + 9 := (k37.rf _ _ (ne_d (by decide)) (ne_d (by decide))).trans f1266
    have f1337 : σ37.1.2.1 (d) (5) = d + 8 := (k37.rf _ _ (ne_0 (by decide)) (ne_0 (by decide))).trans f1267
    have f1338 : σ37.1.1 (d + 10) = some (0, 5) := (k37.sh _ (ne_d (by decide))).trans f1268
    have f1339 : ∀ j, σ37.2 (d + 10) j = 0 := fun j => (k37.m _ _ (ne_d (by decide))).trans (f1269 j)
    have f1340 : σ37.1.1 (d + 11) = some (1, 8 * 100) := (k37.sh _ (ne_d (by decide))).trans f1270
    have f1341 : ∀ j, σ37.2 (d + 11) j = 0 := fun j => (k37.m _ _ (ne_d (by decide))).trans (f1271 j)
    have f1342 : σ37.1.2.1 (d + 10) (0) = d + 11 := (k37.rf _ _ (ne_d (by decide)) (ne_d (by decide))).trans f1272
    have f1343 : σ37.1.2.1 (d) (6) = d + 10 := (k37.rf _ _ (ne_0 (by decide)) (ne_0 (by decide))).trans f1273
    have f1344 : σ37.1.1 (d + 12) = some (1, 30) := (k37.sh _ (ne_d (by decide))).trans f1274
    have f1345 : ∀ j, σ37.2 (d + 12) j = 0 := fun j => (k37.m _ _ (ne_d (by decide))).trans (f1275 j)
    have f1346 : σ37.1.2.1 (d) (7) = d + 12 := (k37.rf _ _ (ne_0 (by decide)) (ne_0 (by decide))).trans f1276
    have f1347 : σ37.1.1 (d + 13) = some (0, 5) := (k37.sh _ (ne_d (by decide))).trans f1277
    have f1348 : ∀ j, σ37.2 (d + 13) j = 0 := fun j => (k37.m _ _ (ne_d (by decide))).trans (f1278 j)
    have f1349 : σ37.1.1 (d + 14) = some (1, 8 * 36) := (k37.sh _ (ne_d (by decide))).trans f1279
    have f1350 : ∀ j, σ37.2 (d + 14) j = 0 := fun j => (k37.m _ _ (ne_d (by decide))).trans (f1280 j)
    have f1351 : σ37.1.2.1 (d + 13) (0) = d + 14 := (k37.rf _ _ (ne_d (by decide)) (ne_d (by decide))).trans f1281
    have f1352 : σ37.1.2.1 (d + 7) (0) = d + 13 := (k37.rf _ _ (ne_d (by decide)) (ne_d (by decide))).trans f1282
    have f1353 : σ37.1.1 (d + 15) = some (0, 5) := (k37.sh _ (ne_d (by decide))).trans f1283
    have f1354 : ∀ j, σ37.2 (d + 15) j = 0 := fun j => (k37.m _ _ (ne_d (by decide))).trans (f1284 j)
    have f1355 : σ37.1.1 (d + 16) = some (1, 8 * 36) := (k37.sh _ (ne_d (by decide))).trans f1285
    have f1356 : ∀ j, σ37.2 (d + 16) j = 0 := fun j => (k37.m _ _ (ne_d (by decide))).trans (f1286 j)
    have f1357 : σ37.1.2.1 (d + 15) (0) = d + 16 := (k37.rf _ _ (ne_d (by decide)) (ne_d (by decide))).trans f1287
    have f1358 : σ37.1.2.1 (d + 7) (1) = d + 15 := (k37.rf _ _ (ne_d (by decide)) (ne_d (by decide))).trans f1288
    have f1359 : σ37.1.1 (d + 17) = some (0, 5) := (k37.sh _ (ne_d (by decide))).trans f1289
    have f1360 : ∀ j, σ37.2 (d + 17) j = 0 := fun j => (k37.m _ _ (ne_d (by decide))).trans (f1290 j)
    have f1361 : σ37.1.1 (d + 18) = some (1, 8 * 36) := (k37.sh _ (ne_d (by decide))).trans f1291
    have f1362 : ∀ j, σ37.2 (d + 18) j = 0 := fun j => (k37.m _ _ (ne_d (by decide))).trans (f1292 j)
    have f1363 : σ37.1.2.1 (d + 17) (0) = d + 18 := (k37.rf _ _ (ne_d (by decide)) (ne_d (by decide))).trans f1293
    have f1364 : σ37.1.2.1 (d + 7) (2) = d + 17 := (k37.rf _ _ (ne_d (by decide)) (ne_d (by decide))).trans f1294
    have f1365 : σ37.1.1 (d + 19) = some (0, 5) := (k37.sh _ (ne_d (by decide))).trans f1295
    have f1366 : ∀ j, σ37.2 (d + 19) j = 0 := fun j => (k37.m _ _ (ne_d (by decide))).trans (f1296 j)
    have f1367 : σ37.1.1 (d + 20) = some (1, 8 * 36) := (k37.sh _ (ne_d (by decide))).trans f1297
    have f1368 : ∀ j, σ37.2 (d + 20) j = 0 := fun j => (k37.m _ _ (ne_d (by decide))).trans (f1298 j)
    have f1369 : σ37.1.2.1 (d + 19) (0) = d + 20 := (k37.rf _ _ (ne_d (by decide)) (ne_d (by decide))).trans f1299
    have f1370 : σ37.1.2.1 (d + 7) (3) = d + 19 := (k37.rf _ _ (ne_d (by decide)) (ne_d (by decide))).trans f1300
    have f1371 : σ37.1.1 (d + 21) = some (0, 5) := (k37.sh _ (ne_d (by decide))).trans f1301
    have f1372 : ∀ j, σ37.2 (d + 21) j = 0 := fun j => (k37.m _ _ (ne_d (by decide))).trans (f1302 j)
    have f1373 : σ37.1.1 (d + 22) = some (1, 8 * 36) := (k37.sh _ (ne_d (by decide))).trans f1303
    have f1374 : ∀ j, σ37.2 (d + 22) j = 0 := fun j => (k37.m _ _ (ne_d (by decide))).trans (f1304 j)
    have f1375 : σ37.1.2.1 (d + 21) (0) = d + 22 := (k37.rf _ _ (ne_d (by decide)) (ne_d (by decide))).trans f1305
    have f1376 : σ37.1.2.1 (d + 7) (4) = d + 21 := (k37.rf _ _ (ne_d (by decide)) (ne_d (by decide))).trans f1306
    have f1377 : σ37.1.1 (d + 23) = some (0, 5) := (k37.sh _ (ne_d (by decide))).trans f1308
    have f1378 : ∀ j, σ37.2 (d + 23) j = 0 := fun j => (k37.m _ _ (ne_d (by decide))).trans (f1309 j)
    clear f1240 f1241 f1242 f1243 f1244 f1245 f1246 f1247 f1248 f1249 f1250 f1251 f1252 f1253 f1254 f1255 f1256 f1257 f1258 f1259 f1260 f1261 f1262 f1263 f1264 f1265 f1266 f1267 f1268 f1269 f1270 f1271 f1272 f1273 f1274 f1275 f1276 f1277 f1278 f1279 f1280 f1281 f1282 f1283 f1284 f1285 f1286 f1287 f1288 f1289 f1290 f1291 f1292 f1293 f1294 f1295 f1296 f1297 f1298 f1299 f1300 f1301 f1302 f1303 f1304 f1305 f1306 f1307 f1308 f1309
    have f1379 : σ37.1.2.2 = d + 25 := k37.nx
    have f1380 : σ37.1.1 (d + 24) = some (1, 8 * 36) := k37.sh0
    have f1381 : ∀ j, σ37.2 (d + 24) j = 0 := k37.m0
    have f1382 : σ37.1.2.1 (d + 23) (0) = d + 24 := k37.at0
    have b37 : BL d σ0 σ37 := BL.tr b36 (BL.own k37 (le_d (by decide)) (le_d (by decide)))
    refine zo_pos (Or.inr f1377) ?_
    refine zo_sr2 (t := 6) (i := 5) f1329 (by decide) ?_
    rintro σ38 k38
    have f1383 : σ38.1.1 (d) = some (0, 1) := (congrFun k38.sh _).trans f1310
    have f1384 : σ38.1.1 (d + 1) = some (1, 5) := (congrFun k38.sh _).trans f1311
    have f1385 : ∀ j, σ38.2 (d + 1) j = 0 := fun j => (congrFun (congrFun k38.m _) _).trans (f1312 j)
    have f1386 : σ38.1.2.1 (d) (0) = d + 1 := (k38.rf _ _ (ne_0 (by decide))).trans f1313
    have f1387 : σ38.1.1 (d + 2) = some (0, 3) := (congrFun k38.sh _).trans f1314
    have f1388 : ∀ j, σ38.2 (d + 2) j = 0 := fun j => (congrFun (congrFun k38.m _) _).trans (f1315 j)
    have f1389 : σ38.1.1 (d + 3) = some (1, 6) := (congrFun k38.sh _).trans f1316
    have f1390 : ∀ j, σ38.2 (d + 3) j = 0 := fun j => (congrFun (congrFun k38.m _) _).trans (f1317 j)
    have f1391 : σ38.1.2.1 (d + 2) (0) = d + 3 := (k38.rf _ _ (ne_d (by decide))).trans f1318
    have f1392 : σ38.1.2.1 (d) (1) = d + 2 := (k38.rf _ _ (ne_0 (by decide))).trans f1319
    have f1393 : σ38.1.1 (d + 4) = some (0, 3) := (congrFun k38.sh _).trans f1320
    have f1394 : ∀ j, σ38.2 (d + 4) j = 0 := fun j => (congrFun (congrFun k38.m _) _).trans (f1321 j)
    have f1395 : σ38.1.1 (d + 5) = some (1, 6) := (congrFun k38.sh _).trans f1322
    have f1396 : ∀ j, σ38.2 (d + 5) j = 0 := fun j => (congrFun (congrFun k38.m _) _).trans (f1323 j)
    have f1397 : σ38.1.2.1 (d + 4) (0) = d + 5 := (k38.rf _ _ (ne_d (by decide))).trans f1324
    have f1398 : σ38.1.2.1 (d) (2) = d + 4 := (k38.rf _ _ (ne_0 (by decide))).trans f1325
    have f1399 : σ38.1.1 (d + 6) = some (1, 36) := (congrFun k38.sh _).trans f1326
    have f1400 : ∀ j, σ38.2 (d + 6) j = 0 := fun j => (congrFun (congrFun k38.m _) _).trans (f1327 j)
    have f1401 : σ38.1.2.1 (d) (3) = d + 6 := (k38.rf _ _ (ne_0 (by decide))).trans f1328
    have f1402 : σ38.1.1 (d + 7) = some (6, 6) := (congrFun k38.sh _).trans f1329
    have f1403 : ∀ j, σ38.2 (d + 7) j = 0 := fun j => (congrFun (congrFun k38.m _) _).trans (f1330 j)
    have f1404 : σ38.1.2.1 (d) (4) = d + 7 := (k38.rf _ _ (ne_0 (by decide))).trans f1331
    have f1405 : σ38.1.1 (d + 8) = some (0, 5) := (congrFun k38.sh _).trans f1332
    have f1406 : ∀ j, σ38.2 (d + 8) j = 0 := fun j => (congrFun (congrFun k38.m _) _).trans (f1333 j)
    have f1407 : σ38.1.1 (d + 9) = some (1, 8 * 0) := (congrFun k38.sh _).trans f1334
    have f1408 : ∀ j, σ38.2 (d + 9) j = 0 := fun j => (congrFun (congrFun k38.m _) _).trans (f1335 j)
    have f1409 : σ38.1.2.1 (d + 8) (0) = d + 9 := (k38.rf _ _ (ne_d (by decide))).trans f1336
    have f1410 : σ38.1.2.1 (d) (5) = d + 8 := (k38.rf _ _ (ne_0 (by decide))).trans f1337
    have f1411 : σ38.1.1 (d + 10) = some (0, 5) := (congrFun k38.sh _).trans f1338
    have f1412 : ∀ j, σ38.2 (d + 10) j = 0 := fun j => (congrFun (congrFun k38.m _) _).trans (f1339 j)
    have f1413 : σ38.1.1 (d + 11) = some (1, 8 * 100) := (congrFun k38.sh _).trans f1340
    have f1414 : ∀ j, σ38.2 (d + 11) j = 0 := fun j => (congrFun (congrFun k38.m _) _).trans (f1341 j)
    have f1415 : σ38.1.2.1 (d + 10) (0) = d + 11 := (k38.rf _ _ (ne_d (by decide))).trans f1342
    have f1416 : σ38.1.2.1 (d) (6) = d + 10 := (k38.rf _ _ (ne_0 (by decide))).trans f1343
    have f1417 : σ38.1.1 (d + 12) = some (1, 30) := (congrFun k38.sh _).trans f1344
    have f1418 : ∀ j, σ38.2 (d + 12) j = 0 := fun j => (congrFun (congrFun k38.m _) _).trans (f1345 j)
    have f1419 : σ38.1.2.1 (d) (7) = d + 12 := (k38.rf _ _ (ne_0 (by decide))).trans f1346
    have f1420 : σ38.1.1 (d + 13) = some (0, 5) := (congrFun k38.sh _).trans f1347
    have f1421 : ∀ j, σ38.2 (d + 13) j = 0 := fun j => (congrFun (congrFun k38.m _) _).trans (f1348 j)
    have f1422 : σ38.1.1 (d + 14) = some (1, 8 * 36) := (congrFun k38.sh _).trans f1349
    have f1423 : ∀ j, σ38.2 (d + 14) j = 0 := fun j => (congrFun (congrFun k38.m _) _).trans (f1350 j)
    have f1424 : σ38.1.2.1 (d + 13) (0) = d + 14 := (k38.rf _ _ (ne_d (by decide))).trans f1351
    have f1425 : σ38.1.2.1 (d + 7) (0) = d + 13 := (k38.rj _ (by decide)).trans f1352
    have f1426 : σ38.1.1 (d + 15) = some (0, 5) := (congrFun k38.sh _).trans f1353
    have f1427 : ∀ j, σ38.2 (d + 15) j = 0 := fun j => (congrFun (congrFun k38.m _) _).trans (f1354 j)
    have f1428 : σ38.1.1 (d + 16) = some (1, 8 * 36) := (congrFun k38.sh _).trans f1355
    have f1429 : ∀ j, σ38.2 (d + 16) j = 0 := fun j => (congrFun (congrFun k38.m _) _).trans (f1356 j)
    have f1430 : σ38.1.2.1 (d + 15) (0) = d + 16 := (k38.rf _ _ (ne_d (by decide))).trans f1357
    have f1431 : σ38.1.2.1 (d + 7) (1) = d + 15 := (k38.rj _ (by decide)).trans f1358
    have f1432 : σ38.1.1 (d + 17) = some (0, 5) := (congrFun k38.sh _).trans f1359
    have f1433 : ∀ j, σ38.2 (d + 17) j = 0 := fun j => (congrFun (congrFun k38.m _) _).trans (f1360 j)
    have f1434 : σ38.1.1 (d + 18) = some (1, 8 * 36) := (congrFun k38.sh _).trans f1361
    have f1435 : ∀ j, σ38.2 (d + 18) j = 0 := fun j => (congrFun (congrFun k38.m _) _).trans (f1362 j)
    have f1436 : σ38.1.2.1 (d + 17) (0) = d + 18 := (k38.rf _ _ (ne_d (by decide))).trans f1363
    have f1437 : σ38.1.2.1 (d + 7) (2) = d + 17 := (k38.rj _ (by decide)).trans f1364
    have f1438 : σ38.1.1 (d + 19) = some (0, 5) := (congrFun k38.sh _).trans f1365
    have f1439 : ∀ j, σ38.2 (d + 19) j = 0 := fun j => (congrFun (congrFun k38.m _) _).trans (f1366 j)
    have f1440 : σ38.1.1 (d + 20) = some (1, 8 * 36) := (congrFun k38.sh _).trans f1367
    have f1441 : ∀ j, σ38.2 (d + 20) j = 0 := fun j => (congrFun (congrFun k38.m _) _).trans (f1368 j)
    have f1442 : σ38.1.2.1 (d + 19) (0) = d + 20 := (k38.rf _ _ (ne_d (by decide))).trans f1369
    have f1443 : σ38.1.2.1 (d + 7) (3) = d + 19 := (k38.rj _ (by decide)).trans f1370
    have f1444 : σ38.1.1 (d + 21) = some (0, 5) := (congrFun k38.sh _).trans f1371
    have f1445 : ∀ j, σ38.2 (d + 21) j = 0 := fun j => (congrFun (congrFun k38.m _) _).trans (f1372 j)
    have f1446 : σ38.1.1 (d + 22) = some (1, 8 * 36) := (congrFun k38.sh _).trans f1373
    have f1447 : ∀ j, σ38.2 (d + 22) j = 0 := fun j => (congrFun (congrFun k38.m _) _).trans (f1374 j)
    have f1448 : σ38.1.2.1 (d + 21) (0) = d + 22 := (k38.rf _ _ (ne_d (by decide))).trans f1375
    have f1449 : σ38.1.2.1 (d + 7) (4) = d + 21 := (k38.rj _ (by decide)).trans f1376
    have f1450 : σ38.1.1 (d + 23) = some (0, 5) := (congrFun k38.sh _).trans f1377
    have f1451 : ∀ j, σ38.2 (d + 23) j = 0 := fun j => (congrFun (congrFun k38.m _) _).trans (f1378 j)
    have f1452 : σ38.1.2.2 = d + 25 := k38.nx.trans f1379
    have f1453 : σ38.1.1 (d + 24) = some (1, 8 * 36) := (congrFun k38.sh _).trans f1380
    have f1454 : ∀ j, σ38.2 (d + 24) j = 0 := fun j => (congrFun (congrFun k38.m _) _).trans (f1381 j)
    have f1455 : σ38.1.2.1 (d + 23) (0) = d + 24 := (k38.rf _ _ (ne_d (by decide))).trans f1382
    clear f1310 f1311 f1312 f1313 f1314 f1315 f1316 f1317 f1318 f1319 f1320 f1321 f1322 f1323 f1324 f1325 f1326 f1327 f1328 f1329 f1330 f1331 f1332 f1333 f1334 f1335 f1336 f1337 f1338 f1339 f1340 f1341 f1342 f1343 f1344 f1345 f1346 f1347 f1348 f1349 f1350 f1351 f1352 f1353 f1354 f1355 f1356 f1357 f1358 f1359 f1360 f1361 f1362 f1363 f1364 f1365 f1366 f1367 f1368 f1369 f1370 f1371 f1372 f1373 f1374 f1375 f1376 f1377 f1378 f1379 f1380 f1381 f1382
    have f1456 : σ38.1.2.1 (d + 7) (5) = d + 23 := k38.at0
    have b38 : BL d σ0 σ38 := BL.tr b37 (BL.pr k38 (le_d (by decide)))
    refine j_X1_init_85 ?_
    rw [show w32 (5 + 1) = 6 by decide]
    refine zo_gr2 f1383 f1404 rfl rfl ?_
    refine zo_al2 (t := 5) f1402 ?_
    refine zo_neg (by decide) ?_
    refine j_X1_init_115 ?_
    obtain ⟨S, μ⟩ := σ38
    have n1 : NSh S (d + 2) := by have h1 := f1387; have h2 := f1391; have h3 := f1389; exact NSh.mk ⟨h1, by rw [h2]; omega, by rw [show d + 2 + 1 = d + 3 by omega]; exact h3⟩
    have n2 : NSh S (d + 4) := by have h1 := f1393; have h2 := f1397; have h3 := f1395; exact NSh.mk ⟨h1, by rw [h2]; omega, by rw [show d + 4 + 1 = d + 5 by omega]; exact h3⟩
    have n3 : RSh S (d + 8) 0 := by have h1 := f1405; have h2 := f1409; have h3 := f1407; exact RSh.mk ⟨h1, by rw [h2]; omega, by rw [show d + 8 + 1 = d + 9 by omega]; exact h3⟩
    have n4 : RSh S (d + 10) 800 := by have h1 := f1411; have h2 := f1415; have h3 := f1413; exact RSh.mk ⟨h1, by rw [h2]; omega, by rw [show d + 10 + 1 = d + 11 by omega]; exact h3⟩
    have l0 : RSh S (d + 13) 288 := by have h1 := f1420; have h2 := f1424; have h3 := f1422; exact RSh.mk ⟨h1, by rw [h2]; omega, by rw [show d + 13 + 1 = d + 14 by omega]; exact h3⟩
    have l1 : RSh S (d + 15) 288 := by have h1 := f1426; have h2 := f1430; have h3 := f1428; exact RSh.mk ⟨h1, by rw [h2]; omega, by rw [show d + 15 + 1 = d + 16 by omega]; exact h3⟩
    have l2 : RSh S (d + 17) 288 := by have h1 := f1432; have h2 := f1436; have h3 := f1434; exact RSh.mk ⟨h1, by rw [h2]; omega, by rw [show d + 17 + 1 = d + 18 by omega]; exact h3⟩
    have l3 : RSh S (d + 19) 288 := by have h1 := f1438; have h2 := f1442; have h3 := f1440; exact RSh.mk ⟨h1, by rw [h2]; omega, by rw [show d + 19 + 1 = d + 20 by omega]; exact h3⟩
    have l4 : RSh S (d + 21) 288 := by have h1 := f1444; have h2 := f1448; have h3 := f1446; exact RSh.mk ⟨h1, by rw [h2]; omega, by rw [show d + 21 + 1 = d + 22 by omega]; exact h3⟩
    have l5 : RSh S (d + 23) 288 := by have h1 := f1450; have h2 := f1455; have h3 := f1453; exact RSh.mk ⟨h1, by rw [h2]; omega, by rw [show d + 23 + 1 = d + 24 by omega]; exact h3⟩
    have D : DSh S d := by
      refine DSh.mk ⟨f1383, f1386, f1392, f1398, f1401, f1404, f1410, f1416, f1419, f1384, n1, n2, f1399, f1402, ?_, n3, n4, f1417, ?_⟩
      · intro i h1 h2
        have hc : i = 0 ∨ i = 1 ∨ i = 2 ∨ i = 3 ∨ i = 4 ∨ i = 5 := by clear f1383 f1384 f1385 f1386 f1387 f1388 f1389 f1390 f1391 f1392 f1393 f1394 f1395 f1396 f1397 f1398 f1399 f1400 f1401 f1402 f1403 f1404 f1405 f1406 f1407 f1408 f1409 f1410 f1411 f1412 f1413 f1414 f1415 f1416 f1417 f1418 f1419 f1420 f1421 f1422 f1423 f1424 f1425 f1426 f1427 f1428 f1429 f1430 f1431 f1432 f1433 f1434 f1435 f1436 f1437 f1438 f1439 f1440 f1441 f1442 f1443 f1444 f1445 f1446 f1447 f1448 f1449 f1450 f1451 f1452 f1453 f1454 f1455 f1456; omega
        rcases hc with e | e | e | e | e | e <;> subst e
        · exact f1425.trans (by omega)
        · exact f1431.trans (by omega)
        · exact f1437.trans (by omega)
        · exact f1443.trans (by omega)
        · exact f1449.trans (by omega)
        · exact f1456.trans (by omega)
      · intro i h1 h2
        have hc : i = 0 ∨ i = 1 ∨ i = 2 ∨ i = 3 ∨ i = 4 ∨ i = 5 := by clear f1383 f1384 f1385 f1386 f1387 f1388 f1389 f1390 f1391 f1392 f1393 f1394 f1395 f1396 f1397 f1398 f1399 f1400 f1401 f1402 f1403 f1404 f1405 f1406 f1407 f1408 f1409 f1410 f1411 f1412 f1413 f1414 f1415 f1416 f1417 f1418 f1419 f1420 f1421 f1422 f1423 f1424 f1425 f1426 f1427 f1428 f1429 f1430 f1431 f1432 f1433 f1434 f1435 f1436 f1437 f1438 f1439 f1440 f1441 f1442 f1443 f1444 f1445 f1446 f1447 f1448 f1449 f1450 f1451 f1452 f1453 f1454 f1455 f1456; omega
        rcases hc with e | e | e | e | e | e <;> subst e
        · rw [show d + 13 + 2 * 0 = d + 13 by omega]; exact l0
        · rw [show d + 13 + 2 * 1 = d + 15 by omega]; exact l1
        · rw [show d + 13 + 2 * 2 = d + 17 by omega]; exact l2
        · rw [show d + 13 + 2 * 3 = d + 19 by omega]; exact l3
        · rw [show d + 13 + 2 * 4 = d + 21 by omega]; exact l4
        · rw [show d + 13 + 2 * 5 = d + 23 by omega]; exact l5
    obtain ⟨μ2, e2, h2, f2⟩ := d_reset (μ := μ) D hd (f1406 1)
    refine zo_ob f1383 rfl ?_
    refine zo_bn e2 ?_
    refine zo_rt ⟨(S, μ2), rfl, h2, f1452, BL.tr b38 (BL.mk ⟨fun _ _ => rfl, fun _ _ _ => rfl, fun b j hb => congrFun (f2 b (Or.inl hb)) j⟩)⟩
  obtain ⟨r, e, σ', hr, h⟩ := main
  exact ⟨σ', by rw [e, hr], h⟩
