/-! C 84: the first world -/
theorem PfR.mj {a j v : Int} {σ σ' : zS} (h : PfR a j v σ σ') : ∀ i, i ≠ j → σ'.2 a i = σ.2 a i := h.2.2.1
theorem BL.pf {d a j v : Int} {σ σ' : zS} (h : PfR a j v σ σ') (ha : d ≤ a) : BL d σ σ' := BL.mk ⟨fun b _ => congrArg (fun g : zG => g.1 b) h.g, fun b i _ => congrArg (fun g : zG => g.2.1 b i) h.g, fun b i hb => h.m b i (by omega)⟩
section C56x
variable {σ : zS} {a v : Int} {ci k : Nat} {Q : zR × zS → Prop}
theorem zo_pf2 {x j : Int} {F : zS → zFn} (h : σ.1.1 a = some (0, x)) (hc : (ci : Int) = x) (hj : (k : Int) = j) (q : ∀ σ', PfR a j v σ σ' → zo (F σ') Q) : zo (zpf ci k a v σ F) Q := by
  subst hc
  subst hj
  unfold zpf
  rw [if_pos h]
  exact q _ (PfR.mk ⟨rfl, zup_at, fun i hi => zup_j hi, fun b i hb => zup_b hb⟩)
end C56x
theorem c_X0_init {σ : zS} {a b c n : Int} (ha : 0 ≤ a) (hs : σ.1.1 a = some (0, 0)) (hn : σ.1.2.2 = b) (hb : b = a + 1) (hc : c = a + 2) (h0 : 0 ≤ n ∧ n ≤ 1224) : ∃ σ', f_X0_init a n σ = some (.inl 0, σ') ∧ OwnR a b c (2, n) σ σ' := by
  have main : zo (f_X0_init a n σ) (fun r => ∃ σ', r = (.inl 0, σ') ∧ OwnR a b c (2, n) σ σ') := by
    refine j_X0_init ?_
    refine zo_pos ha ?_
    refine zo_neg (by omega) ?_
    refine zo_na2 (c := c) (by omega) hn (by omega) ?_
    intro σ1 k1
    refine zo_pr2 (j := 0) ((k1.sh a (by omega)).trans hs) (by omega) (by omega) ?_
    intro σ2 k2
    exact zo_rt ⟨σ2, rfl, OwnR.of k1 k2 (by omega)⟩
  obtain ⟨r, e, σ', hr, h⟩ := main
  exact ⟨σ', by rw [e, hr], h⟩
def KP (a b : Int) (σ σ' : zS) : Prop := ∀ y, a ≤ y → y < b → σ'.1.1 y = σ.1.1 y ∧ (∀ j, σ'.1.2.1 y j = σ.1.2.1 y j) ∧ σ'.2 y = σ.2 y
def IX (σ : zS) (x : Int) : Prop := (CB σ.1 x) ∧ (D7 σ.1 σ.2 (x + 12) zD0) ∧ (D7 σ.1 σ.2 (x + 37) zD0) ∧ (BSh σ.1 (x + 1) 600) ∧ (σ.2 (x + 1) 1 = 0) ∧ (BSh σ.1 (x + 3) 1224) ∧ (σ.2 (x + 3) 1 = 0) ∧ (σ.1.1 (x + 62) = some (0, 4)) ∧ (σ.1.2.1 (x + 62) 0 = x + 1) ∧ (σ.1.2.1 (x + 62) 1 = x + 37) ∧ (σ.2 (x + 62) 6 = 0) ∧ (σ.2 (x + 62) 7 = -1) ∧ (σ.1.1 (x + 63) = some (0, 2)) ∧ (σ.1.2.1 (x + 63) 0 = x + 64) ∧ (σ.1.1 (x + 64) = some (7, 6)) ∧ (∀ j, σ.1.2.1 (x + 64) j = -1) ∧ (σ.2 (x + 63) 1 = 0) ∧ (σ.1.1 (x + 65) = some (7, 2)) ∧ (∀ j, σ.1.2.1 (x + 65) j = -1)
theorem IX.mk {σ : zS} {x : Int} (h : (CB σ.1 x) ∧ (D7 σ.1 σ.2 (x + 12) zD0) ∧ (D7 σ.1 σ.2 (x + 37) zD0) ∧ (BSh σ.1 (x + 1) 600) ∧ (σ.2 (x + 1) 1 = 0) ∧ (BSh σ.1 (x + 3) 1224) ∧ (σ.2 (x + 3) 1 = 0) ∧ (σ.1.1 (x + 62) = some (0, 4)) ∧ (σ.1.2.1 (x + 62) 0 = x + 1) ∧ (σ.1.2.1 (x + 62) 1 = x + 37) ∧ (σ.2 (x + 62) 6 = 0) ∧ (σ.2 (x + 62) 7 = -1) ∧ (σ.1.1 (x + 63) = some (0, 2)) ∧ (σ.1.2.1 (x + 63) 0 = x + 64) ∧ (σ.1.1 (x + 64) = some (7, 6)) ∧ (∀ j, σ.1.2.1 (x + 64) j = -1) ∧ (σ.2 (x + 63) 1 = 0) ∧ (σ.1.1 (x + 65) = some (7, 2)) ∧ (∀ j, σ.1.2.1 (x + 65) j = -1)) : IX σ x := h
theorem IX.C {σ : zS} {x : Int} (h : IX σ x) : CB σ.1 x := h.1
theorem IX.D {σ : zS} {x : Int} (h : IX σ x) : D7 σ.1 σ.2 (x + 12) zD0 := h.2.1
theorem IX.E {σ : zS} {x : Int} (h : IX σ x) : D7 σ.1 σ.2 (x + 37) zD0 := h.2.2.1
theorem IX.B1 {σ : zS} {x : Int} (h : IX σ x) : BSh σ.1 (x + 1) 600 := h.2.2.2.1
theorem IX.z1 {σ : zS} {x : Int} (h : IX σ x) : σ.2 (x + 1) 1 = 0 := h.2.2.2.2.1
theorem IX.B2 {σ : zS} {x : Int} (h : IX σ x) : BSh σ.1 (x + 3) 1224 := h.2.2.2.2.2.1
theorem IX.z2 {σ : zS} {x : Int} (h : IX σ x) : σ.2 (x + 3) 1 = 0 := h.2.2.2.2.2.2.1
theorem IX.p0 {σ : zS} {x : Int} (h : IX σ x) : σ.1.1 (x + 62) = some (0, 4) := h.2.2.2.2.2.2.2.1
theorem IX.p1 {σ : zS} {x : Int} (h : IX σ x) : σ.1.2.1 (x + 62) 0 = x + 1 := h.2.2.2.2.2.2.2.2.1
theorem IX.p2 {σ : zS} {x : Int} (h : IX σ x) : σ.1.2.1 (x + 62) 1 = x + 37 := h.2.2.2.2.2.2.2.2.2.1
theorem IX.p3 {σ : zS} {x : Int} (h : IX σ x) : σ.2 (x + 62) 6 = 0 := h.2.2.2.2.2.2.2.2.2.2.1
theorem IX.p4 {σ : zS} {x : Int} (h : IX σ x) : σ.2 (x + 62) 7 = -1 := h.2.2.2.2.2.2.2.2.2.2.2.1
theorem IX.h0 {σ : zS} {x : Int} (h : IX σ x) : σ.1.1 (x + 63) = some (0, 2) := h.2.2.2.2.2.2.2.2.2.2.2.2.1
theorem IX.h1 {σ : zS} {x : Int} (h : IX σ x) : σ.1.2.1 (x + 63) 0 = x + 64 := h.2.2.2.2.2.2.2.2.2.2.2.2.2.1
theorem IX.h2 {σ : zS} {x : Int} (h : IX σ x) : σ.1.1 (x + 64) = some (7, 6) := h.2.2.2.2.2.2.2.2.2.2.2.2.2.2.1
theorem IX.h3 {σ : zS} {x : Int} (h : IX σ x) : ∀ j, σ.1.2.1 (x + 64) j = -1 := h.2.2.2.2.2.2.2.2.2.2.2.2.2.2.2.1
theorem IX.h4 {σ : zS} {x : Int} (h : IX σ x) : σ.2 (x + 63) 1 = 0 := h.2.2.2.2.2.2.2.2.2.2.2.2.2.2.2.2.1
theorem IX.k0 {σ : zS} {x : Int} (h : IX σ x) : σ.1.1 (x + 65) = some (7, 2) := h.2.2.2.2.2.2.2.2.2.2.2.2.2.2.2.2.2.1
theorem IX.k1 {σ : zS} {x : Int} (h : IX σ x) : ∀ j, σ.1.2.1 (x + 65) j = -1 := h.2.2.2.2.2.2.2.2.2.2.2.2.2.2.2.2.2.2
section C84
variable {σ σ' σ0 σ1 σ2 σ3 : zS} {a b c d n v x : Int} {k : zK}
theorem a_nn {x n : Int} (h : 0 ≤ x) (k : 0 ≤ n) : 0 ≤ x + n := by omega
theorem lt_a {x n : Int} (h : 0 < n) : x < x + n := by omega
theorem le_dd {d i j : Int} (h : i ≤ j) : d + i ≤ d + j := by omega
theorem lt_dd {d i j : Int} (h : i < j) : d + i < d + j := by omega
theorem le_da {d i j k : Int} (h : i + k ≤ j) : d + i + k ≤ d + j := by omega
theorem a_as {x a b c : Int} (h : a + b = c) : x + a + b = x + c := by omega
theorem lt_ne1 (h : b < d) : b ≠ d + 1 := by omega
theorem KP.rf : KP a b σ σ := fun _ _ _ => ⟨rfl, fun _ => rfl, rfl⟩
theorem KP.tr (h : KP a b σ σ1) (k : KP a b σ1 σ2) : KP a b σ σ2 := fun y h1 h2 => ⟨(k y h1 h2).1.trans (h y h1 h2).1, fun j => ((k y h1 h2).2.1 j).trans ((h y h1 h2).2.1 j), (k y h1 h2).2.2.trans (h y h1 h2).2.2⟩
theorem KP.sub (h : KP a b σ σ') (h1 : a ≤ c) (h2 : d ≤ b) : KP c d σ σ' := fun y h3 h4 => h y (by omega) (by omega)
theorem BL.kp (h : BL d σ σ') (hb : b ≤ d) : KP a b σ σ' := fun y h1 h2 => ⟨h.sh y (by omega), fun j => h.rf y j (by omega), funext fun j => h.m y j (by omega)⟩
theorem PrR.kp {j : Int} (h : PrR x j v σ σ') (hx : x < a) : KP a b σ σ' := fun y h1 h2 => ⟨congrFun h.sh y, fun i => h.rf y i (by omega), congrFun h.m y⟩
theorem KP.bsh (h : KP a b σ σ') (hB : BSh σ.1 x n) (h1 : a ≤ x) (h2 : x + 2 ≤ b) : BSh σ'.1 x n := hB.keep (h x h1 (by omega)).1 (h (x + 1) (by omega) (by omega)).1 ((h x h1 (by omega)).2.1 0)
theorem KP.vsh (h : KP a b σ σ') (hV : VSh σ.1 x) (h1 : a ≤ x) (h2 : x + 7 ≤ b) : VSh σ'.1 x := by
  have hs : ∀ y, x ≤ y → y < x + 7 → σ'.1.1 y = σ.1.1 y := fun y h3 h4 => (h y (by omega) (by omega)).1
  have hr : ∀ j, σ'.1.2.1 x j = σ.1.2.1 x j := (h x h1 (by omega)).2.1
  exact VSh.mk ⟨(hs _ (by omega) (by omega)).trans hV.o, (hr _).trans hV.r0, (hr _).trans hV.r1, (hr _).trans hV.r2, (hr _).trans hV.r3, (hr _).trans hV.r4, (hr _).trans hV.r5, (hs _ (by omega) (by omega)).trans hV.a0, (hs _ (by omega) (by omega)).trans hV.a1, (hs _ (by omega) (by omega)).trans hV.a2, (hs _ (by omega) (by omega)).trans hV.a3, (hs _ (by omega) (by omega)).trans hV.a4, (hs _ (by omega) (by omega)).trans hV.a5⟩
theorem KP.d7 {M : zD} (h : KP a b σ σ') (hD : D7 σ.1 σ.2 d M) (h1 : a ≤ d) (h2 : d + 25 ≤ b) : D7 σ'.1 σ'.2 d M := hD.keep2 (fun y h3 h4 => (h y (by omega) (by omega)).1) (fun y j h3 h4 => (h y (by omega) (by omega)).2.1 j) (fun y h3 h4 => (h y (by omega) (by omega)).2.2)
theorem KP.sh {t : Nat} {q : Int} (h : KP a b σ σ') (hx : σ.1.1 x = some (t, q)) (h1 : a ≤ x) (h2 : x < b) : σ'.1.1 x = some (t, q) := (h x h1 h2).1.trans hx
theorem KP.ref {j : Int} (h : KP a b σ σ') (hx : σ.1.2.1 x j = v) (h1 : a ≤ x) (h2 : x < b) : σ'.1.2.1 x j = v := ((h x h1 h2).2.1 j).trans hx
theorem KP.mem {j : Int} (h : KP a b σ σ') (hx : σ.2 x j = v) (h1 : a ≤ x) (h2 : x < b) : σ'.2 x j = v := by rw [(h x h1 h2).2.2]; exact hx
theorem keepR {j i : Int} (hb : BL n σ σ1) (hp : PrR x i v σ1 σ2) (hxn : x < n) (hij : j ≠ i) {w : Int} (h : σ.1.2.1 x j = w) : σ2.1.2.1 x j = w := (hp.rj j hij).trans ((hb.rf x j hxn).trans h)
theorem keepS {i : Int} (hb : BL n σ σ1) (hp : PrR x i v σ1 σ2) (hxn : x < n) (h : σ.1.1 x = some k) : σ2.1.1 x = some k := (congrFun hp.sh x).trans ((hb.sh x hxn).trans h)
theorem bsh_of (ha : a = x) (hb : b = x + 1) (hs : σ.1.1 a = some (0, 0)) (h : OwnR a b c (2, n) σ σ') : BSh σ'.1 x n := by
  subst ha
  subst hb
  exact BSh.mk ⟨(h.sh _ (by omega)).trans hs, h.at0, h.sh0⟩
theorem c_X2_init (ha : 0 ≤ a) (hs : σ.1.1 a = some (0, 2)) (hn : σ.1.2.2 = b) (hb : b = a + 1) (hc : c = a + 2) : ∃ σ', f_X2_init a σ = some (.inl 0, σ') ∧ (OwnR a b c (7, 6) σ σ' ∧ ∀ j, σ'.1.2.1 b j = -1) := by
  have main : zo (f_X2_init a σ) (fun r => ∃ σ', r = (.inl 0, σ') ∧ (OwnR a b c (7, 6) σ σ' ∧ ∀ j, σ'.1.2.1 b j = -1)) := by
    refine j_X2_init ?_
    refine zo_pos ha ?_
    refine zo_na2 (c := c) (by omega) hn (by omega) ?_
    intro σ1 k1
    refine zo_pr2 (j := 0) ((k1.sh a (by omega)).trans hs) (by omega) (by omega) ?_
    intro σ2 k2
    exact zo_rt ⟨σ2, rfl, OwnR.of k1 k2 (by omega), fun j => (k2.rf b j (by omega)).trans (k1.rf0 j)⟩
  obtain ⟨r, e, σ', hr, h⟩ := main
  exact ⟨σ', by rw [e, hr], h⟩
theorem c_X4_init {r0 r1 : Int} (ha : 0 ≤ a) (hs : σ.1.1 a = some (0, 4)) (hz : ∀ j, σ.2 a j = 0) : ∃ σ', f_X4_init a r0 r1 σ = some (.inl 0, σ') ∧ (BL a σ σ' ∧ σ'.1.2.2 = σ.1.2.2 ∧ σ'.1.1 a = some (0, 4) ∧ σ'.1.2.1 a 0 = r0 ∧ σ'.1.2.1 a 1 = r1 ∧ σ'.2 a 6 = 0 ∧ σ'.2 a 7 = -1) := by
  have main : zo (f_X4_init a r0 r1 σ) (fun r => ∃ σ', r = (.inl 0, σ') ∧ (BL a σ σ' ∧ σ'.1.2.2 = σ.1.2.2 ∧ σ'.1.1 a = some (0, 4) ∧ σ'.1.2.1 a 0 = r0 ∧ σ'.1.2.1 a 1 = r1 ∧ σ'.2 a 6 = 0 ∧ σ'.2 a 7 = -1)) := by
    refine j_X4_init ?_
    refine zo_pos ha ?_
    refine zo_pf2 (j := 7) hs (by omega) (by omega) ?_
    intro σ1 k1
    have s1 : σ1.1.1 a = some (0, 4) := (congrArg (fun g : zG => g.1 a) k1.g).trans hs
    refine zo_pr2 (j := 0) s1 (by omega) (by omega) ?_
    intro σ2 k2
    have s2 : σ2.1.1 a = some (0, 4) := (congrFun k2.sh a).trans s1
    refine zo_pr2 (j := 1) s2 (by omega) (by omega) ?_
    intro σ3 k3
    refine zo_rt ⟨σ3, rfl, BL.tr (BL.tr (BL.pf k1 (Int.le_refl _)) (BL.pr k2 (Int.le_refl _))) (BL.pr k3 (Int.le_refl _)), ?_, (congrFun k3.sh a).trans s2, (k3.rj 0 (by decide)).trans k2.at0, k3.at0, ?_, ?_⟩
    · rw [k3.nx, k2.nx]
      exact congrArg (fun g : zG => g.2.2) k1.g
    · rw [k3.m, k2.m, k1.mj 6 (by decide)]
      exact hz 6
    · rw [k3.m, k2.m]
      exact k1.at0
  obtain ⟨r, e, σ', hr, h⟩ := main
  exact ⟨σ', by rw [e, hr], h⟩
set_option maxHeartbeats 4000000 in
theorem c_X6_init (hd : 0 ≤ d) (hs : σ0.1.1 d = some (0, 6)) (hn : σ0.1.2.2 = d + 1) : ∃ σ', f_X6_init d σ0 = some (.inl 0, σ') ∧ (VSh σ'.1 d ∧ σ'.1.2.2 = d + 7 ∧ BL d σ0 σ') := by
  have main : zo (f_X6_init d σ0) (fun r => ∃ σ', r = (.inl 0, σ') ∧ (VSh σ'.1 d ∧ σ'.1.2.2 = d + 7 ∧ BL d σ0 σ')) := by
    have b0 : BL d σ0 σ0 := BL.rf0
    refine j_X6_init ?_
    refine zo_pos hd ?_
    refine zo_na2 (a := d + 1) (c := d + 2) (by decide) hn (s_d (by decide)) ?_
    rintro σ1 k1
    have f1 : σ1.1.1 (d) = some (0, 6) := (k1.sh _ (ne_0 (by decide))).trans hs
    have f2 : σ1.1.2.2 = d + 2 := k1.nx
    have f3 : σ1.1.1 (d + 1) = some (1, 6) := k1.sh0
    have f4 : ∀ j, σ1.2 (d + 1) j = 0 := k1.m0
    have b1 : BL d σ0 σ1 := BL.tr b0 (BL.mkn k1 (le_d (by decide)))
    refine zo_pr2 (j := 0) f1 rfl rfl ?_
    rintro σ2 k2
    have f5 : σ2.1.1 (d) = some (0, 6) := (congrFun k2.sh _).trans f1
    have f6 : σ2.1.2.2 = d + 2 := k2.nx.trans f2
    have f7 : σ2.1.1 (d + 1) = some (1, 6) := (congrFun k2.sh _).trans f3
    have f8 : ∀ j, σ2.2 (d + 1) j = 0 := fun j => (congrFun (congrFun k2.m _) _).trans (f4 j)
    clear f1 f2 f3 f4
    have f9 : σ2.1.2.1 (d) (0) = d + 1 := k2.at0
    have b2 : BL d σ0 σ2 := BL.tr b1 (BL.pr k2 (Int.le_refl _))
    refine zo_na2 (a := d + 2) (c := d + 3) (by decide) f6 (s_d (by decide)) ?_
    rintro σ3 k3
    have f10 : σ3.1.1 (d) = some (0, 6) := (k3.sh _ (ne_0 (by decide))).trans f5
    have f11 : σ3.1.1 (d + 1) = some (1, 6) := (k3.sh _ (ne_d (by decide))).trans f7
    have f12 : ∀ j, σ3.2 (d + 1) j = 0 := fun j => (k3.m _ _ (ne_d (by decide))).trans (f8 j)
    have f13 : σ3.1.2.1 (d) (0) = d + 1 := (k3.rf _ _ (ne_0 (by decide))).trans f9
    clear f5 f6 f7 f8 f9
    have f14 : σ3.1.2.2 = d + 3 := k3.nx
    have f15 : σ3.1.1 (d + 2) = some (1, 6) := k3.sh0
    have f16 : ∀ j, σ3.2 (d + 2) j = 0 := k3.m0
    have b3 : BL d σ0 σ3 := BL.tr b2 (BL.mkn k3 (le_d (by decide)))
    refine zo_pr2 (j := 1) f10 rfl rfl ?_
    rintro σ4 k4
    have f17 : σ4.1.1 (d) = some (0, 6) := (congrFun k4.sh _).trans f10
    have f18 : σ4.1.1 (d + 1) = some (1, 6) := (congrFun k4.sh _).trans f11
    have f19 : ∀ j, σ4.2 (d + 1) j = 0 := fun j => (congrFun (congrFun k4.m _) _).trans (f12 j)
    have f20 : σ4.1.2.1 (d) (0) = d + 1 := (k4.rj _ (by decide)).trans f13
    have f21 : σ4.1.2.2 = d + 3 := k4.nx.trans f14
    have f22 : σ4.1.1 (d + 2) = some (1, 6) := (congrFun k4.sh _).trans f15
    have f23 : ∀ j, σ4.2 (d + 2) j = 0 := fun j => (congrFun (congrFun k4.m _) _).trans (f16 j)
    clear f10 f11 f12 f13 f14 f15 f16
    have f24 : σ4.1.2.1 (d) (1) = d + 2 := k4.at0
    have b4 : BL d σ0 σ4 := BL.tr b3 (BL.pr k4 (Int.le_refl _))
    refine zo_na2 (a := d + 3) (c := d + 4) (by decide) f21 (s_d (by decide)) ?_
    rintro σ5 k5
    have f25 : σ5.1.1 (d) = some (0, 6) := (k5.sh _ (ne_0 (by decide))).trans f17
    have f26 : σ5.1.1 (d + 1) = some (1, 6) := (k5.sh _ (ne_d (by decide))).trans f18
    have f27 : ∀ j, σ5.2 (d + 1) j = 0 := fun j => (k5.m _ _ (ne_d (by decide))).trans (f19 j)
    have f28 : σ5.1.2.1 (d) (0) = d + 1 := (k5.rf _ _ (ne_0 (by decide))).trans f20
    have f29 : σ5.1.1 (d + 2) = some (1, 6) := (k5.sh _ (ne_d (by decide))).trans f22
    have f30 : ∀ j, σ5.2 (d + 2) j = 0 := fun j => (k5.m _ _ (ne_d (by decide))).trans (f23 j)
    have f31 : σ5.1.2.1 (d) (1) = d + 2 := (k5.rf _ _ (ne_0 (by decide))).trans f24
    clear f17 f18 f19 f20 f21 f22 f23 f24
    have f32 : σ5.1.2.2 = d + 4 := k5.nx
    have f33 : σ5.1.1 (d + 3) = some (1, 6) := k5.sh0
    have f34 : ∀ j, σ5.2 (d + 3) j = 0 := k5.m0
    have b5 : BL d σ0 σ5 := BL.tr b4 (BL.mkn k5 (le_d (by decide)))
    refine zo_pr2 (j := 2) f25 rfl rfl ?_
    rintro σ6 k6
    have f35 : σ6.1.1 (d) = some (0, 6) := (congrFun k6.sh _).trans f25
    have f36 : σ6.1.1 (d + 1) = some (1, 6) := (congrFun k6.sh _).trans f26
    have f37 : ∀ j, σ6.2 (d + 1) j = 0 := fun j => (congrFun (congrFun k6.m _) _).trans (f27 j)
    have f38 : σ6.1.2.1 (d) (0) = d + 1 := (k6.rj _ (by decide)).trans f28
    have f39 : σ6.1.1 (d + 2) = some (1, 6) := (congrFun k6.sh _).trans f29
    have f40 : ∀ j, σ6.2 (d + 2) j = 0 := fun j => (congrFun (congrFun k6.m _) _).trans (f30 j)
    have f41 : σ6.1.2.1 (d) (1) = d + 2 := (k6.rj _ (by decide)).trans f31
    have f42 : σ6.1.2.2 = d + 4 := k6.nx.trans f32
    have f43 : σ6.1.1 (d + 3) = some (1, 6) := (congrFun k6.sh _).trans f33
    have f44 : ∀ j, σ6.2 (d + 3) j = 0 := fun j => (congrFun (congrFun k6.m _) _).trans (f34 j)
    clear f25 f26 f27 f28 f29 f30 f31 f32 f33 f34
    have f45 : σ6.1.2.1 (d) (2) = d + 3 := k6.at0
    have b6 : BL d σ0 σ6 := BL.tr b5 (BL.pr k6 (Int.le_refl _))
    refine zo_na2 (a := d + 4) (c := d + 5) (by decide) f42 (s_d (by decide)) ?_
    rintro σ7 k7
    have f46 : σ7.1.1 (d) = some (0, 6) := (k7.sh _ (ne_0 (by decide))).trans f35
    have f47 : σ7.1.1 (d + 1) = some (1, 6) := (k7.sh _ (ne_d (by decide))).trans f36
    have f48 : ∀ j, σ7.2 (d + 1) j = 0 := fun j => (k7.m _ _ (ne_d (by decide))).trans (f37 j)
    have f49 : σ7.1.2.1 (d) (0) = d + 1 := (k7.rf _ _ (ne_0 (by decide))).trans f38
    have f50 : σ7.1.1 (d + 2) = some (1, 6) := (k7.sh _ (ne_d (by decide))).trans f39
    have f51 : ∀ j, σ7.2 (d + 2) j = 0 := fun j => (k7.m _ _ (ne_d (by decide))).trans (f40 j)
    have f52 : σ7.1.2.1 (d) (1) = d + 2 := (k7.rf _ _ (ne_0 (by decide))).trans f41
    have f53 : σ7.1.1 (d + 3) = some (1, 6) := (k7.sh _ (ne_d (by decide))).trans f43
    have f54 : ∀ j, σ7.2 (d + 3) j = 0 := fun j => (k7.m _ _ (ne_d (by decide))).trans (f44 j)
    have f55 : σ7.1.2.1 (d) (2) = d + 3 := (k7.rf _ _ (ne_0 (by decide))).trans f45
    clear f35 f36 f37 f38 f39 f40 f41 f42 f43 f44 f45
    have f56 : σ7.1.2.2 = d + 5 := k7.nx
    have f57 : σ7.1.1 (d + 4) = some (1, 6) := k7.sh0
    have f58 : ∀ j, σ7.2 (d + 4) j = 0 := k7.m0
    have b7 : BL d σ0 σ7 := BL.tr b6 (BL.mkn k7 (le_d (by decide)))
    refine zo_pr2 (j := 3) f46 rfl rfl ?_
    rintro σ8 k8
    have f59 : σ8.1.1 (d) = some (0, 6) := (congrFun k8.sh _).trans f46
    have f60 : σ8.1.1 (d + 1) = some (1, 6) := (congrFun k8.sh _).trans f47
    have f61 : ∀ j, σ8.2 (d + 1) j = 0 := fun j => (congrFun (congrFun k8.m _) _).trans (f48 j)
    have f62 : σ8.1.2.1 (d) (0) = d + 1 := (k8.rj _ (by decide)).trans f49
    have f63 : σ8.1.1 (d + 2) = some (1, 6) := (congrFun k8.sh _).trans f50
    have f64 : ∀ j, σ8.2 (d + 2) j = 0 := fun j => (congrFun (congrFun k8.m _) _).trans (f51 j)
    have f65 : σ8.1.2.1 (d) (1) = d + 2 := (k8.rj _ (by decide)).trans f52
    have f66 : σ8.1.1 (d + 3) = some (1, 6) := (congrFun k8.sh _).trans f53
    have f67 : ∀ j, σ8.2 (d + 3) j = 0 := fun j => (congrFun (congrFun k8.m _) _).trans (f54 j)
    have f68 : σ8.1.2.1 (d) (2) = d + 3 := (k8.rj _ (by decide)).trans f55
    have f69 : σ8.1.2.2 = d + 5 := k8.nx.trans f56
    have f70 : σ8.1.1 (d + 4) = some (1, 6) := (congrFun k8.sh _).trans f57
    have f71 : ∀ j, σ8.2 (d + 4) j = 0 := fun j => (congrFun (congrFun k8.m _) _).trans (f58 j)
    clear f46 f47 f48 f49 f50 f51 f52 f53 f54 f55 f56 f57 f58
    have f72 : σ8.1.2.1 (d) (3) = d + 4 := k8.at0
    have b8 : BL d σ0 σ8 := BL.tr b7 (BL.pr k8 (Int.le_refl _))
    refine zo_na2 (a := d + 5) (c := d + 6) (by decide) f69 (s_d (by decide)) ?_
    rintro σ9 k9
    have f73 : σ9.1.1 (d) = some (0, 6) := (k9.sh _ (ne_0 (by decide))).trans f59
    have f74 : σ9.1.1 (d + 1) = some (1, 6) := (k9.sh _ (ne_d (by decide))).trans f60
    have f75 : ∀ j, σ9.2 (d + 1) j = 0 := fun j => (k9.m _ _ (ne_d (by decide))).trans (f61 j)
    have f76 : σ9.1.2.1 (d) (0) = d + 1 := (k9.rf _ _ (ne_0 (by decide))).trans f62
    have f77 : σ9.1.1 (d + 2) = some (1, 6) := (k9.sh _ (ne_d (by decide))).trans f63
    have f78 : ∀ j, σ9.2 (d + 2) j = 0 := fun j => (k9.m _ _ (ne_d (by decide))).trans (f64 j)
    have f79 : σ9.1.2.1 (d) (1) = d + 2 := (k9.rf _ _ (ne_0 (by decide))).trans f65
    have f80 : σ9.1.1 (d + 3) = some (1, 6) := (k9.sh _ (ne_d (by decide))).trans f66
    have f81 : ∀ j, σ9.2 (d + 3) j = 0 := fun j => (k9.m _ _ (ne_d (by decide))).trans (f67 j)
    have f82 : σ9.1.2.1 (d) (2) = d + 3 := (k9.rf _ _ (ne_0 (by decide))).trans f68
    have f83 : σ9.1.1 (d + 4) = some (1, 6) := (k9.sh _ (ne_d (by decide))).trans f70
    have f84 : ∀ j, σ9.2 (d + 4) j = 0 := fun j => (k9.m _ _ (ne_d (by decide))).trans (f71 j)
    have f85 : σ9.1.2.1 (d) (3) = d + 4 := (k9.rf _ _ (ne_0 (by decide))).trans f72
    clear f59 f60 f61 f62 f63 f64 f65 f66 f67 f68 f69 f70 f71 f72
    have f86 : σ9.1.2.2 = d + 6 := k9.nx
    have f87 : σ9.1.1 (d + 5) = some (1, 6) := k9.sh0
    have f88 : ∀ j, σ9.2 (d + 5) j = 0 := k9.m0
    have b9 : BL d σ0 σ9 := BL.tr b8 (BL.mkn k9 (le_d (by decide)))
    refine zo_pr2 (j := 4) f73 rfl rfl ?_
    rintro σ10 k10
    have f89 : σ10.1.1 (d) = some (0, 6) := (congrFun k10.sh _).trans f73
    have f90 : σ10.1.1 (d + 1) = some (1, 6) := (congrFun k10.sh _).trans f74
    have f91 : ∀ j, σ10.2 (d + 1) j = 0 := fun j => (congrFun (congrFun k10.m _) _).trans (f75 j)
    have f92 : σ10.1.2.1 (d) (0) = d + 1 := (k10.rj _ (by decide)).trans f76
    have f93 : σ10.1.1 (d + 2) = some (1, 6) := (congrFun k10.sh _).trans f77
    have f94 : ∀ j, σ10.2 (d + 2) j = 0 := fun j => (congrFun (congrFun k10.m _) _).trans (f78 j)
    have f95 : σ10.1.2.1 (d) (1) = d + 2 := (k10.rj _ (by decide)).trans f79
    have f96 : σ10.1.1 (d + 3) = some (1, 6) := (congrFun k10.sh _).trans f80
    have f97 : ∀ j, σ10.2 (d + 3) j = 0 := fun j => (congrFun (congrFun k10.m _) _).trans (f81 j)
    have f98 : σ10.1.2.1 (d) (2) = d + 3 := (k10.rj _ (by decide)).trans f82
    have f99 : σ10.1.1 (d + 4) = some (1, 6) := (congrFun k10.sh _).trans f83
    have f100 : ∀ j, σ10.2 (d + 4) j = 0 := fun j => (congrFun (congrFun k10.m _) _).trans (f84 j)
    have f101 : σ10.1.2.1 (d) (3) = d + 4 := (k10.rj _ (by decide)).trans f85
    have f102 : σ10.1.2.2 = d + 6 := k10.nx.trans f86
    have f103 : σ10.1.1 (d + 5) = some (1, 6) := (congrFun k10.sh _).trans f87
    have f104 : ∀ j, σ10.2 (d + 5) j = 0 := fun j => (congrFun (congrFun k10.m _) _).trans (f88 j)
    clear f73 f74 f75 f76 f77 f78 f79 f80 f81 f82 f83 f84 f85 f86 f87 f88
    have f105 : σ10.1.2.1 (d) (4) = d + 5 := k10.at0
    have b10 : BL d σ0 σ10 := BL.tr b9 (BL.pr k10 (Int.le_refl _))
    refine zo_na2 (a := d + 6) (c := d + 7) (by decide) f102 (s_d (by decide)) ?_
    rintro σ11 k11
    have f106 : σ11.1.1 (d) = some (0, 6) := (k11.sh _ (ne_0 (by decide))).trans f89
    have f107 : σ11.1.1 (d + 1) = some (1, 6) := (k11.sh _ (ne_d (by decide))).trans f90
    have f108 : ∀ j, σ11.2 (d + 1) j = 0 := fun j => (k11.m _ _ (ne_d (by decide))).trans (f91 j)
    have f109 : σ11.1.2.1 (d) (0) = d + 1 := (k11.rf _ _ (ne_0 (by decide))).trans f92
    have f110 : σ11.1.1 (d + 2) = some (1, 6) := (k11.sh _ (ne_d (by decide))).trans f93
    have f111 : ∀ j, σ11.2 (d + 2) j = 0 := fun j => (k11.m _ _ (ne_d (by decide))).trans (f94 j)
    have f112 : σ11.1.2.1 (d) (1) = d + 2 := (k11.rf _ _ (ne_0 (by decide))).trans f95
    have f113 : σ11.1.1 (d + 3) = some (1, 6) := (k11.sh _ (ne_d (by decide))).trans f96
    have f114 : ∀ j, σ11.2 (d + 3) j = 0 := fun j => (k11.m _ _ (ne_d (by decide))).trans (f97 j)
    have f115 : σ11.1.2.1 (d) (2) = d + 3 := (k11.rf _ _ (ne_0 (by decide))).trans f98
    have f116 : σ11.1.1 (d + 4) = some (1, 6) := (k11.sh _ (ne_d (by decide))).trans f99
    have f117 : ∀ j, σ11.2 (d + 4) j = 0 := fun j => (k11.m _ _ (ne_d (by decide))).trans (f100 j)
    have f118 : σ11.1.2.1 (d) (3) = d + 4 := (k11.rf _ _ (ne_0 (by decide))).trans f101
    have f119 : σ11.1.1 (d + 5) = some (1, 6) := (k11.sh _ (ne_d (by decide))).trans f103
    have f120 : ∀ j, σ11.2 (d + 5) j = 0 := fun j => (k11.m _ _ (ne_d (by decide))).trans (f104 j)
    have f121 : σ11.1.2.1 (d) (4) = d + 5 := (k11.rf _ _ (ne_0 (by decide))).trans f105
    clear f89 f90 f91 f92 f93 f94 f95 f96 f97 f98 f99 f100 f101 f102 f103 f104 f105
    have f122 : σ11.1.2.2 = d + 7 := k11.nx
    have f123 : σ11.1.1 (d + 6) = some (1, 6) := k11.sh0
    have f124 : ∀ j, σ11.2 (d + 6) j = 0 := k11.m0
    have b11 : BL d σ0 σ11 := BL.tr b10 (BL.mkn k11 (le_d (by decide)))
    refine zo_pr2 (j := 5) f106 rfl rfl ?_
    rintro σ12 k12
    have f125 : σ12.1.1 (d) = some (0, 6) := (congrFun k12.sh _).trans f106
    have f126 : σ12.1.1 (d + 1) = some (1, 6) := (congrFun k12.sh _).trans f107
    have f127 : ∀ j, σ12.2 (d + 1) j = 0 := fun j => (congrFun (congrFun k12.m _) _).trans (f108 j)
    have f128 : σ12.1.2.1 (d) (0) = d + 1 := (k12.rj _ (by decide)).trans f109
    have f129 : σ12.1.1 (d + 2) = some (1, 6) := (congrFun k12.sh _).trans f110
    have f130 : ∀ j, σ12.2 (d + 2) j = 0 := fun j => (congrFun (congrFun k12.m _) _).trans (f111 j)
    have f131 : σ12.1.2.1 (d) (1) = d + 2 := (k12.rj _ (by decide)).trans f112
    have f132 : σ12.1.1 (d + 3) = some (1, 6) := (congrFun k12.sh _).trans f113
    have f133 : ∀ j, σ12.2 (d + 3) j = 0 := fun j => (congrFun (congrFun k12.m _) _).trans (f114 j)
    have f134 : σ12.1.2.1 (d) (2) = d + 3 := (k12.rj _ (by decide)).trans f115
    have f135 : σ12.1.1 (d + 4) = some (1, 6) := (congrFun k12.sh _).trans f116
    have f136 : ∀ j, σ12.2 (d + 4) j = 0 := fun j => (congrFun (congrFun k12.m _) _).trans (f117 j)
    have f137 : σ12.1.2.1 (d) (3) = d + 4 := (k12.rj _ (by decide)).trans f118
    have f138 : σ12.1.1 (d + 5) = some (1, 6) := (congrFun k12.sh _).trans f119
    have f139 : ∀ j, σ12.2 (d + 5) j = 0 := fun j => (congrFun (congrFun k12.m _) _).trans (f120 j)
    have f140 : σ12.1.2.1 (d) (4) = d + 5 := (k12.rj _ (by decide)).trans f121
    have f141 : σ12.1.2.2 = d + 7 := k12.nx.trans f122
    have f142 : σ12.1.1 (d + 6) = some (1, 6) := (congrFun k12.sh _).trans f123
    have f143 : ∀ j, σ12.2 (d + 6) j = 0 := fun j => (congrFun (congrFun k12.m _) _).trans (f124 j)
    clear f106 f107 f108 f109 f110 f111 f112 f113 f114 f115 f116 f117 f118 f119 f120 f121 f122 f123 f124
    have f144 : σ12.1.2.1 (d) (5) = d + 6 := k12.at0
    have b12 : BL d σ0 σ12 := BL.tr b11 (BL.pr k12 (Int.le_refl _))
    refine zo_rt ⟨σ12, rfl, VSh.mk ⟨f125, f128, f131, f134, f137, f140, f144, f126, f129, f132, f135, f138, f142⟩, f141, b12⟩
  obtain ⟨r, e, σ', hr, h⟩ := main
  exact ⟨σ', by rw [e, hr], h⟩
set_option maxHeartbeats 4000000 in
theorem c_X7_init (hd : 0 ≤ x) (hs : σ.1.1 x = some (0, 7)) (hn : σ.1.2.2 = x + 1) : ∃ σ', f_X7_init x σ = some (.inl 0, σ') ∧ (IX σ' x ∧ σ'.1.2.2 = x + 66) := by
  have main : zo (f_X7_init x σ) (fun r => ∃ σ', r = (.inl 0, σ') ∧ (IX σ' x ∧ σ'.1.2.2 = x + 66)) := by
    refine j_X7_init ?_
    refine zo_pos hd ?_
    refine zo_nw2 (a := x + 1) (c := x + 2) hn (s_d (by decide)) ?_
    intro τ1 k1
    have bA1 : BL (x + 1) σ τ1 := BL.mkn k1 (Int.le_refl _)
    refine zo_pos (a_nn hd (by decide)) ?_
    obtain ⟨υ1, e1, o1⟩ := c_X0_init (σ := τ1) (a := x + 1) (b := x + 2) (c := x + 3) (n := 600) (a_nn hd (by decide)) k1.sh0 k1.nx (s_d (by decide)) (s_d2 (by decide)) (by decide)
    have bB1 : BL (x + 1) τ1 υ1 := BL.own o1 (Int.le_refl _) (le_dd (by decide))
    have nn1 : υ1.1.2.2 = x + 3 := o1.nx
    refine zo_bn e1 ?_
    have b1 : BL (x + 1) σ υ1 := BL.tr bA1 bB1
    refine zo_pr2 (j := 0) ((b1.sh x (lt_a (by decide))).trans hs) rfl rfl ?_
    intro σ1 p1
    have kp1 : KP (x + 1) (x + 1) σ σ1 := KP.tr (b1.kp (Int.le_refl _)) (p1.kp (lt_a (by decide)))
    have kq1 : KP (x + 1) (x + 3) υ1 σ1 := p1.kp (lt_a (by decide))
    have hn1 : σ1.1.2.2 = x + 3 := p1.nx.trans nn1
    have hs1 : σ1.1.1 x = some (0, 7) := keepS b1 p1 (lt_a (by decide)) hs
    have r0_1 : σ1.1.2.1 x 0 = x + 1 := p1.at0
    have B1 : BSh υ1.1 (x + 1) 600 := bsh_of rfl (s_d (by decide)) k1.sh0 o1
    have B1 : BSh σ1.1 (x + 1) 600 := kq1.bsh B1 (le_dd (by decide)) (le_da (by decide))
    have Z1 : υ1.2 (x + 1) 1 = 0 := (o1.m (x + 1) 1 (ne_d (by decide))).trans (k1.m0 1)
    have Z1 : σ1.2 (x + 1) 1 = 0 := kq1.mem Z1 (le_dd (by decide)) (lt_dd (by decide))
    refine zo_nw2 (a := x + 3) (c := x + 4) hn1 (s_d (by decide)) ?_
    intro τ2 k2
    have bA2 : BL (x + 3) σ1 τ2 := BL.mkn k2 (Int.le_refl _)
    refine zo_pos (a_nn hd (by decide)) ?_
    obtain ⟨υ2, e2, o2⟩ := c_X0_init (σ := τ2) (a := x + 3) (b := x + 4) (c := x + 5) (n := 1224) (a_nn hd (by decide)) k2.sh0 k2.nx (s_d (by decide)) (s_d2 (by decide)) (by decide)
    have bB2 : BL (x + 3) τ2 υ2 := BL.own o2 (Int.le_refl _) (le_dd (by decide))
    have nn2 : υ2.1.2.2 = x + 5 := o2.nx
    refine zo_bn e2 ?_
    have b2 : BL (x + 3) σ1 υ2 := BL.tr bA2 bB2
    refine zo_pr2 (j := 1) ((b2.sh x (lt_a (by decide))).trans hs1) rfl rfl ?_
    intro σ2 p2
    have kp2 : KP (x + 1) (x + 3) σ1 σ2 := KP.tr (b2.kp (Int.le_refl _)) (p2.kp (lt_a (by decide)))
    have kq2 : KP (x + 1) (x + 5) υ2 σ2 := p2.kp (lt_a (by decide))
    have hn2 : σ2.1.2.2 = x + 5 := p2.nx.trans nn2
    have hs2 : σ2.1.1 x = some (0, 7) := keepS b2 p2 (lt_a (by decide)) hs1
    have r0_2 : σ2.1.2.1 x 0 = x + 1 := keepR b2 p2 (lt_a (by decide)) (by decide) r0_1
    have r1_2 : σ2.1.2.1 x 1 = x + 3 := p2.at0
    have B1 : BSh σ2.1 (x + 1) 600 := kp2.bsh B1 (le_dd (by decide)) (le_da (by decide))
    have Z1 : σ2.2 (x + 1) 1 = 0 := kp2.mem Z1 (le_dd (by decide)) (lt_dd (by decide))
    have B2 : BSh υ2.1 (x + 3) 1224 := bsh_of rfl (s_d (by decide)) k2.sh0 o2
    have B2 : BSh σ2.1 (x + 3) 1224 := kq2.bsh B2 (le_dd (by decide)) (le_da (by decide))
    have Z2 : υ2.2 (x + 3) 1 = 0 := (o2.m (x + 3) 1 (ne_d (by decide))).trans (k2.m0 1)
    have Z2 : σ2.2 (x + 3) 1 = 0 := kq2.mem Z2 (le_dd (by decide)) (lt_dd (by decide))
    refine zo_nw2 (a := x + 5) (c := x + 6) hn2 (s_d (by decide)) ?_
    intro τ3 k3
    have bA3 : BL (x + 5) σ2 τ3 := BL.mkn k3 (Int.le_refl _)
    refine zo_pos (a_nn hd (by decide)) ?_
    obtain ⟨υ3, e3, v3, nn3, bB3⟩ := c_X6_init (σ0 := τ3) (d := x + 5) (a_nn hd (by decide)) k3.sh0 (k3.nx.trans (s_d (by decide)))
    have nn3 : υ3.1.2.2 = x + 12 := nn3.trans (a_as (by decide))
    refine zo_bn e3 ?_
    have b3 : BL (x + 5) σ2 υ3 := BL.tr bA3 bB3
    refine zo_pr2 (j := 2) ((b3.sh x (lt_a (by decide))).trans hs2) rfl rfl ?_
    intro σ3 p3
    have kp3 : KP (x + 1) (x + 5) σ2 σ3 := KP.tr (b3.kp (Int.le_refl _)) (p3.kp (lt_a (by decide)))
    have kq3 : KP (x + 1) (x + 12) υ3 σ3 := p3.kp (lt_a (by decide))
    have hn3 : σ3.1.2.2 = x + 12 := p3.nx.trans nn3
    have hs3 : σ3.1.1 x = some (0, 7) := keepS b3 p3 (lt_a (by decide)) hs2
    have r0_3 : σ3.1.2.1 x 0 = x + 1 := keepR b3 p3 (lt_a (by decide)) (by decide) r0_2
    have r1_3 : σ3.1.2.1 x 1 = x + 3 := keepR b3 p3 (lt_a (by decide)) (by decide) r1_2
    have r2_3 : σ3.1.2.1 x 2 = x + 5 := p3.at0
    have B1 : BSh σ3.1 (x + 1) 600 := kp3.bsh B1 (le_dd (by decide)) (le_da (by decide))
    have Z1 : σ3.2 (x + 1) 1 = 0 := kp3.mem Z1 (le_dd (by decide)) (lt_dd (by decide))
    have B2 : BSh σ3.1 (x + 3) 1224 := kp3.bsh B2 (le_dd (by decide)) (le_da (by decide))
    have Z2 : σ3.2 (x + 3) 1 = 0 := kp3.mem Z2 (le_dd (by decide)) (lt_dd (by decide))
    have V3 : VSh υ3.1 (x + 5) := v3
    have V3 : VSh σ3.1 (x + 5) := kq3.vsh V3 (le_dd (by decide)) (le_da (by decide))
    refine zo_nw2 (a := x + 12) (c := x + 13) hn3 (s_d (by decide)) ?_
    intro τ4 k4
    have bA4 : BL (x + 12) σ3 τ4 := BL.mkn k4 (Int.le_refl _)
    refine zo_pos (a_nn hd (by decide)) ?_
    obtain ⟨υ4, e4, v4, nn4, bB4⟩ := c_X1_init (σ0 := τ4) (d := x + 12) (a_nn hd (by decide)) k4.sh0 (k4.nx.trans (s_d (by decide)))
    have nn4 : υ4.1.2.2 = x + 37 := nn4.trans (a_as (by decide))
    refine zo_bn e4 ?_
    have b4 : BL (x + 12) σ3 υ4 := BL.tr bA4 bB4
    refine zo_pr2 (j := 3) ((b4.sh x (lt_a (by decide))).trans hs3) rfl rfl ?_
    intro σ4 p4
    have kp4 : KP (x + 1) (x + 12) σ3 σ4 := KP.tr (b4.kp (Int.le_refl _)) (p4.kp (lt_a (by decide)))
    have kq4 : KP (x + 1) (x + 37) υ4 σ4 := p4.kp (lt_a (by decide))
    have hn4 : σ4.1.2.2 = x + 37 := p4.nx.trans nn4
    have hs4 : σ4.1.1 x = some (0, 7) := keepS b4 p4 (lt_a (by decide)) hs3
    have r0_4 : σ4.1.2.1 x 0 = x + 1 := keepR b4 p4 (lt_a (by decide)) (by decide) r0_3
    have r1_4 : σ4.1.2.1 x 1 = x + 3 := keepR b4 p4 (lt_a (by decide)) (by decide) r1_3
    have r2_4 : σ4.1.2.1 x 2 = x + 5 := keepR b4 p4 (lt_a (by decide)) (by decide) r2_3
    have r3_4 : σ4.1.2.1 x 3 = x + 12 := p4.at0
    have B1 : BSh σ4.1 (x + 1) 600 := kp4.bsh B1 (le_dd (by decide)) (le_da (by decide))
    have Z1 : σ4.2 (x + 1) 1 = 0 := kp4.mem Z1 (le_dd (by decide)) (lt_dd (by decide))
    have B2 : BSh σ4.1 (x + 3) 1224 := kp4.bsh B2 (le_dd (by decide)) (le_da (by decide))
    have Z2 : σ4.2 (x + 3) 1 = 0 := kp4.mem Z2 (le_dd (by decide)) (lt_dd (by decide))
    have V3 : VSh σ4.1 (x + 5) := kp4.vsh V3 (le_dd (by decide)) (le_da (by decide))
    have D4 : D7 υ4.1 υ4.2 (x + 12) zD0 := v4
    have D4 : D7 σ4.1 σ4.2 (x + 12) zD0 := kq4.d7 D4 (le_dd (by decide)) (le_da (by decide))
    refine zo_nw2 (a := x + 37) (c := x + 38) hn4 (s_d (by decide)) ?_
    intro τ5 k5
    have bA5 : BL (x + 37) σ4 τ5 := BL.mkn k5 (Int.le_refl _)
    refine zo_pos (a_nn hd (by decide)) ?_
    obtain ⟨υ5, e5, v5, nn5, bB5⟩ := c_X1_init (σ0 := τ5) (d := x + 37) (a_nn hd (by decide)) k5.sh0 (k5.nx.trans (s_d (by decide)))
    have nn5 : υ5.1.2.2 = x + 62 := nn5.trans (a_as (by decide))
    refine zo_bn e5 ?_
    have b5 : BL (x + 37) σ4 υ5 := BL.tr bA5 bB5
    refine zo_pr2 (j := 4) ((b5.sh x (lt_a (by decide))).trans hs4) rfl rfl ?_
    intro σ5 p5
    have kp5 : KP (x + 1) (x + 37) σ4 σ5 := KP.tr (b5.kp (Int.le_refl _)) (p5.kp (lt_a (by decide)))
    have kq5 : KP (x + 1) (x + 62) υ5 σ5 := p5.kp (lt_a (by decide))
    have hn5 : σ5.1.2.2 = x + 62 := p5.nx.trans nn5
    have hs5 : σ5.1.1 x = some (0, 7) := keepS b5 p5 (lt_a (by decide)) hs4
    have r0_5 : σ5.1.2.1 x 0 = x + 1 := keepR b5 p5 (lt_a (by decide)) (by decide) r0_4
    have r1_5 : σ5.1.2.1 x 1 = x + 3 := keepR b5 p5 (lt_a (by decide)) (by decide) r1_4
    have r2_5 : σ5.1.2.1 x 2 = x + 5 := keepR b5 p5 (lt_a (by decide)) (by decide) r2_4
    have r3_5 : σ5.1.2.1 x 3 = x + 12 := keepR b5 p5 (lt_a (by decide)) (by decide) r3_4
    have r4_5 : σ5.1.2.1 x 4 = x + 37 := p5.at0
    have B1 : BSh σ5.1 (x + 1) 600 := kp5.bsh B1 (le_dd (by decide)) (le_da (by decide))
    have Z1 : σ5.2 (x + 1) 1 = 0 := kp5.mem Z1 (le_dd (by decide)) (lt_dd (by decide))
    have B2 : BSh σ5.1 (x + 3) 1224 := kp5.bsh B2 (le_dd (by decide)) (le_da (by decide))
    have Z2 : σ5.2 (x + 3) 1 = 0 := kp5.mem Z2 (le_dd (by decide)) (lt_dd (by decide))
    have V3 : VSh σ5.1 (x + 5) := kp5.vsh V3 (le_dd (by decide)) (le_da (by decide))
    have D4 : D7 σ5.1 σ5.2 (x + 12) zD0 := kp5.d7 D4 (le_dd (by decide)) (le_da (by decide))
    have D5 : D7 υ5.1 υ5.2 (x + 37) zD0 := v5
    have D5 : D7 σ5.1 σ5.2 (x + 37) zD0 := kq5.d7 D5 (le_dd (by decide)) (le_da (by decide))
    refine zo_nw2 (a := x + 62) (c := x + 63) hn5 (s_d (by decide)) ?_
    intro τ6 k6
    have bA6 : BL (x + 62) σ5 τ6 := BL.mkn k6 (Int.le_refl _)
    refine zo_gr2 ((bA6.sh x (lt_a (by decide))).trans hs5) ((bA6.rf x 0 (lt_a (by decide))).trans r0_5) rfl rfl ?_
    refine zo_gr2 ((bA6.sh x (lt_a (by decide))).trans hs5) ((bA6.rf x 4 (lt_a (by decide))).trans r4_5) rfl rfl ?_
    refine zo_pos (a_nn hd (by decide)) ?_
    obtain ⟨υ6, e6, bB6, nn6, s4, q0, q1, m6, m7⟩ := c_X4_init (σ := τ6) (a := x + 62) (r0 := x + 1) (r1 := x + 37) (a_nn hd (by decide)) k6.sh0 k6.m0
    have nn6 : υ6.1.2.2 = x + 63 := nn6.trans k6.nx
    refine zo_bn e6 ?_
    have b6 : BL (x + 62) σ5 υ6 := BL.tr bA6 bB6
    refine zo_pr2 (j := 5) ((b6.sh x (lt_a (by decide))).trans hs5) rfl rfl ?_
    intro σ6 p6
    have kp6 : KP (x + 1) (x + 62) σ5 σ6 := KP.tr (b6.kp (Int.le_refl _)) (p6.kp (lt_a (by decide)))
    have kq6 : KP (x + 1) (x + 63) υ6 σ6 := p6.kp (lt_a (by decide))
    have hn6 : σ6.1.2.2 = x + 63 := p6.nx.trans nn6
    have hs6 : σ6.1.1 x = some (0, 7) := keepS b6 p6 (lt_a (by decide)) hs5
    have r0_6 : σ6.1.2.1 x 0 = x + 1 := keepR b6 p6 (lt_a (by decide)) (by decide) r0_5
    have r1_6 : σ6.1.2.1 x 1 = x + 3 := keepR b6 p6 (lt_a (by decide)) (by decide) r1_5
    have r2_6 : σ6.1.2.1 x 2 = x + 5 := keepR b6 p6 (lt_a (by decide)) (by decide) r2_5
    have r3_6 : σ6.1.2.1 x 3 = x + 12 := keepR b6 p6 (lt_a (by decide)) (by decide) r3_5
    have r4_6 : σ6.1.2.1 x 4 = x + 37 := keepR b6 p6 (lt_a (by decide)) (by decide) r4_5
    have r5_6 : σ6.1.2.1 x 5 = x + 62 := p6.at0
    have B1 : BSh σ6.1 (x + 1) 600 := kp6.bsh B1 (le_dd (by decide)) (le_da (by decide))
    have Z1 : σ6.2 (x + 1) 1 = 0 := kp6.mem Z1 (le_dd (by decide)) (lt_dd (by decide))
    have B2 : BSh σ6.1 (x + 3) 1224 := kp6.bsh B2 (le_dd (by decide)) (le_da (by decide))
    have Z2 : σ6.2 (x + 3) 1 = 0 := kp6.mem Z2 (le_dd (by decide)) (lt_dd (by decide))
    have V3 : VSh σ6.1 (x + 5) := kp6.vsh V3 (le_dd (by decide)) (le_da (by decide))
    have D4 : D7 σ6.1 σ6.2 (x + 12) zD0 := kp6.d7 D4 (le_dd (by decide)) (le_da (by decide))
    have D5 : D7 σ6.1 σ6.2 (x + 37) zD0 := kp6.d7 D5 (le_dd (by decide)) (le_da (by decide))
    have P0 : υ6.1.1 (x + 62) = some (0, 4) := s4
    have P0 : σ6.1.1 (x + 62) = some (0, 4) := kq6.sh P0 (le_dd (by decide)) (lt_dd (by decide))
    have P1 : υ6.1.2.1 (x + 62) 0 = x + 1 := q0
    have P1 : σ6.1.2.1 (x + 62) 0 = x + 1 := kq6.ref P1 (le_dd (by decide)) (lt_dd (by decide))
    have P2 : υ6.1.2.1 (x + 62) 1 = x + 37 := q1
    have P2 : σ6.1.2.1 (x + 62) 1 = x + 37 := kq6.ref P2 (le_dd (by decide)) (lt_dd (by decide))
    have P3 : υ6.2 (x + 62) 6 = 0 := m6
    have P3 : σ6.2 (x + 62) 6 = 0 := kq6.mem P3 (le_dd (by decide)) (lt_dd (by decide))
    have P4 : υ6.2 (x + 62) 7 = -1 := m7
    have P4 : σ6.2 (x + 62) 7 = -1 := kq6.mem P4 (le_dd (by decide)) (lt_dd (by decide))
    refine zo_nw2 (a := x + 63) (c := x + 64) hn6 (s_d (by decide)) ?_
    intro τ7 k7
    have bA7 : BL (x + 63) σ6 τ7 := BL.mkn k7 (Int.le_refl _)
    refine zo_pos (a_nn hd (by decide)) ?_
    obtain ⟨υ7, e7, o7, oz⟩ := c_X2_init (σ := τ7) (a := x + 63) (b := x + 64) (c := x + 65) (a_nn hd (by decide)) k7.sh0 k7.nx (s_d (by decide)) (s_d2 (by decide))
    have bB7 : BL (x + 63) τ7 υ7 := BL.own o7 (Int.le_refl _) (le_dd (by decide))
    have nn7 : υ7.1.2.2 = x + 65 := o7.nx
    refine zo_bn e7 ?_
    have b7 : BL (x + 63) σ6 υ7 := BL.tr bA7 bB7
    refine zo_pr2 (j := 6) ((b7.sh x (lt_a (by decide))).trans hs6) rfl rfl ?_
    intro σ7 p7
    have kp7 : KP (x + 1) (x + 63) σ6 σ7 := KP.tr (b7.kp (Int.le_refl _)) (p7.kp (lt_a (by decide)))
    have kq7 : KP (x + 1) (x + 65) υ7 σ7 := p7.kp (lt_a (by decide))
    have hn7 : σ7.1.2.2 = x + 65 := p7.nx.trans nn7
    have hs7 : σ7.1.1 x = some (0, 7) := keepS b7 p7 (lt_a (by decide)) hs6
    have r0_7 : σ7.1.2.1 x 0 = x + 1 := keepR b7 p7 (lt_a (by decide)) (by decide) r0_6
    have r1_7 : σ7.1.2.1 x 1 = x + 3 := keepR b7 p7 (lt_a (by decide)) (by decide) r1_6
    have r2_7 : σ7.1.2.1 x 2 = x + 5 := keepR b7 p7 (lt_a (by decide)) (by decide) r2_6
    have r3_7 : σ7.1.2.1 x 3 = x + 12 := keepR b7 p7 (lt_a (by decide)) (by decide) r3_6
    have r4_7 : σ7.1.2.1 x 4 = x + 37 := keepR b7 p7 (lt_a (by decide)) (by decide) r4_6
    have r5_7 : σ7.1.2.1 x 5 = x + 62 := keepR b7 p7 (lt_a (by decide)) (by decide) r5_6
    have r6_7 : σ7.1.2.1 x 6 = x + 63 := p7.at0
    have B1 : BSh σ7.1 (x + 1) 600 := kp7.bsh B1 (le_dd (by decide)) (le_da (by decide))
    have Z1 : σ7.2 (x + 1) 1 = 0 := kp7.mem Z1 (le_dd (by decide)) (lt_dd (by decide))
    have B2 : BSh σ7.1 (x + 3) 1224 := kp7.bsh B2 (le_dd (by decide)) (le_da (by decide))
    have Z2 : σ7.2 (x + 3) 1 = 0 := kp7.mem Z2 (le_dd (by decide)) (lt_dd (by decide))
    have V3 : VSh σ7.1 (x + 5) := kp7.vsh V3 (le_dd (by decide)) (le_da (by decide))
    have D4 : D7 σ7.1 σ7.2 (x + 12) zD0 := kp7.d7 D4 (le_dd (by decide)) (le_da (by decide))
    have D5 : D7 σ7.1 σ7.2 (x + 37) zD0 := kp7.d7 D5 (le_dd (by decide)) (le_da (by decide))
    have P0 : σ7.1.1 (x + 62) = some (0, 4) := kp7.sh P0 (le_dd (by decide)) (lt_dd (by decide))
    have P1 : σ7.1.2.1 (x + 62) 0 = x + 1 := kp7.ref P1 (le_dd (by decide)) (lt_dd (by decide))
    have P2 : σ7.1.2.1 (x + 62) 1 = x + 37 := kp7.ref P2 (le_dd (by decide)) (lt_dd (by decide))
    have P3 : σ7.2 (x + 62) 6 = 0 := kp7.mem P3 (le_dd (by decide)) (lt_dd (by decide))
    have P4 : σ7.2 (x + 62) 7 = -1 := kp7.mem P4 (le_dd (by decide)) (lt_dd (by decide))
    have H0 : υ7.1.1 (x + 63) = some (0, 2) := (o7.sh _ (ne_d (by decide))).trans k7.sh0
    have H0 : σ7.1.1 (x + 63) = some (0, 2) := kq7.sh H0 (le_dd (by decide)) (lt_dd (by decide))
    have H1 : υ7.1.2.1 (x + 63) 0 = x + 64 := o7.at0
    have H1 : σ7.1.2.1 (x + 63) 0 = x + 64 := kq7.ref H1 (le_dd (by decide)) (lt_dd (by decide))
    have H2 : υ7.1.1 (x + 64) = some (7, 6) := o7.sh0
    have H2 : σ7.1.1 (x + 64) = some (7, 6) := kq7.sh H2 (le_dd (by decide)) (lt_dd (by decide))
    have H3 : ∀ j, υ7.1.2.1 (x + 64) j = -1 := oz
    have H3 : ∀ j, σ7.1.2.1 (x + 64) j = -1 := fun j => kq7.ref (H3 j) (le_dd (by decide)) (lt_dd (by decide))
    have H4 : υ7.2 (x + 63) 1 = 0 := (o7.m (x + 63) 1 (ne_d (by decide))).trans (k7.m0 1)
    have H4 : σ7.2 (x + 63) 1 = 0 := kq7.mem H4 (le_dd (by decide)) (lt_dd (by decide))
    refine zo_na2 (a := x + 65) (c := x + 66) (by decide) hn7 (s_d (by decide)) ?_
    intro τ8 k8
    have b8 : BL (x + 65) σ7 τ8 := BL.mkn k8 (Int.le_refl _)
    refine zo_pr2 (j := 7) ((b8.sh x (lt_a (by decide))).trans hs7) rfl rfl ?_
    intro σ8 p8
    have kp8 : KP (x + 1) (x + 65) σ7 σ8 := KP.tr (b8.kp (Int.le_refl _)) (p8.kp (lt_a (by decide)))
    have kq8 : KP (x + 1) (x + 66) τ8 σ8 := p8.kp (lt_a (by decide))
    have hs8 : σ8.1.1 x = some (0, 7) := keepS b8 p8 (lt_a (by decide)) hs7
    have r0_8 : σ8.1.2.1 x 0 = x + 1 := keepR b8 p8 (lt_a (by decide)) (by decide) r0_7
    have r1_8 : σ8.1.2.1 x 1 = x + 3 := keepR b8 p8 (lt_a (by decide)) (by decide) r1_7
    have r2_8 : σ8.1.2.1 x 2 = x + 5 := keepR b8 p8 (lt_a (by decide)) (by decide) r2_7
    have r3_8 : σ8.1.2.1 x 3 = x + 12 := keepR b8 p8 (lt_a (by decide)) (by decide) r3_7
    have r4_8 : σ8.1.2.1 x 4 = x + 37 := keepR b8 p8 (lt_a (by decide)) (by decide) r4_7
    have r5_8 : σ8.1.2.1 x 5 = x + 62 := keepR b8 p8 (lt_a (by decide)) (by decide) r5_7
    have r6_8 : σ8.1.2.1 x 6 = x + 63 := keepR b8 p8 (lt_a (by decide)) (by decide) r6_7
    have r7_8 : σ8.1.2.1 x 7 = x + 65 := p8.at0
    have B1 : BSh σ8.1 (x + 1) 600 := kp8.bsh B1 (le_dd (by decide)) (le_da (by decide))
    have Z1 : σ8.2 (x + 1) 1 = 0 := kp8.mem Z1 (le_dd (by decide)) (lt_dd (by decide))
    have B2 : BSh σ8.1 (x + 3) 1224 := kp8.bsh B2 (le_dd (by decide)) (le_da (by decide))
    have Z2 : σ8.2 (x + 3) 1 = 0 := kp8.mem Z2 (le_dd (by decide)) (lt_dd (by decide))
    have V3 : VSh σ8.1 (x + 5) := kp8.vsh V3 (le_dd (by decide)) (le_da (by decide))
    have D4 : D7 σ8.1 σ8.2 (x + 12) zD0 := kp8.d7 D4 (le_dd (by decide)) (le_da (by decide))
    have D5 : D7 σ8.1 σ8.2 (x + 37) zD0 := kp8.d7 D5 (le_dd (by decide)) (le_da (by decide))
    have P0 : σ8.1.1 (x + 62) = some (0, 4) := kp8.sh P0 (le_dd (by decide)) (lt_dd (by decide))
    have P1 : σ8.1.2.1 (x + 62) 0 = x + 1 := kp8.ref P1 (le_dd (by decide)) (lt_dd (by decide))
    have P2 : σ8.1.2.1 (x + 62) 1 = x + 37 := kp8.ref P2 (le_dd (by decide)) (lt_dd (by decide))
    have P3 : σ8.2 (x + 62) 6 = 0 := kp8.mem P3 (le_dd (by decide)) (lt_dd (by decide))
    have P4 : σ8.2 (x + 62) 7 = -1 := kp8.mem P4 (le_dd (by decide)) (lt_dd (by decide))
    have H0 : σ8.1.1 (x + 63) = some (0, 2) := kp8.sh H0 (le_dd (by decide)) (lt_dd (by decide))
    have H1 : σ8.1.2.1 (x + 63) 0 = x + 64 := kp8.ref H1 (le_dd (by decide)) (lt_dd (by decide))
    have H2 : σ8.1.1 (x + 64) = some (7, 6) := kp8.sh H2 (le_dd (by decide)) (lt_dd (by decide))
    have H3 : ∀ j, σ8.1.2.1 (x + 64) j = -1 := fun j => kp8.ref (H3 j) (le_dd (by decide)) (lt_dd (by decide))
    have H4 : σ8.2 (x + 63) 1 = 0 := kp8.mem H4 (le_dd (by decide)) (lt_dd (by decide))
    have K0 : σ8.1.1 (x + 65) = some (7, 2) := kq8.sh k8.sh0 (le_dd (by decide)) (lt_dd (by decide))
    have K1 : ∀ j, σ8.1.2.1 (x + 65) j = -1 := fun j => kq8.ref (k8.rf0 j) (le_dd (by decide)) (lt_dd (by decide))
    exact zo_rt ⟨σ8, rfl, IX.mk ⟨CB.mk ⟨hd, hs8, r0_8, r1_8, r2_8, r3_8, r4_8, r5_8, r6_8, r7_8, V3⟩, D4, D5, B1, Z1, B2, Z2, P0, P1, P2, P3, P4, H0, H1, H2, H3, H4, K0, K1⟩, p8.nx.trans k8.nx⟩
  obtain ⟨r, e, σ', hr, h⟩ := main
  exact ⟨σ', by rw [e, hr], h⟩
theorem wd_first (h0 : 0 ≤ x) (h : IX σ x) (nx : σ.1.2.2 = x + 66) (hw : WF 0 zD0) : Wd 0 x σ.1 σ.2 zD0 [] (fun _ => none) [] [] 0 (-1) := by
  have hr : HR7 σ.1 σ.2 x (x + 66) (fun _ => -1) [] (fun _ => none) := by
    refine HR7.mk ⟨Pool.mk ⟨⟨by omega, by omega⟩, fun i hi => Or.inl rfl, fun i j h1 h2 h3 => Or.inl rfl⟩, by omega, h.h0, h.h1, h.h2, h.k0, fun i hi => h.h3 i, fun i hi => h.k1 i, by decide, h.h4, fun i X hX => absurd hX (by simp), fun i hi hk => rfl, fun i X hi hk => absurd hk (by simp)⟩
  have a : W7 σ.1 σ.2 x zD0 [] (fun _ => none) [] [] 0 (-1) := by
    refine W7.mk ⟨h.C, h.D, h.E.sh, h.E.em37, ⟨_, hr⟩, h.B1, LBy.mk ⟨h.z1, fun k y hk => absurd hk (by simp), fun y hy => absurd hy (by simp)⟩, h.B2, LBy.mk ⟨h.z2, fun k y hk => absurd hk (by simp), fun y hy => absurd hy (by simp)⟩, h.p0, h.p1, h.p2, h.p3, h.p4, by decide, by decide, fun y hy => absurd hy (by simp)⟩
  have w : WB 0 zD0 [] (fun _ => none) := WB.mk ⟨hw, fun X hX => absurd hX (by simp), fun i X hi hk => absurd hk (by simp)⟩
  exact Wd.mk ⟨a, w⟩
end C84
/-! the law -/
def zQ1 : zR × zS → Prop := fun r => r.1 = .inl 1
theorem l_acts {g : zF} {x : Int} {K : zKs} {out : List Int} (hg : (zsl9 g : Int) < 2147483648) {S : zG} {μ : zM} {M : zD} {L : List zD} (h0 : Wd 99 x S μ M L K [] out 0 (-1)) : zo (f_L_law_28 g 15 200 x 80 (S, μ)) zQ1 := by
  refine zo_lk (F := fun m (q : Int × zG × zM) => f_L_law_28 g m 200 x q.1 (q.2.1, q.2.2)) (b0 := (80, S, μ)) 14 (fun k q => q.1 = 80 + 6 * (k : Int) ∧ ∃ M L, Wd (99 + 99 * (k : Int)) x q.2.1 q.2.2 M L K [] out 0 (-1)) ?_ ⟨rfl, M, L, h0⟩ (by decide)
  rintro m k ⟨kk, S2, μ2⟩ hk ⟨hkk, M2, L2, h2⟩ ih
  dsimp only at hkk h2 ih ⊢
  subst hkk
  refine j_L_law_28 ?_
  refine zo_ite (fun c1 => ?_) (fun c1 => zo_rt rfl)
  have hk3 : k < 14 := by omega
  obtain ⟨r, er, v, S3, μ3, M3, L3, e3, h3⟩ := l_act hg h2 (by omega) (k := 80 + 6 * (k : Int)) (by omega)
  rw [e3] at er
  refine zo_bn er ?_
  refine zo_bd (l_holdsAll h3) (fun S4 μ4 h4 => ?_)
  refine zo_neg (by decide) ?_
  rw [w32_e (z := 80 + 6 * (k : Int) + 6) (by omega)]
  refine ih hk3 (80 + 6 * (k : Int) + 6, S4, μ4) ⟨by show 80 + 6 * (k : Int) + 6 = 80 + 6 * ((k + 1 : Nat) : Int); omega, M3, L3, ?_⟩
  rw [show 99 + 99 * ((k + 1 : Nat) : Int) = 99 + 99 * (k : Int) + 99 by omega]
  exact h4
theorem l_law {g : zF} (hg : (zsl9 g : Int) < 2147483648) {x : Int} (hx : 0 ≤ x) {σ : zS} (hn : σ.1.2.2 = x) : zo (f_L_law g 200 σ) zQ1 := by
  refine j_L_law ?_
  refine zo_nw2 (a := x) (c := x + 1) hn rfl ?_
  intro σ1 k1
  refine zo_pos hx ?_
  obtain ⟨σ2, e2, h2, n2⟩ := c_X7_init hx k1.sh0 k1.nx
  refine zo_bn e2 ?_
  have hw := wd_first hx h2 n2 (wf0 (by decide) (by decide))
  obtain ⟨S, μ⟩ := σ2
  obtain ⟨r, er, S3, μ3, M3, L3, e3, h3⟩ := l_load hg hw (by decide)
  rw [e3] at er
  refine zo_bn er ?_
  refine zo_neg (by decide) ?_
  refine zo_bd (l_holdsAll h3) (fun S4 μ4 h4 => ?_)
  refine zo_neg (by decide) ?_
  exact l_acts hg h4
