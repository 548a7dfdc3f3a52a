/-! C 84: the first world -/
/-- what lies from a up to b stays -/
def KP (a b : Int) (σ σ' : zS) : Prop := ∀ y, a ≤ y → y < b → σ'.1.1 y = σ.1.1 y ∧ (∀ j, σ'.1.2.1 y j = σ.1.2.1 y j) ∧ σ'.2 y = σ.2 y
/-- the class's part of the first world -/
def IX (σ : zS) (x : Int) : Prop := (CB σ.1 x) ∧ (D7 σ.1 σ.2 (x + 12) zD0) ∧ (D7 σ.1 σ.2 (x + 37) zD0) ∧ (BSh σ.1 (x + 1) 600) ∧ (σ.2 (x + 1) 1 = 0) ∧ (BSh σ.1 (x + 3) 1224) ∧ (σ.2 (x + 3) 1 = 0) ∧ (σ.1.1 (x + 62) = some (0, 4)) ∧ (σ.1.2.1 (x + 62) 0 = x + 1) ∧ (σ.1.2.1 (x + 62) 1 = x + 37) ∧ (σ.2 (x + 62) 6 = 0) ∧ (σ.2 (x + 62) 7 = -1) ∧ (σ.1.1 (x + 63) = some (0, 2)) ∧ (σ.1.2.1 (x + 63) 0 = x + 64) ∧ (σ.1.1 (x + 64) = some (7, 6)) ∧ (∀ j, σ.1.2.1 (x + 64) j = -1) ∧ (σ.2 (x + 63) 1 = 0) ∧ (σ.1.1 (x + 65) = some (7, 2)) ∧ (∀ j, σ.1.2.1 (x + 65) j = -1)
theorem IX.mk {σ : zS} {x : Int} (h : (CB σ.1 x) ∧ (D7 σ.1 σ.2 (x + 12) zD0) ∧ (D7 σ.1 σ.2 (x + 37) zD0) ∧ (BSh σ.1 (x + 1) 600) ∧ (σ.2 (x + 1) 1 = 0) ∧ (BSh σ.1 (x + 3) 1224) ∧ (σ.2 (x + 3) 1 = 0) ∧ (σ.1.1 (x + 62) = some (0, 4)) ∧ (σ.1.2.1 (x + 62) 0 = x + 1) ∧ (σ.1.2.1 (x + 62) 1 = x + 37) ∧ (σ.2 (x + 62) 6 = 0) ∧ (σ.2 (x + 62) 7 = -1) ∧ (σ.1.1 (x + 63) = some (0, 2)) ∧ (σ.1.2.1 (x + 63) 0 = x + 64) ∧ (σ.1.1 (x + 64) = some (7, 6)) ∧ (∀ j, σ.1.2.1 (x + 64) j = -1) ∧ (σ.2 (x + 63) 1 = 0) ∧ (σ.1.1 (x + 65) = some (7, 2)) ∧ (∀ j, σ.1.2.1 (x + 65) j = -1)) : IX σ x := h
theorem IX.C {σ : zS} {x : Int} (h : IX σ x) : CB σ.1 x := h.1
theorem IX.D {σ : zS} {x : Int} (h : IX σ x) : D7 σ.1 σ.2 (x + 12) zD0 := h.2.1
theorem IX.E {σ : zS} {x : Int} (h : IX σ x) : D7 σ.1 σ.2 (x + 37) zD0 := h.2.2.1
theorem IX.B1 {σ : zS} {x : Int} (h : IX σ x) : BSh σ.1 (x + 1) 600 := h.2.2.2.1
theorem IX.z1 {σ : zS} {x : Int} (h : IX σ x) : σ.2 (x + 1) 1 = 0 := h.2.2.2.2.1
theorem IX.B2 {σ : zS} {x : Int} (h : IX σ x) : BSh σ.1 (x + 3) 1224 := h.2.2.2.2.2.1
theorem IX.z2 {σ : zS} {x : Int} (h : IX σ x) : σ.2 (x + 3) 1 = 0 := h.2.2.2.2.2.2.1
theorem IX.p0 {σ : zS} {x : Int} (h : IX σ x) : σ.1.1 (x + 62) = some (0, 4) := h.2.2.2.2.2.2.2.1
theorem IX.p1 {σ : zS} {x : Int} (h : IX σ x) : σ.1.2.1 (x + 62) 0 = x + 1 := h.2.2.2.2.2.2.2.2.1
theorem IX.p2 {σ : zS} {x : Int} (h : IX σ x) : σ.1.2.1 (x + 62) 1 = x + 37 := h.2.2.2.2.2.2.2.2.2.1
theorem IX.p3 {σ : zS} {x : Int} (h : IX σ x) : σ.2 (x + 62) 6 = 0 := h.2.2.2.2.2.2.2.2.2.2.1
theorem IX.p4 {σ : zS} {x : Int} (h : IX σ x) : σ.2 (x + 62) 7 = -1 := h.2.2.2.2.2.2.2.2.2.2.2.1
theorem IX.h0 {σ : zS} {x : Int} (h : IX σ x) : σ.1.1 (x + 63) = some (0, 2) := h.2.2.2.2.2.2.2.2.2.2.2.2.1
theorem IX.h1 {σ : zS} {x : Int} (h : IX σ x) : σ.1.2.1 (x + 63) 0 = x + 64 := h.2.2.2.2.2.2.2.2.2.2.2.2.2.1
theorem IX.h2 {σ : zS} {x : Int} (h : IX σ x) : σ.1.1 (x + 64) = some (7, 6) := h.2.2.2.2.2.2.2.2.2.2.2.2.2.2.1
theorem IX.h3 {σ : zS} {x : Int} (h : IX σ x) : ∀ j, σ.1.2.1 (x + 64) j = -1 := h.2.2.2.2.2.2.2.2.2.2.2.2.2.2.2.1
theorem IX.h4 {σ : zS} {x : Int} (h : IX σ x) : σ.2 (x + 63) 1 = 0 := h.2.2.2.2.2.2.2.2.2.2.2.2.2.2.2.2.1
theorem IX.k0 {σ : zS} {x : Int} (h : IX σ x) : σ.1.1 (x + 65) = some (7, 2) := h.2.2.2.2.2.2.2.2.2.2.2.2.2.2.2.2.2.1
theorem IX.k1 {σ : zS} {x : Int} (h : IX σ x) : ∀ j, σ.1.2.1 (x + 65) j = -1 := h.2.2.2.2.2.2.2.2.2.2.2.2.2.2.2.2.2.2
section C84
variable {σ σ' σ0 σ1 σ2 σ3 : zS} {a b c d n v x : Int} {k : zK}
theorem a_nn {x n : Int} (h : 0 ≤ x) (k : 0 ≤ n) : 0 ≤ x + n := by omega
theorem lt_a {x n : Int} (h : 0 < n) : x < x + n := by omega
theorem le_dd {d i j : Int} (h : i ≤ j) : d + i ≤ d + j := by omega
theorem lt_dd {d i j : Int} (h : i < j) : d + i < d + j := by omega
theorem le_da {d i j k : Int} (h : i + k ≤ j) : d + i + k ≤ d + j := by omega
theorem a_as {x a b c : Int} (h : a + b = c) : x + a + b = x + c := by omega
theorem lt_ne1 (h : b < d) : b ≠ d + 1 := by omega
theorem KP.rf : KP a b σ σ := fun _ _ _ => ⟨rfl, fun _ => rfl, rfl⟩
theorem KP.tr (h : KP a b σ σ1) (k : KP a b σ1 σ2) : KP a b σ σ2 := fun y h1 h2 => ⟨(k y h1 h2).1.trans (h y h1 h2).1, fun j => ((k y h1 h2).2.1 j).trans ((h y h1 h2).2.1 j), (k y h1 h2).2.2.trans (h y h1 h2).2.2⟩
theorem KP.sub (h : KP a b σ σ') (h1 : a ≤ c) (h2 : d ≤ b) : KP c d σ σ' := fun y h3 h4 => h y (by omega) (by omega)
theorem BL.kp (h : BL d σ σ') (hb : b ≤ d) : KP a b σ σ' := fun y h1 h2 => ⟨h.sh y (by omega), fun j => h.rf y j (by omega), funext fun j => h.m y j (by omega)⟩
theorem PrR.kp {j : Int} (h : PrR x j v σ σ') (hx : x < a) : KP a b σ σ' := fun y h1 h2 => ⟨congrFun h.sh y, fun i => h.rf y i (by omega), congrFun h.m y⟩
theorem KP.bsh (h : KP a b σ σ') (hB : BSh σ.1 x n) (h1 : a ≤ x) (h2 : x + 2 ≤ b) : BSh σ'.1 x n := hB.keep (h x h1 (by omega)).1 (h (x + 1) (by omega) (by omega)).1 ((h x h1 (by omega)).2.1 0)
theorem KP.vsh (h : KP a b σ σ') (hV : VSh σ.1 x) (h1 : a ≤ x) (h2 : x + 7 ≤ b) : VSh σ'.1 x := by
  have hs : ∀ y, x ≤ y → y < x + 7 → σ'.1.1 y = σ.1.1 y := fun y h3 h4 => (h y (by omega) (by omega)).1
  have hr : ∀ j, σ'.1.2.1 x j = σ.1.2.1 x j := (h x h1 (by omega)).2.1
  exact VSh.mk ⟨(hs _ (by omega) (by omega)).trans hV.o, (hr _).trans hV.r0, (hr _).trans hV.r1, (hr _).trans hV.r2, (hr _).trans hV.r3, (hr _).trans hV.r4, (hr _).trans hV.r5, (hs _ (by omega) (by omega)).trans hV.a0, (hs _ (by omega) (by omega)).trans hV.a1, (hs _ (by omega) (by omega)).trans hV.a2, (hs _ (by omega) (by omega)).trans hV.a3, (hs _ (by omega) (by omega)).trans hV.a4, (hs _ (by omega) (by omega)).trans hV.a5⟩
theorem KP.d7 {M : zD} (h : KP a b σ σ') (hD : D7 σ.1 σ.2 d M) (h1 : a ≤ d) (h2 : d + 25 ≤ b) : D7 σ'.1 σ'.2 d M := hD.keep2 (fun y h3 h4 => (h y (by omega) (by omega)).1) (fun y j h3 h4 => (h y (by omega) (by omega)).2.1 j) (fun y h3 h4 => (h y (by omega) (by omega)).2.2)
theorem KP.sh {t : Nat} {q : Int} (h : KP a b σ σ') (hx : σ.1.1 x = some (t, q)) (h1 : a ≤ x) (h2 : x < b) : σ'.1.1 x = some (t, q) := (h x h1 h2).1.trans hx
theorem KP.ref {j : Int} (h : KP a b σ σ') (hx : σ.1.2.1 x j = v) (h1 : a ≤ x) (h2 : x < b) : σ'.1.2.1 x j = v := ((h x h1 h2).2.1 j).trans hx
theorem KP.mem {j : Int} (h : KP a b σ σ') (hx : σ.2 x j = v) (h1 : a ≤ x) (h2 : x < b) : σ'.2 x j = v := by rw [(h x h1 h2).2.2]; exact hx
/-- a reference of x, kept while something above is made and another is put -/
theorem keepR {j i : Int} (hb : BL n σ σ1) (hp : PrR x i v σ1 σ2) (hxn : x < n) (hij : j ≠ i) {w : Int} (h : σ.1.2.1 x j = w) : σ2.1.2.1 x j = w := (hp.rj j hij).trans ((hb.rf x j hxn).trans h)
theorem keepS {i : Int} (hb : BL n σ σ1) (hp : PrR x i v σ1 σ2) (hxn : x < n) (h : σ.1.1 x = some k) : σ2.1.1 x = some k := (congrFun hp.sh x).trans ((hb.sh x hxn).trans h)
theorem bsh_of (ha : a = x) (hb : b = x + 1) (hs : σ.1.1 a = some (0, 0)) (h : OwnR a b c (2, n) σ σ') : BSh σ'.1 x n := by
  subst ha
  subst hb
  exact BSh.mk ⟨(h.sh _ (by omega)).trans hs, h.at0, h.sh0⟩
theorem c_X2_init (ha : 0 ≤ a) (hs : σ.1.1 a = some (0, 2)) (hn : σ.1.2.2 = b) (hb : b = a + 1) (hc : c = a + 2) : ∃ σ', f_X2_init a σ = some (.inl 0, σ') ∧ (OwnR a b c (7, 6) σ σ' ∧ ∀ j, σ'.1.2.1 b j = -1) := by
  have main : zo (f_X2_init a σ) (fun r => ∃ σ', r = (.inl 0, σ') ∧ (OwnR a b c (7, 6) σ σ' ∧ ∀ j, σ'.1.2.1 b j = -1)) := by
    refine j_X2_init ?_
    refine zo_pos ha ?_
    refine zo_na2 (c := c) (by omega) hn (by omega) ?_
    intro σ1 k1
    refine zo_pr2 (j := 0) ((k1.sh a (by omega)).trans hs) (by omega) (by omega) ?_
    intro σ2 k2
    exact zo_rt ⟨σ2, rfl, OwnR.of k1 k2 (by omega), fun j => (k2.rf b j (by omega)).trans (k1.rf0 j)⟩
  obtain ⟨r, e, σ', hr, h⟩ := main
  exact ⟨σ', by rw [e, hr], h⟩
theorem c_X4_init {r0 r1 : Int} (ha : 0 ≤ a) (hs : σ.1.1 a = some (0, 4)) (hz : ∀ j, σ.2 a j = 0) : ∃ σ', f_X4_init a r0 r1 σ = some (.inl 0, σ') ∧ (BL a σ σ' ∧ σ'.1.2.2 = σ.1.2.2 ∧ σ'.1.1 a = some (0, 4) ∧ σ'.1.2.1 a 0 = r0 ∧ σ'.1.2.1 a 1 = r1 ∧ σ'.2 a 6 = 0 ∧ σ'.2 a 7 = -1) := by
  have main : zo (f_X4_init a r0 r1 σ) (fun r => ∃ σ', r = (.inl 0, σ') ∧ (BL a σ σ' ∧ σ'.1.2.2 = σ.1.2.2 ∧ σ'.1.1 a = some (0, 4) ∧ σ'.1.2.1 a 0 = r0 ∧ σ'.1.2.1 a 1 = r1 ∧ σ'.2 a 6 = 0 ∧ σ'.2 a 7 = -1)) := by
    refine j_X4_init ?_
    refine zo_pos ha ?_
    refine zo_pf2 (j := 7) hs (by omega) (by omega) ?_
    intro σ1 k1
    have s1 : σ1.1.1 a = some (0, 4) := (congrArg (fun g : zG => g.1 a) k1.g).trans hs
    refine zo_pr2 (j := 0) s1 (by omega) (by omega) ?_
    intro σ2 k2
    have s2 : σ2.1.1 a = some (0, 4) := (congrFun k2.sh a).trans s1
    refine zo_pr2 (j := 1) s2 (by omega) (by omega) ?_
    intro σ3 k3
    refine zo_rt ⟨σ3, rfl, BL.tr (BL.tr (BL.pf k1 (Int.le_refl _)) (BL.pr k2 (Int.le_refl _))) (BL.pr k3 (Int.le_refl _)), ?_, (congrFun k3.sh a).trans s2, (k3.rj 0 (by decide)).trans k2.at0, k3.at0, ?_, ?_⟩
    · rw [k3.nx, k2.nx]
      exact congrArg (fun g : zG => g.2.2) k1.g
    · rw [k3.m, k2.m, k1.mj 6 (by decide)]
      exact hz 6
    · rw [k3.m, k2.m]
      exact k1.at0
  obtain ⟨r, e, σ', hr, h⟩ := main
  exact ⟨σ', by rw [e, hr], h⟩
set_option maxHeartbeats 4000000 in
theorem c_X6_init (hd : 0 ≤ d) (hs : σ0.1.1 d = some (0, 6)) (hn : σ0.1.2.2 = d + 1) : ∃ σ', f_X6_init d σ0 = some (.inl 0, σ') ∧ (VSh σ'.1 d ∧ σ'.1.2.2 = d + 7 ∧ BL d σ0 σ') := by
  have main : zo (f_X6_init d σ0) (fun r => ∃ σ', r = (.inl 0, σ') ∧ (VSh σ'.1 d ∧ σ'.1.2.2 = d + 7 ∧ BL d σ0 σ')) := by
    have b0 : BL d σ0 σ0 := BL.rf0
    refine j_X6_init ?_
    refine zo_pos hd ?_
    refine zo_na2 (a := d + 1) (c := d + 2) (by decide) hn (s_d (by decide)) ?_
    rintro σ1 k1
    have f1 : σ1.1.1 (d) = some (0, 6) := (k1.sh _ (ne_0 (by decide))).trans hs
    have f2 : σ1.1.2.2 = d + 2 := k1.nx
    have f3 : σ1.1.1 (d + 1) = some (1, 6) := k1.sh0
    have f4 : ∀ j, σ1.2 (d + 1) j = 0 := k1.m0
    have b1 : BL d σ0 σ1 := BL.tr b0 (BL.mkn k1 (le_d (by decide)))
    refine zo_pr2 (j := 0) f1 rfl rfl ?_
    rintro σ2 k2
    have f5 : σ2.1.1 (d) = some (0, 6) := (congrFun k2.sh _).trans f1
    have f6 : σ2.1.2.2 = d + 2 := k2.nx.trans f2
    have f7 : σ2.1.1 (d + 1) = some (1, 6) := (congrFun k2.sh _).trans f3
    have f8 : ∀ j, σ2.2 (d + 1) j = 0 := fun j => (congrFun (congrFun k2.m _) _).trans (f4 j)
    clear f1 f2 f3 f4
    have f9 : σ2.1.2.1 (d) (0) = d + 1 := k2.at0
    have b2 : BL d σ0 σ2 := BL.tr b1 (BL.pr k2 (Int.le_refl _))
    refine zo_na2 (a := d + 2) (c := d + 3) (by decide) f6 (s_d (by decide)) ?_
    rintro σ3 k3
    have f10 : σ3.1.1 (d) = some (0, 6) := (k3.sh _ (ne_0 (by decide))).trans f5
    have f11 : σ3.1.1 (d + 1) = some (1, 6) := (k3.sh _ (ne_d (by decide))).trans f7
    have f12 : ∀ j, σ3.2 (d + 1) j = 0 := fun j => (k3.m _ _ (ne_d (by decide))).trans (f8 j)
    have f13 : σ3.1.2.1 (d) (0) = d + 1 := (k3.rf _ _ (ne_0 (by decide))).trans f9
    clear f5 f6 f7 f8 f9
    have f14 : σ3.1.2.2 = d + 3 := k3.nx
    have f15 : σ3.1.1 (d + 2) = some (1, 6) := k3.sh0
    have f16 : ∀ j, σ3.2 (d + 2) j = 0 := k3.m0
    have b3 : BL d σ0 σ3 := BL.tr b2 (BL.mkn k3 (le_d (by decide)))
    refine zo_pr2 (j := 1) f10 rfl rfl ?_
    rintro σ4 k4
    have f17 : σ4.1.1 (d) = some (0, 6) := (congrFun k4.sh _).trans f10
    have f18 : σ4.1.1 (d + 1) = some (1, 6) := (congrFun k4.sh _).trans f11
    have f19 : ∀ j, σ4.2 (d + 1) j = 0 := fun j => (congrFun (congrFun k4.m _) _).trans (f12 j)
    have f20 : σ4.1.2.1 (d) (0) = d + 1 := (k4.rj _ (by decide)).trans f13
    have f21 : σ4.1.2.2 = d + 3 := k4.nx.trans f14
    have f22 : σ4.1.1 (d + 2) = some (1, 6) := (congrFun k4.sh _).trans f15
    have f23 : ∀ j, σ4.2 (d + 2) j = 0 := fun j => (congrFun (congrFun k4.m _) _).trans (f16 j)
    clear f10 f11 f12 f13 f14 f15 f16
    have f24 : σ4.1.2.1 (d) (1) = d + 2 := k4.at0
    have b4 : BL d σ0 σ4 := BL.tr b3 (BL.pr k4 (Int.le_refl _))
    refine zo_na2 (a := d + 3) (c := d + 4) (by decide) f21 (s_d (by decide)) ?_
    rintro σ5 k5
    have f25 : σ5.1.1 (d) = some (0, 6) := (k5.sh _ (ne_0 (by decide))).trans f17
    have f26 : σ5.1.1 (d + 1) = some (1, 6) := (k5.sh _ (ne_d (by decide))).trans f18
    have f27 : ∀ j, σ5.2 (d + 1) j = 0 := fun j => (k5.m _ _ (ne_d (by decide))).trans (f19 j)
    have f28 : σ5.1.2.1 (d) (0) = d + 1 := (k5.rf _ _ (ne_0 (by decide))).trans f20
    have f29 : σ5.1.1 (d + 2) = some (1, 6) := (k5.sh _ (ne_d (by decide))).trans f22
    have f30 : ∀ j, σ5.2 (d + 2) j = 0 := fun j => (k5.m _ _ (ne_d (by decide))).trans (f23 j)
    have f31 : σ5.1.2.1 (d) (1) = d + 2 := (k5.rf _ _ (ne_0 (by decide))).trans f24
    clear f17 f18 f19 f20 f21 f22 f23 f24
    have f32 : σ5.1.2.2 = d + 4 := k5.nx
    have f33 : σ5.1.1 (d + 3) = some (1, 6) := k5.sh0
    have f34 : ∀ j, σ5.2 (d + 3) j = 0 := k5.m0
    have b5 : BL d σ0 σ5 := BL.tr b4 (BL.mkn k5 (le_d (by decide)))
    refine zo_pr2 (j := 2) f25 rfl rfl ?_
    rintro σ6 k6
    have f35 : σ6.1.1 (d) = some (0, 6) := (congrFun k6.sh _).trans f25
    have f36 : σ6.1.1 (d + 1) = some (1, 6) := (congrFun k6.sh _).trans f26
    have f37 : ∀ j, σ6.2 (d + 1) j = 0 := fun j => (congrFun (congrFun k6.m _) _).trans (f27 j)
    have f38 : σ6.1.2.1 (d) (0) = d + 1 := (k6.rj _ (by decide)).trans f28
    have f39 : σ6.1.1 (d + 2) = some (1, 6) := (congrFun k6.sh _).trans f29
    have f40 : ∀ j, σ6.2 (d + 2) j = 0 := fun j => (congrFun (congrFun k6.m _) _).trans (f30 j)
    have f41 : σ6.1.2.1 (d) (1) = d + 2 := (k6.rj _ (by decide)).trans f31
    have f42 : σ6.1.2.2 = d + 4 := k6.nx.trans f32
    have f43 : σ6.1.1 (d + 3) = some (1, 6) := (congrFun k6.sh _).trans f33
    have f44 : ∀ j, σ6.2 (d + 3) j = 0 := fun j => (congrFun (congrFun k6.m _) _).trans (f34 j)
    clear f25 f26 f27 f28 f29 f30 f31 f32 f33 f34
    have f45 : σ6.1.2.1 (d) (2) = d + 3 := k6.at0
    have b6 : BL d σ0 σ6 := BL.tr b5 (BL.pr k6 (Int.le_refl _))
    refine zo_na2 (a := d + 4) (c := d + 5) (by decide) f42 (s_d (by decide)) ?_
    rintro σ7 k7
    have f46 : σ7.1.1 (d) = some (0, 6) := (k7.sh _ (ne_0 (by decide))).trans f35
    have f47 : σ7.1.1 (d + 1) = some (1, 6) := (k7.sh _ (ne_d (by decide))).trans f36
    have f48 : ∀ j, σ7.2 (d + 1) j = 0 := fun j => (k7.m _ _ (ne_d (by decide))).trans (f37 j)
    have f49 : σ7.1.2.1 (d) (0) = d + 1 := (k7.rf _ _ (ne_0 (by decide))).trans f38
    have f50 : σ7.1.1 (d + 2) = some (1, 6) := (k7.sh _ (ne_d (by decide))).trans f39
    have f51 : ∀ j, σ7.2 (d + 2) j = 0 := fun j => (k7.m _ _ (ne_d (by decide))).trans (f40 j)
    have f52 : σ7.1.2.1 (d) (1) = d + 2 := (k7.rf _ _ (ne_0 (by decide))).trans f41
    have f53 : σ7.1.1 (d + 3) = some (1, 6) := (k7.sh _ (ne_d (by decide))).trans f43
    have f54 : ∀ j, σ7.2 (d + 3) j = 0 := fun j => (k7.m _ _ (ne_d (by decide))).trans (f44 j)
    have f55 : σ7.1.2.1 (d) (2) = d + 3 := (k7.rf _ _ (ne_0 (by decide))).trans f45
    clear f35 f36 f37 f38 f39 f40 f41 f42 f43 f44 f45
    have f56 : σ7.1.2.2 = d + 5 := k7.nx
    have f57 : σ7.1.1 (d + 4) = some (1, 6) := k7.sh0
    have f58 : ∀ j, σ7.2 (d + 4) j = 0 := k7.m0
    have b7 : BL d σ0 σ7 := BL.tr b6 (BL.mkn k7 (le_d (by decide)))
    refine zo_pr2 (j := 3) f46 rfl rfl ?_
    rintro σ8 k8
    have f59 : σ8.1.1 (d) = some (0, 6) := (congrFun k8.sh _).trans f46
    have f60 : σ8.1.1 (d + 1) = some (1, 6) := (congrFun k8.sh _).trans f47
    have f61 : ∀ j, σ8.2 (d + 1) j = 0 := fun j => (congrFun (congrFun k8.m _) _).trans (f48 j)
    have f62 : σ8.1.2.1 (d) (0) = d + 1 := (k8.rj _ (by decide)).trans f49
    have f63 : σ8.1.1 (d + 2) = some (1, 6) := (congrFun k8.sh _).trans f50
    have f64 : ∀ j, σ8.2 (d + 2) j = 0 := fun j => (congrFun (congrFun k8.m _) _).trans (f51 j)
    have f65 : σ8.1.2.1 (d) (1) = d + 2 := (k8.rj _ (by decide)).trans f52
    have f66 : σ8.1.1 (d + 3) = some (1, 6) := (congrFun k8.sh _).trans f53
    have f67 : ∀ j, σ8.2 (d + 3) j = 0 := fun j => (congrFun (congrFun k8.m _) _).trans (f54 j)
    have f68 : σ8.1.2.1 (d) (2) = d + 3 := (k8.rj _ (by decide)).trans f55
    have f69 : σ8.1.2.2 = d + 5 := k8.nx.trans f56
    have f70 : σ8.1.1 (d + 4) = some (1, 6) := (congrFun k8.sh _).trans f57
    have f71 : ∀ j, σ8.2 (d + 4) j = 0 := fun j => (congrFun (congrFun k8.m _) _).trans (f58 j)
    clear f46 f47 f48 f49 f50 f51 f52 f53 f54 f55 f56 f57 f58
    have f72 : σ8.1.2.1 (d) (3) = d + 4 := k8.at0
    have b8 : BL d σ0 σ8 := BL.tr b7 (BL.pr k8 (Int.le_refl _))
    refine zo_na2 (a := d + 5) (c := d + 6) (by decide) f69 (s_d (by decide)) ?_
    rintro σ9 k9
    have f73 : σ9.1.1 (d) = some (0, 6) := (k9.sh _ (ne_0 (by decide))).trans f59
    have f74 : σ9.1.1 (d + 1) = some (1, 6) := (k9.sh _ (ne_d (by decide))).trans f60
    have f75 : ∀ j, σ9.2 (d + 1) j = 0 := fun j => (k9.m _ _ (ne_d (by decide))).trans (f61 j)
    have f76 : σ9.1.2.1 (d) (0) = d + 1 := (k9.rf _ _ (ne_0 (by decide))).trans f62
    have f77 : σ9.1.1 (d + 2) = some (1, 6) := (k9.sh _ (ne_d (by decide))).trans f63
    have f78 : ∀ j, σ9.2 (d + 2) j = 0 := fun j => (k9.m _ _ (ne_d (by decide))).trans (f64 j)
    have f79 : σ9.1.2.1 (d) (1) = d + 2 := (k9.rf _ _ (ne_0 (by decide))).trans f65
    have f80 : σ9.1.1 (d + 3) = some (1, 6) := (k9.sh _ (ne_d (by decide))).trans f66
    have f81 : ∀ j, σ9.2 (d + 3) j = 0 := fun j => (k9.m _ _ (ne_d (by decide))).trans (f67 j)
    have f82 : σ9.1.2.1 (d) (2) = d + 3 := (k9.rf _ _ (ne_0 (by decide))).trans f68
    have f83 : σ9.1.1 (d + 4) = some (1, 6) := (k9.sh _ (ne_d (by decide))).trans f70
    have f84 : ∀ j, σ9.2 (d + 4) j = 0 := fun j => (k9.m _ _ (ne_d (by decide))).trans (f71 j)
    have f85 : σ9.1.2.1 (d) (3) = d + 4 := (k9.rf _ _ (ne_0 (by decide))).trans f72
    clear f59 f60 f61 f62 f63 f64 f65 f66 f67 f68 f69 f70 f71 f72
    have f86 : σ9.1.2.2 = d + 6 := k9.nx
    have f87 : σ9.1.1 (d + 5) = some (1, 6) := k9.sh0
    have f88 : ∀ j, σ9.2 (d + 5) j = 0 := k9.m0
    have b9 : BL d σ0 σ9 := BL.tr b8 (BL.mkn k9 (le_d (by decide)))
    refine zo_pr2 (j := 4) f73 rfl rfl ?_
    rintro σ10 k10
    have f89 : σ10.1.1 (d) = some (0, 6) := (congrFun k10.sh _).trans f73
    have f90 : σ10.1.1 (d + 1) = some (1, 6) := (congrFun k10.sh _).trans f74
    have f91 : ∀ j, σ10.2 (d + 1) j = 0 := fun j => (congrFun (congrFun k10.m _) _).trans (f75 j)
    have f92 : σ10.1.2.1 (d) (0) = d + 1 := (k10.rj _ (by decide)).trans f76
    have f93 : σ10.1.1 (d + 2) = some (1, 6) := (congrFun k10.sh _).trans f77
    have f94 : ∀ j, σ10.2 (d + 2) j = 0 := fun j => (congrFun (congrFun k10.m _) _).trans (f78 j)
    have f95 : σ10.1.2.1 (d) (1) = d + 2 := (k10.rj _ (by decide)).trans f79
    have f96 : σ10.1.1 (d + 3) = some (1, 6) := (congrFun k10.sh _).trans f80
    have f97 : ∀ j, σ10.2 (d + 3) j = 0 := fun j => (congrFun (congrFun k10.m _) _).trans (f81 j)
    have f98 : σ10.1.2.1 (d) (2) = d + 3 := (k10.rj _ (by decide)).trans f82
    have f99 : σ10.1.1 (d + 4) = some (1, 6) := (congrFun k10.sh _).trans f83
    have f100 : ∀ j, σ10.2 (d + 4) j = 0 := fun j => (congrFun (congrFun k10.m _) _).trans (f84 j)
    have f101 : σ10.1.2.1 (d) (3) = d + 4 := (k10.rj _ (by decide)).trans f85
    have f102 : σ10.1.2.2 = d + 6 := k10.nx.trans f86
    have f103 : σ10.1.1 (d + 5) = some (1, 6) := (congrFun k10.sh _).trans f87
    have f104 : ∀ j, σ10.2 (d + 5) j = 0 := fun j => (congrFun (congrFun k10.m _) _).trans (f88 j)
    clear f73 f74 f75 f76 f77 f78 f79 f80 f81 f82 f83 f84 f85 f86 f87 f88
    have f105 : σ10.1.2.1 (d) (4) = d + 5 := k10.at0
    have b10 : BL d σ0 σ10 := BL.tr b9 (BL.pr k10 (Int.le_refl _))
    refine zo_na2 (a := d + 6) (c := d + 7) (by decide) f102 (s_d (by decide)) ?_
    rintro σ11 k11
    have f106 : σ11.1.1 (d) = some (0, 6) := (k11.sh _ (ne_0 (by decide))).trans f89
    have f107 : σ11.1.1 (d + 1) = some (1, 6) := (k11.sh _ (ne_d (by decide))).trans f90
    have f108 : ∀ j, σ11.2 (d + 1) j = 0 := fun j => (k11.m _ _ (ne_d (by decide))).trans (f91 j)
    have f109 : σ11.1.2.1 (d) (0) = d + 1 := (k11.rf _ _ (ne_0 (by decide))).trans f92
    have f110 : σ11.1.1 (d + 2) = some (1, 6) := (k11.sh _ (ne_d (by decide))).trans f93
    have f111 : ∀ j, σ11.2 (d + 2) j = 0 := fun j => (k11.m _ _ (ne_d (by decide))).trans (f94 j)
    have f112 : σ11.1.2.1 (d) (1) = d + 2 := (k11.rf _ _ (ne_0 (by decide))).trans f95
    have f113 : σ11.1.1 (d + 3) = some (1, 6) := (k11.sh _ (ne_d (by decide))).trans f96
    have f114 : ∀ j, σ11.2 (d + 3) j = 0 := fun j => (k11.m _ _ (ne_d (by decide))).trans (f97 j)
    have f115 : σ11.1.2.1 (d) (2) = d + 3 := (k11.rf _ _ (ne_0 (by decide))).trans f98
    have f116 : σ11.1.1 (d + 4) = some (1, 6) := (k11.sh _ (ne_d (by decide))).trans f99
    have f117 : ∀ j, σ11.2 (d + 4) j = 0 := fun j => (k11.m _ _ (ne_d (by decide))).trans (f100 j)
    have f118 : σ11.1.2.1 (d) (3) = d + 4 := (k11.rf _ _ (ne_0 (by decide))).trans f101
    have f119 : σ11.1.1 (d + 5) = some (1, 6) := (k11.sh _ (ne_d (by decide))).trans f103
    have f120 : ∀ j, σ11.2 (d + 5) j = 0 := fun j => (k11.m _ _ (ne_d (by decide))).trans (f104 j)
    have f121 : σ11.1.2.1 (d) (4) = d + 5 := (k11.rf _ _ (ne_0 (by decide))).trans f105
    clear f89 f90 f91 f92 f93 f94 f95 f96 f97 f98 f99 f100 f101 f102 f103 f104 f105
    have f122 : σ11.1.2.2 = d + 7 := k11.nx
    have f123 : σ11.1.1 (d + 6) = some (1, 6) := k11.sh0
    have f124 : ∀ j, σ11.2 (d + 6) j = 0 := k11.m0
    have b11 : BL d σ0 σ11 := BL.tr b10 (BL.mkn k11 (le_d (by decide)))
    refine zo_pr2 (j := 5) f106 rfl rfl ?_
    rintro σ12 k12
    have f125 : σ12.1.1 (d) = some (0, 6) := (congrFun k12.sh _).trans f106
    have f126 : σ12.1.1 (d + 1) = some (1, 6) := (congrFun k12.sh _).trans f107
    have f127 : ∀ j, σ12.2 (d + 1) j = 0 := fun j => (congrFun (congrFun k12.m _) _).trans (f108 j)
    have f128 : σ12.1.2.1 (d) (0) = d + 1 := (k12.rj _ (by decide)).trans f109
    have f129 : σ12.1.1 (d + 2) = some (1, 6) := (congrFun k12.sh _).trans f110
    have f130 : ∀ j, σ12.2 (d + 2) j = 0 := fun j => (congrFun (congrFun k12.m _) _).trans (f111 j)
    have f131 : σ12.1.2.1 (d) (1) = d + 2 := (k12.rj _ (by decide)).trans f112
    have f132 : σ12.1.1 (d + 3) = some (1, 6) := (congrFun k12.sh _).trans f113
    have f133 : ∀ j, σ12.2 (d + 3) j = 0 := fun j => (congrFun (congrFun k12.m _) _).trans (f114 j)
    have f134 : σ12.1.2.1 (d) (2) = d + 3 := (k12.rj _ (by decide)).trans f115
    have f135 : σ12.1.1 (d + 4) = some (1, 6) := (congrFun k12.sh _).trans f116
    have f136 : ∀ j, σ12.2 (d + 4) j = 0 := fun j => (congrFun (congrFun k12.m _) _).trans (f117 j)
    have f137 : σ12.1.2.1 (d) (3) = d + 4 := (k12.rj _ (by decide)).trans f118
    have f138 : σ12.1.1 (d + 5) = some (1, 6) := (congrFun k12.sh _).trans f119
    have f139 : ∀ j, σ12.2 (d + 5) j = 0 := fun j => (congrFun (congrFun k12.m _) _).trans (f120 j)
    have f140 : σ12.1.2.1 (d) (4) = d + 5 := (k12.rj _ (by decide)).trans f121
    have f141 : σ12.1.2.2 = d + 7 := k12.nx.trans f122
    have f142 : σ12.1.1 (d + 6) = some (1, 6) := (congrFun k12.sh _).trans f123
    have f143 : ∀ j, σ12.2 (d + 6) j = 0 := fun j => (congrFun (congrFun k12.m _) _).trans (f124 j)
    clear f106 f107 f108 f109 f110 f111 f112 f113 f114 f115 f116 f117 f118 f119 f120 f121 f122 f123 f124
    have f144 : σ12.1.2.1 (d) (5) = d + 6 := k12.at0
    have b12 : BL d σ0 σ12 := BL.tr b11 (BL.pr k12 (Int.le_refl _))
    refine zo_rt ⟨σ12, rfl, VSh.mk ⟨f125, f128, f131, f134, f137, f140, f144, f126, f129, f132, f135, f138, f142⟩, f141, b12⟩
  obtain ⟨r, e, σ', hr, h⟩ := main
  exact ⟨σ', by rw [e, hr], h⟩
set_option maxHeartbeats 4000000 in
theorem c_X7_init (hd : 0 ≤ x) (hs : σ.1.1 x = some (0, 7)) (hn : σ.1.2.2 = x + 1) : ∃ σ', f_X7_init x σ = some (.inl 0, σ') ∧ (IX σ' x ∧ σ'.1.2.2 = x + 66) := by
  have main : zo (f_X7_init x σ) (fun r => ∃ σ', r = (.inl 0, σ') ∧ (IX σ' x ∧ σ'.1.2.2 = x + 66)) := by
    refine j_X7_init ?_
    refine zo_pos hd ?_
    refine zo_nw2 (a := x + 1) (c := x + 2) hn (s_d (by decide)) ?_
    intro τ1 k1
    have bA1 : BL (x + 1) σ τ1 := BL.mkn k1 (Int.le_refl _)
    refine zo_pos (a_nn hd (by decide)) ?_
    obtain ⟨υ1, e1, o1⟩ := c_X0_init (σ := τ1) (a := x + 1) (b := x + 2) (c := x + 3) (n := 600) (a_nn hd (by decide)) k1.sh0 k1.nx (s_d (by decide)) (s_d2 (by decide)) (by decide)
    have bB1 : BL (x + 1) τ1 υ1 := BL.own o1 (Int.le_refl _) (le_dd (by decide))
    have nn1 : υ1.1.2.2 = x + 3 := o1.nx
    refine zo_bn e1 ?_
    have b1 : BL (x + 1) σ υ1 := BL.tr bA1 bB1
    refine zo_pr2 (j := 0) ((b1.sh x (lt_a (by decide))).trans hs) rfl rfl ?_
    intro σ1 p1
    have kp1 : KP (x + 1) (x + 1) σ σ1 := KP.tr (b1.kp (Int.le_refl _)) (p1.kp (lt_a (by decide)))
    have kq1 : KP (x + 1) (x + 3) υ1 σ1 := p1.kp (lt_a (by decide))
    have hn1 : σ1.1.2.2 = x + 3 := p1.nx.trans nn1
    have hs1 : σ1.1.1 x = some (0, 7) := keepS b1 p1 (lt_a (by decide)) hs
    have r0_1 : σ1.1.2.1 x 0 = x + 1 := p1.at0
    have B1 : BSh υ1.1 (x + 1) 600 := bsh_of rfl (s_d (by decide)) k1.sh0 o1
    have B1 : BSh σ1.1 (x + 1) 600 := kq1.bsh B1 (le_dd (by decide)) (le_da (by decide))
    have Z1 : υ1.2 (x + 1) 1 = 0 := (o1.m (x + 1) 1 (ne_d (by decide))).trans (k1.m0 1)
    have Z1 : σ1.2 (x + 1) 1 = 0 := kq1.mem Z1 (le_dd (by decide)) (lt_dd (by decide))
    refine zo_nw2 (a := x + 3) (c := x + 4) hn1 (s_d (by decide)) ?_
    intro τ2 k2
    have bA2 : BL (x + 3) σ1 τ2 := BL.mkn k2 (Int.le_refl _)
    refine zo_pos (a_nn hd (by decide)) ?_
    obtain ⟨υ2, e2, o2⟩ := c_X0_init (σ := τ2) (a := x + 3) (b := x + 4) (c := x + 5) (n := 1224) (a_nn hd (by decide)) k2.sh0 k2.nx (s_d (by decide)) (s_d2 (by decide)) (by decide)
    have bB2 : BL (x + 3) τ2 υ2 := BL.own o2 (Int.le_refl _) (le_dd (by decide))
    have nn2 : υ2.1.2.2 = x + 5 := o2.nx
    refine zo_bn e2 ?_
    have b2 : BL (x + 3) σ1 υ2 := BL.tr bA2 bB2
    refine zo_pr2 (j := 1) ((b2.sh x (lt_a (by decide))).trans hs1) rfl rfl ?_
    intro σ2 p2
    have kp2 : KP (x + 1) (x + 3) σ1 σ2 := KP.tr (b2.kp (Int.le_refl _)) (p2.kp (lt_a (by decide)))
    have kq2 : KP (x + 1) (x + 5) υ2 σ2 := p2.kp (lt_a (by decide))
    have hn2 : σ2.1.2.2 = x + 5 := p2.nx.trans nn2
    have hs2 : σ2.1.1 x = some (0, 7) := keepS b2 p2 (lt_a (by decide)) hs1
    have r0_2 : σ2.1.2.1 x 0 = x + 1 := keepR b2 p2 (lt_a (by decide)) (by decide) r0_1
    have r1_2 : σ2.1.2.1 x 1 = x + 3 := p2.at0
    have B1 : BSh σ2.1 (x + 1) 600 := kp2.bsh B1 (le_dd (by decide)) (le_da (by decide))
    have Z1 : σ2.2 (x + 1) 1 = 0 := kp2.mem Z1 (le_dd (by decide)) (lt_dd (by decide))
    have B2 : BSh υ2.1 (x + 3) 1224 := bsh_of rfl (s_d (by decide)) k2.sh0 o2
    have B2 : BSh σ2.1 (x + 3) 1224 := kq2.bsh B2 (le_dd (by decide)) (le_da (by decide))
    have Z2 : υ2.2 (x + 3) 1 = 0 := (o2.m (x + 3) 1 (ne_d (by decide))).trans (k2.m0 1)
    have Z2 : σ2.2 (x + 3) 1 = 0 := kq2.mem Z2 (le_dd (by decide)) (lt_dd (by decide))
    refine zo_nw2 (a := x + 5) (c := x + 6) hn2 (s_d (by decide)) ?_
    intro τ3 k3
    have bA3 : BL (x + 5) σ2 τ3 := BL.mkn k3 (Int.le_refl _)
    refine zo_pos (a_nn hd (by decide)) ?_
    obtain ⟨υ3, e3, v3, nn3, bB3⟩ := c_X6_init (σ0 := τ3) (d := x + 5) (a_nn hd (by decide)) k3.sh0 (k3.nx.trans (s_d (by decide)))
    have nn3 : υ3.1.2.2 = x + 12 := nn3.trans (a_as (by decide))
    refine zo_bn e3 ?_
    have b3 : BL (x + 5) σ2 υ3 := BL.tr bA3 bB3
    refine zo_pr2 (j := 2) ((b3.sh x (lt_a (by decide))).trans hs2) rfl rfl ?_
    intro σ3 p3
    have kp3 : KP (x + 1) (x + 5) σ2 σ3 := KP.tr (b3.kp (Int.le_refl _)) (p3.kp (lt_a (by decide)))
    have kq3 : KP (x + 1) (x + 12) υ3 σ3 := p3.kp (lt_a (by decide))
    have hn3 : σ3.1.2.2 = x + 12 := p3.nx.trans nn3
    have hs3 : σ3.1.1 x = some (0, 7) := keepS b3 p3 (lt_a (by decide)) hs2
    have r0_3 : σ3.1.2.1 x 0 = x + 1 := keepR b3 p3 (lt_a (by decide)) (by decide) r0_2
    have r1_3 : σ3.1.2.1 x 1 = x + 3 := keepR b3 p3 (lt_a (by decide)) (by decide) r1_2
    have r2_3 : σ3.1.2.1 x 2 = x + 5 := p3.at0
    have B1 : BSh σ3.1 (x + 1) 600 := kp3.bsh B1 (le_dd (by decide)) (le_da (by decide))
    have Z1 : σ3.2 (x + 1) 1 = 0 := kp3.mem Z1 (le_dd (by decide)) (lt_dd (by decide))
    have B2 : BSh σ3.1 (x + 3) 1224 := kp3.bsh B2 (le_dd (by decide)) (le_da (by decide))
    have Z2 : σ3.2 (x + 3) 1 = 0 := kp3.mem Z2 (le_dd (by decide)) (lt_dd (by decide))
    have V3 : VSh υ3.1 (x + 5) := v3
    have V3 : VSh σ3.1 (x + 5) := kq3.vsh V3 (le_dd (by decide)) (le_da (by decide))
    refine zo_nw2 (a := x + 12) (c := x + 13) hn3 (s_d (by decide)) ?_
    intro τ4 k4
    have bA4 : BL (x + 12) σ3 τ4 := BL.mkn k4 (Int.le_refl _)
    refine zo_pos (a_nn hd (by decide)) ?_
    obtain ⟨υ4, e4, v4, nn4, bB4⟩ := c_X1_init (σ0 := τ4) (d := x + 12) (a_nn hd (by decide)) k4.sh0 (k4.nx.trans (s_d (by decide)))
    have nn4 : υ4.1.2.2 = x + 37 := nn4.trans (a_as (by decide))
    refine zo_bn e4 ?_
    have b4 : BL (x + 12) σ3 υ4 := BL.tr bA4 bB4
    refine zo_pr2 (j := 3) ((b4.sh x (lt_a (by decide))).trans hs3) rfl rfl ?_
    intro σ4 p4
    have kp4 : KP (x + 1) (x + 12) σ3 σ4 := KP.tr (b4.kp (Int.le_refl _)) (p4.kp (lt_a (by decide)))
    have kq4 : KP (x + 1) (x + 37) υ4 σ4 := p4.kp (lt_a (by decide))
    have hn4 : σ4.1.2.2 = x + 37 := p4.nx.trans nn4
    have hs4 : σ4.1.1 x = some (0, 7) := keepS b4 p4 (lt_a (by decide)) hs3
    have r0_4 : σ4.1.2.1 x 0 = x + 1 := keepR b4 p4 (lt_a (by decide)) (by decide) r0_3
    have r1_4 : σ4.1.2.1 x 1 = x + 3 := keepR b4 p4 (lt_a (by decide)) (by decide) r1_3
    have r2_4 : σ4.1.2.1 x 2 = x + 5 := keepR b4 p4 (lt_a (by decide)) (by decide) r2_3
    have r3_4 : σ4.1.2.1 x 3 = x + 12 := p4.at0
    have B1 : BSh σ4.1 (x + 1) 600 := kp4.bsh B1 (le_dd (by decide)) (le_da (by decide))
    have Z1 : σ4.2 (x + 1) 1 = 0 := kp4.mem Z1 (le_dd (by decide)) (lt_dd (by decide))
    have B2 : BSh σ4.1 (x + 3) 1224 := kp4.bsh B2 (le_dd (by decide)) (le_da (by decide))
    have Z2 : σ4.2 (x + 3) 1 = 0 := kp4.mem Z2 (le_dd (by decide)) (lt_dd (by decide))
    have V3 : VSh σ4.1 (x + 5) := kp4.vsh V3 (le_dd (by decide)) (le_da (by decide))
    have D4 : D7 υ4.1 υ4.2 (x + 12) zD0 := v4
    have D4 : D7 σ4.1 σ4.2 (x + 12) zD0 := kq4.d7 D4 (le_dd (by decide)) (le_da (by decide))
    refine zo_nw2 (a := x + 37) (c := x + 38) hn4 (s_d (by decide)) ?_
    intro τ5 k5
    have bA5 : BL (x + 37) σ4 τ5 := BL.mkn k5 (Int.le_refl _)
    refine zo_pos (a_nn hd (by decide)) ?_
    obtain ⟨υ5, e5, v5, nn5, bB5⟩ := c_X1_init (σ0 := τ5) (d := x + 37) (a_nn hd (by decide)) k5.sh0 (k5.nx.trans (s_d (by decide)))
    have nn5 : υ5.1.2.2 = x + 62 := nn5.trans (a_as (by decide))
    refine zo_bn e5 ?_
    have b5 : BL (x + 37) σ4 υ5 := BL.tr bA5 bB5
    refine zo_pr2 (j := 4) ((b5.sh x (lt_a (by decide))).trans hs4) rfl rfl ?_
    intro σ5 p5
    have kp5 : KP (x + 1) (x + 37) σ4 σ5 := KP.tr (b5.kp (Int.le_refl _)) (p5.kp (lt_a (by decide)))
    have kq5 : KP (x + 1) (x + 62) υ5 σ5 := p5.kp (lt_a (by decide))
    have hn5 : σ5.1.2.2 = x + 62 := p5.nx.trans nn5
    have hs5 : σ5.1.1 x = some (0, 7) := keepS b5 p5 (lt_a (by decide)) hs4
    have r0_5 : σ5.1.2.1 x 0 = x + 1 := keepR b5 p5 (lt_a (by decide)) (by decide) r0_4
    have r1_5 : σ5.1.2.1 x 1 = x + 3 := keepR b5 p5 (lt_a (by decide)) (by decide) r1_4
    have r2_5 : σ5.1.2.1 x 2 = x + 5 := keepR b5 p5 (lt_a (by decide)) (by decide) r2_4
    have r3_5 : σ5.1.2.1 x 3 = x + 12 := keepR b5 p5 (lt_a (by decide)) (by decide) r3_4
    have r4_5 : σ5.1.2.1 x 4 = x + 37 := p5.at0
    have B1 : BSh σ5.1 (x + 1) 600 := kp5.bsh B1 (le_dd (by decide)) (le_da (by decide))
    have Z1 : σ5.2 (x + 1) 1 = 0 := kp5.mem Z1 (le_dd (by decide)) (lt_dd (by decide))
    have B2 : BSh σ5.1 (x + 3) 1224 := kp5.bsh B2 (le_dd (by decide)) (le_da (by decide))
    have Z2 : σ5.2 (x + 3) 1 = 0 := kp5.mem Z2 (le_dd (by decide)) (lt_dd (by decide))
    have V3 : VSh σ5.1 (x + 5) := kp5.vsh V3 (le_dd (by decide)) (le_da (by decide))
    have D4 : D7 σ5.1 σ5.2 (x + 12) zD0 := kp5.d7 D4 (le_dd (by decide)) (le_da (by decide))
    have D5 : D7 υ5.1 υ5.2 (x + 37) zD0 := v5
    have D5 : D7 σ5.1 σ5.2 (x + 37) zD0 := kq5.d7 D5 (le_dd (by decide)) (le_da (by decide))
    refine zo_nw2 (a := x + 62) (c := x + 63) hn5 (s_d (by decide)) ?_
    intro τ6 k6
    have bA6 : BL (x + 62) σ5 τ6 := BL.mkn k6 (Int.le_refl _)
    refine zo_gr2 ((bA6.sh x (lt_a (by decide))).trans hs5) ((bA6.rf x 0 (lt_a (by decide))).trans r0_5) rfl rfl ?_
    refine zo_gr2 ((bA6.sh x (lt_a (by decide))).trans hs5) ((bA6.rf x 4 (lt_a (by decide))).trans r4_5) rfl rfl ?_
    refine zo_pos (a_nn hd (by decide)) ?_
    obtain ⟨υ6, e6, bB6, nn6, s4, q0, q1, m6, m7⟩ := c_X4_init (σ := τ6) (a := x + 62) (r0 := x + 1) (r1 := x + 37) (a_nn hd (by decide)) k6.sh0 k6.m0
    have nn6 : υ6.1.2.2 = x + 63 := nn6.trans k6.nx
    refine zo_bn e6 ?_
    have b6 : BL (x + 62) σ5 υ6 := BL.tr bA6 bB6
    refine zo_pr2 (j := 5) ((b6.sh x (lt_a (by decide))).trans hs5) rfl rfl ?_
    intro σ6 p6
    have kp6 : KP (x + 1) (x + 62) σ5 σ6 := KP.tr (b6.kp (Int.le_refl _)) (p6.kp (lt_a (by decide)))
    have kq6 : KP (x + 1) (x + 63) υ6 σ6 := p6.kp (lt_a (by decide))
    have hn6 : σ6.1.2.2 = x + 63 := p6.nx.trans nn6
    have hs6 : σ6.1.1 x = some (0, 7) := keepS b6 p6 (lt_a (by decide)) hs5
    have r0_6 : σ6.1.2.1 x 0 = x + 1 := keepR b6 p6 (lt_a (by decide)) (by decide) r0_5
    have r1_6 : σ6.1.2.1 x 1 = x + 3 := keepR b6 p6 (lt_a (by decide)) (by decide) r1_5
    have r2_6 : σ6.1.2.1 x 2 = x + 5 := keepR b6 p6 (lt_a (by decide)) (by decide) r2_5
    have r3_6 : σ6.1.2.1 x 3 = x + 12 := keepR b6 p6 (lt_a (by decide)) (by decide) r3_5
    have r4_6 : σ6.1.2.1 x 4 = x + 37 := keepR b6 p6 (lt_a (by decide)) (by decide) r4_5
    have r5_6 : σ6.1.2.1 x 5 = x + 62 := p6.at0
    have B1 : BSh σ6.1 (x + 1) 600 := kp6.bsh B1 (le_dd (by decide)) (le_da (by decide))
    have Z1 : σ6.2 (x + 1) 1 = 0 := kp6.mem Z1 (le_dd (by decide)) (lt_dd (by decide))
    have B2 : BSh σ6.1 (x + 3) 1224 := kp6.bsh B2 (le_dd (by decide)) (le_da (by decide))
    have Z2 : σ6.2 (x + 3) 1 = 0 := kp6.mem Z2 (le_dd (by decide)) (lt_dd (by decide))
    have V3 : VSh σ6.1 (x + 5) := kp6.vsh V3 (le_dd (by decide)) (le_da (by decide))
    have D4 : D7 σ6.1 σ6.2 (x + 12) zD0 := kp6.d7 D4 (le_dd (by decide)) (le_da (by decide))
    have D5 : D7 σ6.1 σ6.2 (x + 37) zD0 := kp6.d7 D5 (le_dd (by decide)) (le_da (by decide))
    have P0 : υ6.1.1 (x + 62) = some (0, 4) := s4
    have P0 : σ6.1.1 (x + 62) = some (0, 4) := kq6.sh P0 (le_dd (by decide)) (lt_dd (by decide))
    have P1 : υ6.1.2.1 (x + 62) 0 = x + 1 := q0
    have P1 : σ6.1.2.1 (x + 62) 0 = x + 1 := kq6.ref P1 (le_dd (by decide)) (lt_dd (by decide))
    have P2 : υ6.1.2.1 (x + 62) 1 = x + 37 := q1
    have P2 : σ6.1.2.1 (x + 62) 1 = x + 37 := kq6.ref P2 (le_dd (by decide)) (lt_dd (by decide))
    have P3 : υ6.2 (x + 62) 6 = 0 := m6
    have P3 : σ6.2 (x + 62) 6 = 0 := kq6.mem P3 (le_dd (by decide)) (lt_dd (by decide))
    have P4 : υ6.2 (x + 62) 7 = -1 := m7
    have P4 : σ6.2 (x + 62) 7 = -1 := kq6.mem P4 (le_dd (by decide)) (lt_dd (by decide))
    refine zo_nw2 (a := x + 63) (c := x + 64) hn6 (s_d (by decide)) ?_
    intro τ7 k7
    have bA7 : BL (x + 63) σ6 τ7 := BL.mkn k7 (Int.le_refl _)
    refine zo_pos (a_nn hd (by decide)) ?_
    obtain ⟨υ7, e7, o7, oz⟩ := c_X2_init (σ := τ7) (a := x + 63) (b := x + 64) (c := x + 65) (a_nn hd (by decide)) k7.sh0 k7.nx (s_d (by decide)) (s_d2 (by decide))
    have bB7 : BL (x + 63) τ7 υ7 := BL.own o7 (Int.le_refl _) (le_dd (by decide))
    have nn7 : υ7.1.2.2 = x + 65 := o7.nx
    refine zo_bn e7 ?_
    have b7 : BL (x + 63) σ6 υ7 := BL.tr bA7 bB7
    refine zo_pr2 (j := 6) ((b7.sh x (lt_a (by decide))).trans hs6) rfl rfl ?_
    intro σ7 p7
    have kp7 : KP (x + 1) (x + 63) σ6 σ7 := KP.tr (b7.kp (Int.le_refl _)) (p7.kp (lt_a (by decide)))
    have kq7 : KP (x + 1) (x + 65) υ7 σ7 := p7.kp (lt_a (by decide))
    have hn7 : σ7.1.2.2 = x + 65 := p7.nx.trans nn7
    have hs7 : σ7.1.1 x = some (0, 7) := keepS b7 p7 (lt_a (by decide)) hs6
    have r0_7 : σ7.1.2.1 x 0 = x + 1 := keepR b7 p7 (lt_a (by decide)) (by decide) r0_6
    have r1_7 : σ7.1.2.1 x 1 = x + 3 := keepR b7 p7 (lt_a (by decide)) (by decide) r1_6
    have r2_7 : σ7.1.2.1 x 2 = x + 5 := keepR b7 p7 (lt_a (by decide)) (by decide) r2_6
    have r3_7 : σ7.1.2.1 x 3 = x + 12 := keepR b7 p7 (lt_a (by decide)) (by decide) r3_6
    have r4_7 : σ7.1.2.1 x 4 = x + 37 := keepR b7 p7 (lt_a (by decide)) (by decide) r4_6
    have r5_7 : σ7.1.2.1 x 5 = x + 62 := keepR b7 p7 (lt_a (by decide)) (by decide) r5_6
    have r6_7 : σ7.1.2.1 x 6 = x + 63 := p7.at0
    have B1 : BSh σ7.1 (x + 1) 600 := kp7.bsh B1 (le_dd (by decide)) (le_da (by decide))
    have Z1 : σ7.2 (x + 1) 1 = 0 := kp7.mem Z1 (le_dd (by decide)) (lt_dd (by decide))
    have B2 : BSh σ7.1 (x + 3) 1224 := kp7.bsh B2 (le_dd (by decide)) (le_da (by decide))
    have Z2 : σ7.2 (x + 3) 1 = 0 := kp7.mem Z2 (le_dd (by decide)) (lt_dd (by decide))
    have V3 : VSh σ7.1 (x + 5) := kp7.vsh V3 (le_dd (by decide)) (le_da (by decide))
    have D4 : D7 σ7.1 σ7.2 (x + 12) zD0 := kp7.d7 D4 (le_dd (by decide)) (le_da (by decide))
    have D5 : D7 σ7.1 σ7.2 (x + 37) zD0 := kp7.d7 D5 (le_dd (by decide)) (le_da (by decide))
    have P0 : σ7.1.1 (x + 62) = some (0, 4) := kp7.sh P0 (le_dd (by decide)) (lt_dd (by decide))
    have P1 : σ7.1.2.1 (x + 62) 0 = x + 1 := kp7.ref P1 (le_dd (by decide)) (lt_dd (by decide))
    have P2 : σ7.1.2.1 (x + 62) 1 = x + 37 := kp7.ref P2 (le_dd (by decide)) (lt_dd (by decide))
    have P3 : σ7.2 (x + 62) 6 = 0 := kp7.mem P3 (le_dd (by decide)) (lt_dd (by decide))
    have P4 : σ7.2 (x + 62) 7 = -1 := kp7.mem P4 (le_dd (by decide)) (lt_dd (by decide))
    have H0 : υ7.1.1 (x + 63) = some (0, 2) := (o7.sh _ (ne_d (by decide))).trans k7.sh0
    have H0 : σ7.1.1 (x + 63) = some (0, 2) := kq7.sh H0 (le_dd (by decide)) (lt_dd (by decide))
    have H1 : υ7.1.2.1 (x + 63) 0 = x + 64 := o7.at0
    have H1 : σ7.1.2.1 (x + 63) 0 = x + 64 := kq7.ref H1 (le_dd (by decide)) (lt_dd (by decide))
    have H2 : υ7.1.1 (x + 64) = some (7, 6) := o7.sh0
    have H2 : σ7.1.1 (x + 64) = some (7, 6) := kq7.sh H2 (le_dd (by decide)) (lt_dd (by decide))
    have H3 : ∀ j, υ7.1.2.1 (x + 64) j = -1 := oz
    have H3 : ∀ j, σ7.1.2.1 (x + 64) j = -1 := fun j => kq7.ref (H3 j) (le_dd (by decide)) (lt_dd (by decide))
    have H4 : υ7.2 (x + 63) 1 = 0 := (o7.m (x + 63) 1 (ne_d (by decide))).trans (k7.m0 1)
    have H4 : σ7.2 (x + 63) 1 = 0 := kq7.mem H4 (le_dd (by decide)) (lt_dd (by decide))
    refine zo_na2 (a := x + 65) (c := x + 66) (by decide) hn7 (s_d (by decide)) ?_
    intro τ8 k8
    have b8 : BL (x + 65) σ7 τ8 := BL.mkn k8 (Int.le_refl _)
    refine zo_pr2 (j := 7) ((b8.sh x (lt_a (by decide))).trans hs7) rfl rfl ?_
    intro σ8 p8
    have kp8 : KP (x + 1) (x + 65) σ7 σ8 := KP.tr (b8.kp (Int.le_refl _)) (p8.kp (lt_a (by decide)))
    have kq8 : KP (x + 1) (x + 66) τ8 σ8 := p8.kp (lt_a (by decide))
    have hs8 : σ8.1.1 x = some (0, 7) := keepS b8 p8 (lt_a (by decide)) hs7
    have r0_8 : σ8.1.2.1 x 0 = x + 1 := keepR b8 p8 (lt_a (by decide)) (by decide) r0_7
    have r1_8 : σ8.1.2.1 x 1 = x + 3 := keepR b8 p8 (lt_a (by decide)) (by decide) r1_7
    have r2_8 : σ8.1.2.1 x 2 = x + 5 := keepR b8 p8 (lt_a (by decide)) (by decide) r2_7
    have r3_8 : σ8.1.2.1 x 3 = x + 12 := keepR b8 p8 (lt_a (by decide)) (by decide) r3_7
    have r4_8 : σ8.1.2.1 x 4 = x + 37 := keepR b8 p8 (lt_a (by decide)) (by decide) r4_7
    have r5_8 : σ8.1.2.1 x 5 = x + 62 := keepR b8 p8 (lt_a (by decide)) (by decide) r5_7
    have r6_8 : σ8.1.2.1 x 6 = x + 63 := keepR b8 p8 (lt_a (by decide)) (by decide) r6_7
    have r7_8 : σ8.1.2.1 x 7 = x + 65 := p8.at0
    have B1 : BSh σ8.1 (x + 1) 600 := kp8.bsh B1 (le_dd (by decide)) (le_da (by decide))
    have Z1 : σ8.2 (x + 1) 1 = 0 := kp8.mem Z1 (le_dd (by decide)) (lt_dd (by decide))
    have B2 : BSh σ8.1 (x + 3) 1224 := kp8.bsh B2 (le_dd (by decide)) (le_da (by decide))
    have Z2 : σ8.2 (x + 3) 1 = 0 := kp8.mem Z2 (le_dd (by decide)) (lt_dd (by decide))
    have V3 : VSh σ8.1 (x + 5) := kp8.vsh V3 (le_dd (by decide)) (le_da (by decide))
    have D4 : D7 σ8.1 σ8.2 (x + 12) zD0 := kp8.d7 D4 (le_dd (by decide)) (le_da (by decide))
    have D5 : D7 σ8.1 σ8.2 (x + 37) zD0 := kp8.d7 D5 (le_dd (by decide)) (le_da (by decide))
    have P0 : σ8.1.1 (x + 62) = some (0, 4) := kp8.sh P0 (le_dd (by decide)) (lt_dd (by decide))
    have P1 : σ8.1.2.1 (x + 62) 0 = x + 1 := kp8.ref P1 (le_dd (by decide)) (lt_dd (by decide))
    have P2 : σ8.1.2.1 (x + 62) 1 = x + 37 := kp8.ref P2 (le_dd (by decide)) (lt_dd (by decide))
    have P3 : σ8.2 (x + 62) 6 = 0 := kp8.mem P3 (le_dd (by decide)) (lt_dd (by decide))
    have P4 : σ8.2 (x + 62) 7 = -1 := kp8.mem P4 (le_dd (by decide)) (lt_dd (by decide))
    have H0 : σ8.1.1 (x + 63) = some (0, 2) := kp8.sh H0 (le_dd (by decide)) (lt_dd (by decide))
    have H1 : σ8.1.2.1 (x + 63) 0 = x + 64 := kp8.ref H1 (le_dd (by decide)) (lt_dd (by decide))
    have H2 : σ8.1.1 (x + 64) = some (7, 6) := kp8.sh H2 (le_dd (by decide)) (lt_dd (by decide))
    have H3 : ∀ j, σ8.1.2.1 (x + 64) j = -1 := fun j => kp8.ref (H3 j) (le_dd (by decide)) (lt_dd (by decide))
    have H4 : σ8.2 (x + 63) 1 = 0 := kp8.mem H4 (le_dd (by decide)) (lt_dd (by decide))
    have K0 : σ8.1.1 (x + 65) = some (7, 2) := kq8.sh k8.sh0 (le_dd (by decide)) (lt_dd (by decide))
    have K1 : ∀ j, σ8.1.2.1 (x + 65) j = -1 := fun j => kq8.ref (k8.rf0 j) (le_dd (by decide)) (lt_dd (by decide))
    exact zo_rt ⟨σ8, rfl, IX.mk ⟨CB.mk ⟨hd, hs8, r0_8, r1_8, r2_8, r3_8, r4_8, r5_8, r6_8, r7_8, V3⟩, D4, D5, B1, Z1, B2, Z2, P0, P1, P2, P3, P4, H0, H1, H2, H3, H4, K0, K1⟩, p8.nx.trans k8.nx⟩
  obtain ⟨r, e, σ', hr, h⟩ := main
  exact ⟨σ', by rw [e, hr], h⟩
set_option maxHeartbeats 8000000 in
theorem c_X8_init (hd : 0 ≤ d) (hs : σ0.1.1 d = some (0, 8)) (hz : ∀ j, σ0.2 d j = 0) (hn : σ0.1.2.2 = d + 1) : ∃ σ', f_X8_init d σ0 = some (.inl 0, σ') ∧ ((MSh σ'.1 d (d + 1) ∧ D8 (σ'.2 (d + 1)) zD0 ∧ σ'.2 d 4 = -1 ∧ σ'.2 d 11 = 0 ∧ σ'.2 d 17 = 0 ∧ σ'.2 d 18 = -1 ∧ σ'.2 d 25 = 0 ∧ σ'.2 d 27 = 0 ∧ ∀ j, σ'.2 (d + 9) j = 0) ∧ σ'.1.2.2 = d + 12 ∧ BL d σ0 σ') := by
  have main : zo (f_X8_init d σ0) (fun r => ∃ σ', r = (.inl 0, σ') ∧ ((MSh σ'.1 d (d + 1) ∧ D8 (σ'.2 (d + 1)) zD0 ∧ σ'.2 d 4 = -1 ∧ σ'.2 d 11 = 0 ∧ σ'.2 d 17 = 0 ∧ σ'.2 d 18 = -1 ∧ σ'.2 d 25 = 0 ∧ σ'.2 d 27 = 0 ∧ ∀ j, σ'.2 (d + 9) j = 0) ∧ σ'.1.2.2 = d + 12 ∧ BL d σ0 σ')) := by
    have b0 : BL d σ0 σ0 := BL.rf0
    refine j_X8_init ?_
    refine zo_pos hd ?_
    have hz0 : σ0.2 (d) (0) = 0 := hz 0
    have hz11 : σ0.2 (d) (11) = 0 := hz 11
    have hz17 : σ0.2 (d) (17) = 0 := hz 17
    have hz25 : σ0.2 (d) (25) = 0 := hz 25
    have hz27 : σ0.2 (d) (27) = 0 := hz 27
    refine zo_na2 (a := d + 1) (c := d + 2) (by decide) hn (s_d (by decide)) ?_
    rintro σ1 k1
    have f1 : σ1.1.1 (d) = some (0, 8) := (k1.sh _ (ne_0 (by decide))).trans hs
    have f2 : σ1.2 (d) (0) = 0 := (k1.m _ _ (ne_0 (by decide))).trans hz0
    have f3 : σ1.2 (d) (11) = 0 := (k1.m _ _ (ne_0 (by decide))).trans hz11
    have f4 : σ1.2 (d) (17) = 0 := (k1.m _ _ (ne_0 (by decide))).trans hz17
    have f5 : σ1.2 (d) (25) = 0 := (k1.m _ _ (ne_0 (by decide))).trans hz25
    have f6 : σ1.2 (d) (27) = 0 := (k1.m _ _ (ne_0 (by decide))).trans hz27
    clear hz0 hz11 hz17 hz25 hz27
    have f7 : σ1.1.2.2 = d + 2 := k1.nx
    have f8 : σ1.1.1 (d + 1) = some (1, 2405) := k1.sh0
    have f9 : ∀ j, σ1.2 (d + 1) j = 0 := k1.m0
    have b1 : BL d σ0 σ1 := BL.tr b0 (BL.mkn k1 (le_d (by decide)))
    refine zo_pr2 (j := 1) f1 rfl rfl ?_
    rintro σ2 k2
    have f10 : σ2.1.1 (d) = some (0, 8) := (congrFun k2.sh _).trans f1
    have f11 : σ2.2 (d) (0) = 0 := (congrFun (congrFun k2.m _) _).trans f2
    have f12 : σ2.2 (d) (11) = 0 := (congrFun (congrFun k2.m _) _).trans f3
    have f13 : σ2.2 (d) (17) = 0 := (congrFun (congrFun k2.m _) _).trans f4
    have f14 : σ2.2 (d) (25) = 0 := (congrFun (congrFun k2.m _) _).trans f5
    have f15 : σ2.2 (d) (27) = 0 := (congrFun (congrFun k2.m _) _).trans f6
    have f16 : σ2.1.2.2 = d + 2 := k2.nx.trans f7
    have f17 : σ2.1.1 (d + 1) = some (1, 2405) := (congrFun k2.sh _).trans f8
    have f18 : ∀ j, σ2.2 (d + 1) j = 0 := fun j => (congrFun (congrFun k2.m _) _).trans (f9 j)
    clear f1 f2 f3 f4 f5 f6 f7 f8 f9
    have f19 : σ2.1.2.1 (d) (1) = d + 1 := k2.at0
    have b2 : BL d σ0 σ2 := BL.tr b1 (BL.pr k2 (Int.le_refl _))
    refine zo_na2 (a := d + 2) (c := d + 3) (by decide) f16 (s_d (by decide)) ?_
    rintro σ3 k3
    have f20 : σ3.1.1 (d) = some (0, 8) := (k3.sh _ (ne_0 (by decide))).trans f10
    have f21 : σ3.2 (d) (0) = 0 := (k3.m _ _ (ne_0 (by decide))).trans f11
    have f22 : σ3.2 (d) (11) = 0 := (k3.m _ _ (ne_0 (by decide))).trans f12
    have f23 : σ3.2 (d) (17) = 0 := (k3.m _ _ (ne_0 (by decide))).trans f13
    have f24 : σ3.2 (d) (25) = 0 := (k3.m _ _ (ne_0 (by decide))).trans f14
    have f25 : σ3.2 (d) (27) = 0 := (k3.m _ _ (ne_0 (by decide))).trans f15
    have f26 : σ3.1.1 (d + 1) = some (1, 2405) := (k3.sh _ (ne_d (by decide))).trans f17
    have f27 : ∀ j, σ3.2 (d + 1) j = 0 := fun j => (k3.m _ _ (ne_d (by decide))).trans (f18 j)
    have f28 : σ3.1.2.1 (d) (1) = d + 1 := (k3.rf _ _ (ne_0 (by decide))).trans f19
    clear f10 f11 f12 f13 f14 f15 f16 f17 f18 f19
    have f29 : σ3.1.2.2 = d + 3 := k3.nx
    have f30 : σ3.1.1 (d + 2) = some (1, 2405) := k3.sh0
    have f31 : ∀ j, σ3.2 (d + 2) j = 0 := k3.m0
    have b3 : BL d σ0 σ3 := BL.tr b2 (BL.mkn k3 (le_d (by decide)))
    refine zo_pr2 (j := 2) f20 rfl rfl ?_
    rintro σ4 k4
    have f32 : σ4.1.1 (d) = some (0, 8) := (congrFun k4.sh _).trans f20
    have f33 : σ4.2 (d) (0) = 0 := (congrFun (congrFun k4.m _) _).trans f21
    have f34 : σ4.2 (d) (11) = 0 := (congrFun (congrFun k4.m _) _).trans f22
    have f35 : σ4.2 (d) (17) = 0 := (congrFun (congrFun k4.m _) _).trans f23
    have f36 : σ4.2 (d) (25) = 0 := (congrFun (congrFun k4.m _) _).trans f24
    have f37 : σ4.2 (d) (27) = 0 := (congrFun (congrFun k4.m _) _).trans f25
    have f38 : σ4.1.1 (d + 1) = some (1, 2405) := (congrFun k4.sh _).trans f26
    have f39 : ∀ j, σ4.2 (d + 1) j = 0 := fun j => (congrFun (congrFun k4.m _) _).trans (f27 j)
    have f40 : σ4.1.2.1 (d) (1) = d + 1 := (k4.rj _ (by decide)).trans f28
    have f41 : σ4.1.2.2 = d + 3 := k4.nx.trans f29
    have f42 : σ4.1.1 (d + 2) = some (1, 2405) := (congrFun k4.sh _).trans f30
    have f43 : ∀ j, σ4.2 (d + 2) j = 0 := fun j => (congrFun (congrFun k4.m _) _).trans (f31 j)
    clear f20 f21 f22 f23 f24 f25 f26 f27 f28 f29 f30 f31
    have f44 : σ4.1.2.1 (d) (2) = d + 2 := k4.at0
    have b4 : BL d σ0 σ4 := BL.tr b3 (BL.pr k4 (Int.le_refl _))
    refine zo_gr2 f32 f40 rfl rfl ?_
    refine zo_pr2 (j := 3) f32 rfl rfl ?_
    rintro σ5 k5
    have f45 : σ5.1.1 (d) = some (0, 8) := (congrFun k5.sh _).trans f32
    have f46 : σ5.2 (d) (0) = 0 := (congrFun (congrFun k5.m _) _).trans f33
    have f47 : σ5.2 (d) (11) = 0 := (congrFun (congrFun k5.m _) _).trans f34
    have f48 : σ5.2 (d) (17) = 0 := (congrFun (congrFun k5.m _) _).trans f35
    have f49 : σ5.2 (d) (25) = 0 := (congrFun (congrFun k5.m _) _).trans f36
    have f50 : σ5.2 (d) (27) = 0 := (congrFun (congrFun k5.m _) _).trans f37
    have f51 : σ5.1.1 (d + 1) = some (1, 2405) := (congrFun k5.sh _).trans f38
    have f52 : ∀ j, σ5.2 (d + 1) j = 0 := fun j => (congrFun (congrFun k5.m _) _).trans (f39 j)
    have f53 : σ5.1.2.1 (d) (1) = d + 1 := (k5.rj _ (by decide)).trans f40
    have f54 : σ5.1.2.2 = d + 3 := k5.nx.trans f41
    have f55 : σ5.1.1 (d + 2) = some (1, 2405) := (congrFun k5.sh _).trans f42
    have f56 : ∀ j, σ5.2 (d + 2) j = 0 := fun j => (congrFun (congrFun k5.m _) _).trans (f43 j)
    have f57 : σ5.1.2.1 (d) (2) = d + 2 := (k5.rj _ (by decide)).trans f44
    clear f32 f33 f34 f35 f36 f37 f38 f39 f40 f41 f42 f43 f44
    have f58 : σ5.1.2.1 (d) (3) = d + 1 := k5.at0
    have b5 : BL d σ0 σ5 := BL.tr b4 (BL.pr k5 (Int.le_refl _))
    refine zo_pf2 (j := 4) f45 rfl rfl ?_
    rintro σ6 k6
    have f59 : σ6.1.1 (d) = some (0, 8) := (congrArg (fun g : zG => g.1 _) k6.g).trans f45
    have f60 : σ6.2 (d) (0) = 0 := (k6.mj _ (by decide)).trans f46
    have f61 : σ6.2 (d) (11) = 0 := (k6.mj _ (by decide)).trans f47
    have f62 : σ6.2 (d) (17) = 0 := (k6.mj _ (by decide)).trans f48
    have f63 : σ6.2 (d) (25) = 0 := (k6.mj _ (by decide)).trans f49
    have f64 : σ6.2 (d) (27) = 0 := (k6.mj _ (by decide)).trans f50
    have f65 : σ6.1.1 (d + 1) = some (1, 2405) := (congrArg (fun g : zG => g.1 _) k6.g).trans f51
    have f66 : ∀ j, σ6.2 (d + 1) j = 0 := fun j => (k6.m _ _ (ne_1 (by decide))).trans (f52 j)
    have f67 : σ6.1.2.1 (d) (1) = d + 1 := (congrArg (fun g : zG => g.2.1 _ _) k6.g).trans f53
    have f68 : σ6.1.2.2 = d + 3 := (congrArg (fun g : zG => g.2.2) k6.g).trans f54
    have f69 : σ6.1.1 (d + 2) = some (1, 2405) := (congrArg (fun g : zG => g.1 _) k6.g).trans f55
    have f70 : ∀ j, σ6.2 (d + 2) j = 0 := fun j => (k6.m _ _ (ne_1 (by decide))).trans (f56 j)
    have f71 : σ6.1.2.1 (d) (2) = d + 2 := (congrArg (fun g : zG => g.2.1 _ _) k6.g).trans f57
    have f72 : σ6.1.2.1 (d) (3) = d + 1 := (congrArg (fun g : zG => g.2.1 _ _) k6.g).trans f58
    clear f45 f46 f47 f48 f49 f50 f51 f52 f53 f54 f55 f56 f57 f58
    have f73 : σ6.2 (d) (4) = -1 := k6.at0
    have b6 : BL d σ0 σ6 := BL.tr b5 (BL.pf k6 (Int.le_refl _))
    refine zo_na2 (a := d + 3) (c := d + 4) (by decide) f68 (s_d (by decide)) ?_
    rintro σ7 k7
    have f74 : σ7.1.1 (d) = some (0, 8) := (k7.sh _ (ne_0 (by decide))).trans f59
    have f75 : σ7.2 (d) (0) = 0 := (k7.m _ _ (ne_0 (by decide))).trans f60
    have f76 : σ7.2 (d) (11) = 0 := (k7.m _ _ (ne_0 (by decide))).trans f61
    have f77 : σ7.2 (d) (17) = 0 := (k7.m _ _ (ne_0 (by decide))).trans f62
    have f78 : σ7.2 (d) (25) = 0 := (k7.m _ _ (ne_0 (by decide))).trans f63
    have f79 : σ7.2 (d) (27) = 0 := (k7.m _ _ (ne_0 (by decide))).trans f64
    have f80 : σ7.1.1 (d + 1) = some (1, 2405) := (k7.sh _ (ne_d (by decide))).trans f65
    have f81 : ∀ j, σ7.2 (d + 1) j = 0 := fun j => (k7.m _ _ (ne_d (by decide))).trans (f66 j)
    have f82 : σ7.1.2.1 (d) (1) = d + 1 := (k7.rf _ _ (ne_0 (by decide))).trans f67
    have f83 : σ7.1.1 (d + 2) = some (1, 2405) := (k7.sh _ (ne_d (by decide))).trans f69
    have f84 : ∀ j, σ7.2 (d + 2) j = 0 := fun j => (k7.m _ _ (ne_d (by decide))).trans (f70 j)
    have f85 : σ7.1.2.1 (d) (2) = d + 2 := (k7.rf _ _ (ne_0 (by decide))).trans f71
    have f86 : σ7.1.2.1 (d) (3) = d + 1 := (k7.rf _ _ (ne_0 (by decide))).trans f72
    have f87 : σ7.2 (d) (4) = -1 := (k7.m _ _ (ne_0 (by decide))).trans f73
    clear f59 f60 f61 f62 f63 f64 f65 f66 f67 f68 f69 f70 f71 f72 f73
    have f88 : σ7.1.2.2 = d + 4 := k7.nx
    have f89 : σ7.1.1 (d + 3) = some (1, 36) := k7.sh0
    have f90 : ∀ j, σ7.2 (d + 3) j = 0 := k7.m0
    have b7 : BL d σ0 σ7 := BL.tr b6 (BL.mkn k7 (le_d (by decide)))
    refine zo_pr2 (j := 7) f74 rfl rfl ?_
    rintro σ8 k8
    have f91 : σ8.1.1 (d) = some (0, 8) := (congrFun k8.sh _).trans f74
    have f92 : σ8.2 (d) (0) = 0 := (congrFun (congrFun k8.m _) _).trans f75
    have f93 : σ8.2 (d) (11) = 0 := (congrFun (congrFun k8.m _) _).trans f76
    have f94 : σ8.2 (d) (17) = 0 := (congrFun (congrFun k8.m _) _).trans f77
    have f95 : σ8.2 (d) (25) = 0 := (congrFun (congrFun k8.m _) _).trans f78
    have f96 : σ8.2 (d) (27) = 0 := (congrFun (congrFun k8.m _) _).trans f79
    have f97 : σ8.1.1 (d + 1) = some (1, 2405) := (congrFun k8.sh _).trans f80
    have f98 : ∀ j, σ8.2 (d + 1) j = 0 := fun j => (congrFun (congrFun k8.m _) _).trans (f81 j)
    have f99 : σ8.1.2.1 (d) (1) = d + 1 := (k8.rj _ (by decide)).trans f82
    have f100 : σ8.1.1 (d + 2) = some (1, 2405) := (congrFun k8.sh _).trans f83
    have f101 : ∀ j, σ8.2 (d + 2) j = 0 := fun j => (congrFun (congrFun k8.m _) _).trans (f84 j)
    have f102 : σ8.1.2.1 (d) (2) = d + 2 := (k8.rj _ (by decide)).trans f85
    have f103 : σ8.1.2.1 (d) (3) = d + 1 := (k8.rj _ (by decide)).trans f86
    have f104 : σ8.2 (d) (4) = -1 := (congrFun (congrFun k8.m _) _).trans f87
    have f105 : σ8.1.2.2 = d + 4 := k8.nx.trans f88
    have f106 : σ8.1.1 (d + 3) = some (1, 36) := (congrFun k8.sh _).trans f89
    have f107 : ∀ j, σ8.2 (d + 3) j = 0 := fun j => (congrFun (congrFun k8.m _) _).trans (f90 j)
    clear f74 f75 f76 f77 f78 f79 f80 f81 f82 f83 f84 f85 f86 f87 f88 f89 f90
    have f108 : σ8.1.2.1 (d) (7) = d + 3 := k8.at0
    have b8 : BL d σ0 σ8 := BL.tr b7 (BL.pr k8 (Int.le_refl _))
    refine zo_na2 (a := d + 4) (c := d + 5) (by decide) f105 (s_d (by decide)) ?_
    rintro σ9 k9
    have f109 : σ9.1.1 (d) = some (0, 8) := (k9.sh _ (ne_0 (by decide))).trans f91
    have f110 : σ9.2 (d) (0) = 0 := (k9.m _ _ (ne_0 (by decide))).trans f92
    have f111 : σ9.2 (d) (11) = 0 := (k9.m _ _ (ne_0 (by decide))).trans f93
    have f112 : σ9.2 (d) (17) = 0 := (k9.m _ _ (ne_0 (by decide))).trans f94
    have f113 : σ9.2 (d) (25) = 0 := (k9.m _ _ (ne_0 (by decide))).trans f95
    have f114 : σ9.2 (d) (27) = 0 := (k9.m _ _ (ne_0 (by decide))).trans f96
    have f115 : σ9.1.1 (d + 1) = some (1, 2405) := (k9.sh _ (ne_d (by decide))).trans f97
    have f116 : ∀ j, σ9.2 (d + 1) j = 0 := fun j => (k9.m _ _ (ne_d (by decide))).trans (f98 j)
    have f117 : σ9.1.2.1 (d) (1) = d + 1 := (k9.rf _ _ (ne_0 (by decide))).trans f99
    have f118 : σ9.1.1 (d + 2) = some (1, 2405) := (k9.sh _ (ne_d (by decide))).trans f100
    have f119 : ∀ j, σ9.2 (d + 2) j = 0 := fun j => (k9.m _ _ (ne_d (by decide))).trans (f101 j)
    have f120 : σ9.1.2.1 (d) (2) = d + 2 := (k9.rf _ _ (ne_0 (by decide))).trans f102
    have f121 : σ9.1.2.1 (d) (3) = d + 1 := (k9.rf _ _ (ne_0 (by decide))).trans f103
    have f122 : σ9.2 (d) (4) = -1 := (k9.m _ _ (ne_0 (by decide))).trans f104
    have f123 : σ9.1.1 (d + 3) = some (1, 36) := (k9.sh _ (ne_d (by decide))).trans f106
    have f124 : ∀ j, σ9.2 (d + 3) j = 0 := fun j => (k9.m _ _ (ne_d (by decide))).trans (f107 j)
    have f125 : σ9.1.2.1 (d) (7) = d + 3 := (k9.rf _ _ (ne_0 (by decide))).trans f108
    clear f91 f92 f93 f94 f95 f96 f97 f98 f99 f100 f101 f102 f103 f104 f105 f106 f107 f108
    have f126 : σ9.1.2.2 = d + 5 := k9.nx
    have f127 : σ9.1.1 (d + 4) = some (3, 36) := k9.sh0
    have f128 : ∀ j, σ9.2 (d + 4) j = 0 := k9.m0
    have b9 : BL d σ0 σ9 := BL.tr b8 (BL.mkn k9 (le_d (by decide)))
    refine zo_pr2 (j := 8) f109 rfl rfl ?_
    rintro σ10 k10
    have f129 : σ10.1.1 (d) = some (0, 8) := (congrFun k10.sh _).trans f109
    have f130 : σ10.2 (d) (0) = 0 := (congrFun (congrFun k10.m _) _).trans f110
    have f131 : σ10.2 (d) (11) = 0 := (congrFun (congrFun k10.m _) _).trans f111
    have f132 : σ10.2 (d) (17) = 0 := (congrFun (congrFun k10.m _) _).trans f112
    have f133 : σ10.2 (d) (25) = 0 := (congrFun (congrFun k10.m _) _).trans f113
    have f134 : σ10.2 (d) (27) = 0 := (congrFun (congrFun k10.m _) _).trans f114
    have f135 : σ10.1.1 (d + 1) = some (1, 2405) := (congrFun k10.sh _).trans f115
    have f136 : ∀ j, σ10.2 (d + 1) j = 0 := fun j => (congrFun (congrFun k10.m _) _).trans (f116 j)
    have f137 : σ10.1.2.1 (d) (1) = d + 1 := (k10.rj _ (by decide)).trans f117
    have f138 : σ10.1.1 (d + 2) = some (1, 2405) := (congrFun k10.sh _).trans f118
    have f139 : ∀ j, σ10.2 (d + 2) j = 0 := fun j => (congrFun (congrFun k10.m _) _).trans (f119 j)
    have f140 : σ10.1.2.1 (d) (2) = d + 2 := (k10.rj _ (by decide)).trans f120
    have f141 : σ10.1.2.1 (d) (3) = d + 1 := (k10.rj _ (by decide)).trans f121
    have f142 : σ10.2 (d) (4) = -1 := (congrFun (congrFun k10.m _) _).trans f122
    have f143 : σ10.1.1 (d + 3) = some (1, 36) := (congrFun k10.sh _).trans f123
    have f144 : ∀ j, σ10.2 (d + 3) j = 0 := fun j => (congrFun (congrFun k10.m _) _).trans (f124 j)
    have f145 : σ10.1.2.1 (d) (7) = d + 3 := (k10.rj _ (by decide)).trans f125
    have f146 : σ10.1.2.2 = d + 5 := k10.nx.trans f126
    have f147 : σ10.1.1 (d + 4) = some (3, 36) := (congrFun k10.sh _).trans f127
    have f148 : ∀ j, σ10.2 (d + 4) j = 0 := fun j => (congrFun (congrFun k10.m _) _).trans (f128 j)
    clear f109 f110 f111 f112 f113 f114 f115 f116 f117 f118 f119 f120 f121 f122 f123 f124 f125 f126 f127 f128
    have f149 : σ10.1.2.1 (d) (8) = d + 4 := k10.at0
    have b10 : BL d σ0 σ10 := BL.tr b9 (BL.pr k10 (Int.le_refl _))
    refine zo_na2 (a := d + 5) (c := d + 6) (by decide) f146 (s_d (by decide)) ?_
    rintro σ11 k11
    have f150 : σ11.1.1 (d) = some (0, 8) := (k11.sh _ (ne_0 (by decide))).trans f129
    have f151 : σ11.2 (d) (0) = 0 := (k11.m _ _ (ne_0 (by decide))).trans f130
    have f152 : σ11.2 (d) (11) = 0 := (k11.m _ _ (ne_0 (by decide))).trans f131
    have f153 : σ11.2 (d) (17) = 0 := (k11.m _ _ (ne_0 (by decide))).trans f132
    have f154 : σ11.2 (d) (25) = 0 := (k11.m _ _ (ne_0 (by decide))).trans f133
    have f155 : σ11.2 (d) (27) = 0 := (k11.m _ _ (ne_0 (by decide))).trans f134
    have f156 : σ11.1.1 (d + 1) = some (1, 2405) := (k11.sh _ (ne_d (by decide))).trans f135
    have f157 : ∀ j, σ11.2 (d + 1) j = 0 := fun j => (k11.m _ _ (ne_d (by decide))).trans (f136 j)
    have f158 : σ11.1.2.1 (d) (1) = d + 1 := (k11.rf _ _ (ne_0 (by decide))).trans f137
    have f159 : σ11.1.1 (d + 2) = some (1, 2405) := (k11.sh _ (ne_d (by decide))).trans f138
    have f160 : ∀ j, σ11.2 (d + 2) j = 0 := fun j => (k11.m _ _ (ne_d (by decide))).trans (f139 j)
    have f161 : σ11.1.2.1 (d) (2) = d + 2 := (k11.rf _ _ (ne_0 (by decide))).trans f140
    have f162 : σ11.1.2.1 (d) (3) = d + 1 := (k11.rf _ _ (ne_0 (by decide))).trans f141
    have f163 : σ11.2 (d) (4) = -1 := (k11.m _ _ (ne_0 (by decide))).trans f142
    have f164 : σ11.1.1 (d + 3) = some (1, 36) := (k11.sh _ (ne_d (by decide))).trans f143
    have f165 : ∀ j, σ11.2 (d + 3) j = 0 := fun j => (k11.m _ _ (ne_d (by decide))).trans (f144 j)
    have f166 : σ11.1.2.1 (d) (7) = d + 3 := (k11.rf _ _ (ne_0 (by decide))).trans f145
    have f167 : σ11.1.1 (d + 4) = some (3, 36) := (k11.sh _ (ne_d (by decide))).trans f147
    have f168 : ∀ j, σ11.2 (d + 4) j = 0 := fun j => (k11.m _ _ (ne_d (by decide))).trans (f148 j)
    have f169 : σ11.1.2.1 (d) (8) = d + 4 := (k11.rf _ _ (ne_0 (by decide))).trans f149
    clear f129 f130 f131 f132 f133 f134 f135 f136 f137 f138 f139 f140 f141 f142 f143 f144 f145 f146 f147 f148 f149
    have f170 : σ11.1.2.2 = d + 6 := k11.nx
    have f171 : σ11.1.1 (d + 5) = some (1, 2405) := k11.sh0
    have f172 : ∀ j, σ11.2 (d + 5) j = 0 := k11.m0
    have b11 : BL d σ0 σ11 := BL.tr b10 (BL.mkn k11 (le_d (by decide)))
    refine zo_pr2 (j := 9) f150 rfl rfl ?_
    rintro σ12 k12
    have f173 : σ12.1.1 (d) = some (0, 8) := (congrFun k12.sh _).trans f150
    have f174 : σ12.2 (d) (0) = 0 := (congrFun (congrFun k12.m _) _).trans f151
    have f175 : σ12.2 (d) (11) = 0 := (congrFun (congrFun k12.m _) _).trans f152
    have f176 : σ12.2 (d) (17) = 0 := (congrFun (congrFun k12.m _) _).trans f153
    have f177 : σ12.2 (d) (25) = 0 := (congrFun (congrFun k12.m _) _).trans f154
    have f178 : σ12.2 (d) (27) = 0 := (congrFun (congrFun k12.m _) _).trans f155
    have f179 : σ12.1.1 (d + 1) = some (1, 2405) := (congrFun k12.sh _).trans f156
    have f180 : ∀ j, σ12.2 (d + 1) j = 0 := fun j => (congrFun (congrFun k12.m _) _).trans (f157 j)
    have f181 : σ12.1.2.1 (d) (1) = d + 1 := (k12.rj _ (by decide)).trans f158
    have f182 : σ12.1.1 (d + 2) = some (1, 2405) := (congrFun k12.sh _).trans f159
    have f183 : ∀ j, σ12.2 (d + 2) j = 0 := fun j => (congrFun (congrFun k12.m _) _).trans (f160 j)
    have f184 : σ12.1.2.1 (d) (2) = d + 2 := (k12.rj _ (by decide)).trans f161
    have f185 : σ12.1.2.1 (d) (3) = d + 1 := (k12.rj _ (by decide)).trans f162
    have f186 : σ12.2 (d) (4) = -1 := (congrFun (congrFun k12.m _) _).trans f163
    have f187 : σ12.1.1 (d + 3) = some (1, 36) := (congrFun k12.sh _).trans f164
    have f188 : ∀ j, σ12.2 (d + 3) j = 0 := fun j => (congrFun (congrFun k12.m _) _).trans (f165 j)
    have f189 : σ12.1.2.1 (d) (7) = d + 3 := (k12.rj _ (by decide)).trans f166
    have f190 : σ12.1.1 (d + 4) = some (3, 36) := (congrFun k12.sh _).trans f167
    have f191 : ∀ j, σ12.2 (d + 4) j = 0 := fun j => (congrFun (congrFun k12.m _) _).trans (f168 j)
    have f192 : σ12.1.2.1 (d) (8) = d + 4 := (k12.rj _ (by decide)).trans f169
    have f193 : σ12.1.2.2 = d + 6 := k12.nx.trans f170
    have f194 : σ12.1.1 (d + 5) = some (1, 2405) := (congrFun k12.sh _).trans f171
    have f195 : ∀ j, σ12.2 (d + 5) j = 0 := fun j => (congrFun (congrFun k12.m _) _).trans (f172 j)
    clear f150 f151 f152 f153 f154 f155 f156 f157 f158 f159 f160 f161 f162 f163 f164 f165 f166 f167 f168 f169 f170 f171 f172
    have f196 : σ12.1.2.1 (d) (9) = d + 5 := k12.at0
    have b12 : BL d σ0 σ12 := BL.tr b11 (BL.pr k12 (Int.le_refl _))
    refine zo_na2 (a := d + 6) (c := d + 7) (by decide) f193 (s_d (by decide)) ?_
    rintro σ13 k13
    have f197 : σ13.1.1 (d) = some (0, 8) := (k13.sh _ (ne_0 (by decide))).trans f173
    have f198 : σ13.2 (d) (0) = 0 := (k13.m _ _ (ne_0 (by decide))).trans f174
    have f199 : σ13.2 (d) (11) = 0 := (k13.m _ _ (ne_0 (by decide))).trans f175
    have f200 : σ13.2 (d) (17) = 0 := (k13.m _ _ (ne_0 (by decide))).trans f176
    have f201 : σ13.2 (d) (25) = 0 := (k13.m _ _ (ne_0 (by decide))).trans f177
    have f202 : σ13.2 (d) (27) = 0 := (k13.m _ _ (ne_0 (by decide))).trans f178
    have f203 : σ13.1.1 (d + 1) = some (1, 2405) := (k13.sh _ (ne_d (by decide))).trans f179
    have f204 : ∀ j, σ13.2 (d + 1) j = 0 := fun j => (k13.m _ _ (ne_d (by decide))).trans (f180 j)
    have f205 : σ13.1.2.1 (d) (1) = d + 1 := (k13.rf _ _ (ne_0 (by decide))).trans f181
    have f206 : σ13.1.1 (d + 2) = some (1, 2405) := (k13.sh _ (ne_d (by decide))).trans f182
    have f207 : ∀ j, σ13.2 (d + 2) j = 0 := fun j => (k13.m _ _ (ne_d (by decide))).trans (f183 j)
    have f208 : σ13.1.2.1 (d) (2) = d + 2 := (k13.rf _ _ (ne_0 (by decide))).trans f184
    have f209 : σ13.1.2.1 (d) (3) = d + 1 := (k13.rf _ _ (ne_0 (by decide))).trans f185
    have f210 : σ13.2 (d) (4) = -1 := (k13.m _ _ (ne_0 (by decide))).trans f186
    have f211 : σ13.1.1 (d + 3) = some (1, 36) := (k13.sh _ (ne_d (by decide))).trans f187
    have f212 : ∀ j, σ13.2 (d + 3) j = 0 := fun j => (k13.m _ _ (ne_d (by decide))).trans (f188 j)
    have f213 : σ13.1.2.1 (d) (7) = d + 3 := (k13.rf _ _ (ne_0 (by decide))).trans f189
    have f214 : σ13.1.1 (d + 4) = some (3, 36) := (k13.sh _ (ne_d (by decide))).trans f190
    have f215 : ∀ j, σ13.2 (d + 4) j = 0 := fun j => (k13.m _ _ (ne_d (by decide))).trans (f191 j)
    have f216 : σ13.1.2.1 (d) (8) = d + 4 := (k13.rf _ _ (ne_0 (by decide))).trans f192
    have f217 : σ13.1.1 (d + 5) = some (1, 2405) := (k13.sh _ (ne_d (by decide))).trans f194
    have f218 : ∀ j, σ13.2 (d + 5) j = 0 := fun j => (k13.m _ _ (ne_d (by decide))).trans (f195 j)
    have f219 : σ13.1.2.1 (d) (9) = d + 5 := (k13.rf _ _ (ne_0 (by decide))).trans f196
    clear f173 f174 f175 f176 f177 f178 f179 f180 f181 f182 f183 f184 f185 f186 f187 f188 f189 f190 f191 f192 f193 f194 f195 f196
    have f220 : σ13.1.2.2 = d + 7 := k13.nx
    have f221 : σ13.1.1 (d + 6) = some (2, 600) := k13.sh0
    have f222 : ∀ j, σ13.2 (d + 6) j = 0 := k13.m0
    have b13 : BL d σ0 σ13 := BL.tr b12 (BL.mkn k13 (le_d (by decide)))
    refine zo_pr2 (j := 10) f197 rfl rfl ?_
    rintro σ14 k14
    have f223 : σ14.1.1 (d) = some (0, 8) := (congrFun k14.sh _).trans f197
    have f224 : σ14.2 (d) (0) = 0 := (congrFun (congrFun k14.m _) _).trans f198
    have f225 : σ14.2 (d) (11) = 0 := (congrFun (congrFun k14.m _) _).trans f199
    have f226 : σ14.2 (d) (17) = 0 := (congrFun (congrFun k14.m _) _).trans f200
    have f227 : σ14.2 (d) (25) = 0 := (congrFun (congrFun k14.m _) _).trans f201
    have f228 : σ14.2 (d) (27) = 0 := (congrFun (congrFun k14.m _) _).trans f202
    have f229 : σ14.1.1 (d + 1) = some (1, 2405) := (congrFun k14.sh _).trans f203
    have f230 : ∀ j, σ14.2 (d + 1) j = 0 := fun j => (congrFun (congrFun k14.m _) _).trans (f204 j)
    have f231 : σ14.1.2.1 (d) (1) = d + 1 := (k14.rj _ (by decide)).trans f205
    have f232 : σ14.1.1 (d + 2) = some (1, 2405) := (congrFun k14.sh _).trans f206
    have f233 : ∀ j, σ14.2 (d + 2) j = 0 := fun j => (congrFun (congrFun k14.m _) _).trans (f207 j)
    have f234 : σ14.1.2.1 (d) (2) = d + 2 := (k14.rj _ (by decide)).trans f208
    have f235 : σ14.1.2.1 (d) (3) = d + 1 := (k14.rj _ (by decide)).trans f209
    have f236 : σ14.2 (d) (4) = -1 := (congrFun (congrFun k14.m _) _).trans f210
    have f237 : σ14.1.1 (d + 3) = some (1, 36) := (congrFun k14.sh _).trans f211
    have f238 : ∀ j, σ14.2 (d + 3) j = 0 := fun j => (congrFun (congrFun k14.m _) _).trans (f212 j)
    have f239 : σ14.1.2.1 (d) (7) = d + 3 := (k14.rj _ (by decide)).trans f213
    have f240 : σ14.1.1 (d + 4) = some (3, 36) := (congrFun k14.sh _).trans f214
    have f241 : ∀ j, σ14.2 (d + 4) j = 0 := fun j => (congrFun (congrFun k14.m _) _).trans (f215 j)
    have f242 : σ14.1.2.1 (d) (8) = d + 4 := (k14.rj _ (by decide)).trans f216
    have f243 : σ14.1.1 (d + 5) = some (1, 2405) := (congrFun k14.sh _).trans f217
    have f244 : ∀ j, σ14.2 (d + 5) j = 0 := fun j => (congrFun (congrFun k14.m _) _).trans (f218 j)
    have f245 : σ14.1.2.1 (d) (9) = d + 5 := (k14.rj _ (by decide)).trans f219
    have f246 : σ14.1.2.2 = d + 7 := k14.nx.trans f220
    have f247 : σ14.1.1 (d + 6) = some (2, 600) := (congrFun k14.sh _).trans f221
    have f248 : ∀ j, σ14.2 (d + 6) j = 0 := fun j => (congrFun (congrFun k14.m _) _).trans (f222 j)
    clear f197 f198 f199 f200 f201 f202 f203 f204 f205 f206 f207 f208 f209 f210 f211 f212 f213 f214 f215 f216 f217 f218 f219 f220 f221 f222
    have f249 : σ14.1.2.1 (d) (10) = d + 6 := k14.at0
    have b14 : BL d σ0 σ14 := BL.tr b13 (BL.pr k14 (Int.le_refl _))
    refine zo_pf2 (j := 18) f223 rfl rfl ?_
    rintro σ15 k15
    have f250 : σ15.1.1 (d) = some (0, 8) := (congrArg (fun g : zG => g.1 _) k15.g).trans f223
    have f251 : σ15.2 (d) (0) = 0 := (k15.mj _ (by decide)).trans f224
    have f252 : σ15.2 (d) (11) = 0 := (k15.mj _ (by decide)).trans f225
    have f253 : σ15.2 (d) (17) = 0 := (k15.mj _ (by decide)).trans f226
    have f254 : σ15.2 (d) (25) = 0 := (k15.mj _ (by decide)).trans f227
    have f255 : σ15.2 (d) (27) = 0 := (k15.mj _ (by decide)).trans f228
    have f256 : σ15.1.1 (d + 1) = some (1, 2405) := (congrArg (fun g : zG => g.1 _) k15.g).trans f229
    have f257 : ∀ j, σ15.2 (d + 1) j = 0 := fun j => (k15.m _ _ (ne_1 (by decide))).trans (f230 j)
    have f258 : σ15.1.2.1 (d) (1) = d + 1 := (congrArg (fun g : zG => g.2.1 _ _) k15.g).trans f231
    have f259 : σ15.1.1 (d + 2) = some (1, 2405) := (congrArg (fun g : zG => g.1 _) k15.g).trans f232
    have f260 : ∀ j, σ15.2 (d + 2) j = 0 := fun j => (k15.m _ _ (ne_1 (by decide))).trans (f233 j)
    have f261 : σ15.1.2.1 (d) (2) = d + 2 := (congrArg (fun g : zG => g.2.1 _ _) k15.g).trans f234
    have f262 : σ15.1.2.1 (d) (3) = d + 1 := (congrArg (fun g : zG => g.2.1 _ _) k15.g).trans f235
    have f263 : σ15.2 (d) (4) = -1 := (k15.mj _ (by decide)).trans f236
    have f264 : σ15.1.1 (d + 3) = some (1, 36) := (congrArg (fun g : zG => g.1 _) k15.g).trans f237
    have f265 : ∀ j, σ15.2 (d + 3) j = 0 := fun j => (k15.m _ _ (ne_1 (by decide))).trans (f238 j)
    have f266 : σ15.1.2.1 (d) (7) = d + 3 := (congrArg (fun g : zG => g.2.1 _ _) k15.g).trans f239
    have f267 : σ15.1.1 (d + 4) = some (3, 36) := (congrArg (fun g : zG => g.1 _) k15.g).trans f240
    have f268 : ∀ j, σ15.2 (d + 4) j = 0 := fun j => (k15.m _ _ (ne_1 (by decide))).trans (f241 j)
    have f269 : σ15.1.2.1 (d) (8) = d + 4 := (congrArg (fun g : zG => g.2.1 _ _) k15.g).trans f242
    have f270 : σ15.1.1 (d + 5) = some (1, 2405) := (congrArg (fun g : zG => g.1 _) k15.g).trans f243
    have f271 : ∀ j, σ15.2 (d + 5) j = 0 := fun j => (k15.m _ _ (ne_1 (by decide))).trans (f244 j)
    have f272 : σ15.1.2.1 (d) (9) = d + 5 := (congrArg (fun g : zG => g.2.1 _ _) k15.g).trans f245
    have f273 : σ15.1.2.2 = d + 7 := (congrArg (fun g : zG => g.2.2) k15.g).trans f246
    have f274 : σ15.1.1 (d + 6) = some (2, 600) := (congrArg (fun g : zG => g.1 _) k15.g).trans f247
    have f275 : ∀ j, σ15.2 (d + 6) j = 0 := fun j => (k15.m _ _ (ne_1 (by decide))).trans (f248 j)
    have f276 : σ15.1.2.1 (d) (10) = d + 6 := (congrArg (fun g : zG => g.2.1 _ _) k15.g).trans f249
    clear f223 f224 f225 f226 f227 f228 f229 f230 f231 f232 f233 f234 f235 f236 f237 f238 f239 f240 f241 f242 f243 f244 f245 f246 f247 f248 f249
    have f277 : σ15.2 (d) (18) = -1 := k15.at0
    have b15 : BL d σ0 σ15 := BL.tr b14 (BL.pf k15 (Int.le_refl _))
    refine zo_na2 (a := d + 7) (c := d + 8) (by decide) f273 (s_d (by decide)) ?_
    rintro σ16 k16
    have f278 : σ16.1.1 (d) = some (0, 8) := (k16.sh _ (ne_0 (by decide))).trans f250
    have f279 : σ16.2 (d) (0) = 0 := (k16.m _ _ (ne_0 (by decide))).trans f251
    have f280 : σ16.2 (d) (11) = 0 := (k16.m _ _ (ne_0 (by decide))).trans f252
    have f281 : σ16.2 (d) (17) = 0 := (k16.m _ _ (ne_0 (by decide))).trans f253
    have f282 : σ16.2 (d) (25) = 0 := (k16.m _ _ (ne_0 (by decide))).trans f254
    have f283 : σ16.2 (d) (27) = 0 := (k16.m _ _ (ne_0 (by decide))).trans f255
    have f284 : σ16.1.1 (d + 1) = some (1, 2405) := (k16.sh _ (ne_d (by decide))).trans f256
    have f285 : ∀ j, σ16.2 (d + 1) j = 0 := fun j => (k16.m _ _ (ne_d (by decide))).trans (f257 j)
    have f286 : σ16.1.2.1 (d) (1) = d + 1 := (k16.rf _ _ (ne_0 (by decide))).trans f258
    have f287 : σ16.1.1 (d + 2) = some (1, 2405) := (k16.sh _ (ne_d (by decide))).trans f259
    have f288 : ∀ j, σ16.2 (d + 2) j = 0 := fun j => (k16.m _ _ (ne_d (by decide))).trans (f260 j)
    have f289 : σ16.1.2.1 (d) (2) = d + 2 := (k16.rf _ _ (ne_0 (by decide))).trans f261
    have f290 : σ16.1.2.1 (d) (3) = d + 1 := (k16.rf _ _ (ne_0 (by decide))).trans f262
    have f291 : σ16.2 (d) (4) = -1 := (k16.m _ _ (ne_0 (by decide))).trans f263
    have f292 : σ16.1.1 (d + 3) = some (1, 36) := (k16.sh _ (ne_d (by decide))).trans f264
    have f293 : ∀ j, σ16.2 (d + 3) j = 0 := fun j => (k16.m _ _ (ne_d (by decide))).trans (f265 j)
    have f294 : σ16.1.2.1 (d) (7) = d + 3 := (k16.rf _ _ (ne_0 (by decide))).trans f266
    have f295 : σ16.1.1 (d + 4) = some (3, 36) := (k16.sh _ (ne_d (by decide))).trans f267
    have f296 : ∀ j, σ16.2 (d + 4) j = 0 := fun j => (k16.m _ _ (ne_d (by decide))).trans (f268 j)
    have f297 : σ16.1.2.1 (d) (8) = d + 4 := (k16.rf _ _ (ne_0 (by decide))).trans f269
    have f298 : σ16.1.1 (d + 5) = some (1, 2405) := (k16.sh _ (ne_d (by decide))).trans f270
    have f299 : ∀ j, σ16.2 (d + 5) j = 0 := fun j => (k16.m _ _ (ne_d (by decide))).trans (f271 j)
    have f300 : σ16.1.2.1 (d) (9) = d + 5 := (k16.rf _ _ (ne_0 (by decide))).trans f272
    have f301 : σ16.1.1 (d + 6) = some (2, 600) := (k16.sh _ (ne_d (by decide))).trans f274
    have f302 : ∀ j, σ16.2 (d + 6) j = 0 := fun j => (k16.m _ _ (ne_d (by decide))).trans (f275 j)
    have f303 : σ16.1.2.1 (d) (10) = d + 6 := (k16.rf _ _ (ne_0 (by decide))).trans f276
    have f304 : σ16.2 (d) (18) = -1 := (k16.m _ _ (ne_0 (by decide))).trans f277
    clear f250 f251 f252 f253 f254 f255 f256 f257 f258 f259 f260 f261 f262 f263 f264 f265 f266 f267 f268 f269 f270 f271 f272 f273 f274 f275 f276 f277
    have f305 : σ16.1.2.2 = d + 8 := k16.nx
    have f306 : σ16.1.1 (d + 7) = some (3, 36) := k16.sh0
    have f307 : ∀ j, σ16.2 (d + 7) j = 0 := k16.m0
    have b16 : BL d σ0 σ16 := BL.tr b15 (BL.mkn k16 (le_d (by decide)))
    refine zo_pr2 (j := 21) f278 rfl rfl ?_
    rintro σ17 k17
    have f308 : σ17.1.1 (d) = some (0, 8) := (congrFun k17.sh _).trans f278
    have f309 : σ17.2 (d) (0) = 0 := (congrFun (congrFun k17.m _) _).trans f279
    have f310 : σ17.2 (d) (11) = 0 := (congrFun (congrFun k17.m _) _).trans f280
    have f311 : σ17.2 (d) (17) = 0 := (congrFun (congrFun k17.m _) _).trans f281
    have f312 : σ17.2 (d) (25) = 0 := (congrFun (congrFun k17.m _) _).trans f282
    have f313 : σ17.2 (d) (27) = 0 := (congrFun (congrFun k17.m _) _).trans f283
    have f314 : σ17.1.1 (d + 1) = some (1, 2405) := (congrFun k17.sh _).trans f284
    have f315 : ∀ j, σ17.2 (d + 1) j = 0 := fun j => (congrFun (congrFun k17.m _) _).trans (f285 j)
    have f316 : σ17.1.2.1 (d) (1) = d + 1 := (k17.rj _ (by decide)).trans f286
    have f317 : σ17.1.1 (d + 2) = some (1, 2405) := (congrFun k17.sh _).trans f287
    have f318 : ∀ j, σ17.2 (d + 2) j = 0 := fun j => (congrFun (congrFun k17.m _) _).trans (f288 j)
    have f319 : σ17.1.2.1 (d) (2) = d + 2 := (k17.rj _ (by decide)).trans f289
    have f320 : σ17.1.2.1 (d) (3) = d + 1 := (k17.rj _ (by decide)).trans f290
    have f321 : σ17.2 (d) (4) = -1 := (congrFun (congrFun k17.m _) _).trans f291
    have f322 : σ17.1.1 (d + 3) = some (1, 36) := (congrFun k17.sh _).trans f292
    have f323 : ∀ j, σ17.2 (d + 3) j = 0 := fun j => (congrFun (congrFun k17.m _) _).trans (f293 j)
    have f324 : σ17.1.2.1 (d) (7) = d + 3 := (k17.rj _ (by decide)).trans f294
    have f325 : σ17.1.1 (d + 4) = some (3, 36) := (congrFun k17.sh _).trans f295
    have f326 : ∀ j, σ17.2 (d + 4) j = 0 := fun j => (congrFun (congrFun k17.m _) _).trans (f296 j)
    have f327 : σ17.1.2.1 (d) (8) = d + 4 := (k17.rj _ (by decide)).trans f297
    have f328 : σ17.1.1 (d + 5) = some (1, 2405) := (congrFun k17.sh _).trans f298
    have f329 : ∀ j, σ17.2 (d + 5) j = 0 := fun j => (congrFun (congrFun k17.m _) _).trans (f299 j)
    have f330 : σ17.1.2.1 (d) (9) = d + 5 := (k17.rj _ (by decide)).trans f300
    have f331 : σ17.1.1 (d + 6) = some (2, 600) := (congrFun k17.sh _).trans f301
    have f332 : ∀ j, σ17.2 (d + 6) j = 0 := fun j => (congrFun (congrFun k17.m _) _).trans (f302 j)
    have f333 : σ17.1.2.1 (d) (10) = d + 6 := (k17.rj _ (by decide)).trans f303
    have f334 : σ17.2 (d) (18) = -1 := (congrFun (congrFun k17.m _) _).trans f304
    have f335 : σ17.1.2.2 = d + 8 := k17.nx.trans f305
    have f336 : σ17.1.1 (d + 7) = some (3, 36) := (congrFun k17.sh _).trans f306
    have f337 : ∀ j, σ17.2 (d + 7) j = 0 := fun j => (congrFun (congrFun k17.m _) _).trans (f307 j)
    clear f278 f279 f280 f281 f282 f283 f284 f285 f286 f287 f288 f289 f290 f291 f292 f293 f294 f295 f296 f297 f298 f299 f300 f301 f302 f303 f304 f305 f306 f307
    have f338 : σ17.1.2.1 (d) (21) = d + 7 := k17.at0
    have b17 : BL d σ0 σ17 := BL.tr b16 (BL.pr k17 (Int.le_refl _))
    refine zo_na2 (a := d + 8) (c := d + 9) (by decide) f335 (s_d (by decide)) ?_
    rintro σ18 k18
    have f339 : σ18.1.1 (d) = some (0, 8) := (k18.sh _ (ne_0 (by decide))).trans f308
    have f340 : σ18.2 (d) (0) = 0 := (k18.m _ _ (ne_0 (by decide))).trans f309
    have f341 : σ18.2 (d) (11) = 0 := (k18.m _ _ (ne_0 (by decide))).trans f310
    have f342 : σ18.2 (d) (17) = 0 := (k18.m _ _ (ne_0 (by decide))).trans f311
    have f343 : σ18.2 (d) (25) = 0 := (k18.m _ _ (ne_0 (by decide))).trans f312
    have f344 : σ18.2 (d) (27) = 0 := (k18.m _ _ (ne_0 (by decide))).trans f313
    have f345 : σ18.1.1 (d + 1) = some (1, 2405) := (k18.sh _ (ne_d (by decide))).trans f314
    have f346 : ∀ j, σ18.2 (d + 1) j = 0 := fun j => (k18.m _ _ (ne_d (by decide))).trans (f315 j)
    have f347 : σ18.1.2.1 (d) (1) = d + 1 := (k18.rf _ _ (ne_0 (by decide))).trans f316
    have f348 : σ18.1.1 (d + 2) = some (1, 2405) := (k18.sh _ (ne_d (by decide))).trans f317
    have f349 : ∀ j, σ18.2 (d + 2) j = 0 := fun j => (k18.m _ _ (ne_d (by decide))).trans (f318 j)
    have f350 : σ18.1.2.1 (d) (2) = d + 2 := (k18.rf _ _ (ne_0 (by decide))).trans f319
    have f351 : σ18.1.2.1 (d) (3) = d + 1 := (k18.rf _ _ (ne_0 (by decide))).trans f320
    have f352 : σ18.2 (d) (4) = -1 := (k18.m _ _ (ne_0 (by decide))).trans f321
    have f353 : σ18.1.1 (d + 3) = some (1, 36) := (k18.sh _ (ne_d (by decide))).trans f322
    have f354 : ∀ j, σ18.2 (d + 3) j = 0 := fun j => (k18.m _ _ (ne_d (by decide))).trans (f323 j)
    have f355 : σ18.1.2.1 (d) (7) = d + 3 := (k18.rf _ _ (ne_0 (by decide))).trans f324
    have f356 : σ18.1.1 (d + 4) = some (3, 36) := (k18.sh _ (ne_d (by decide))).trans f325
    have f357 : ∀ j, σ18.2 (d + 4) j = 0 := fun j => (k18.m _ _ (ne_d (by decide))).trans (f326 j)
    have f358 : σ18.1.2.1 (d) (8) = d + 4 := (k18.rf _ _ (ne_0 (by decide))).trans f327
    have f359 : σ18.1.1 (d + 5) = some (1, 2405) := (k18.sh _ (ne_d (by decide))).trans f328
    have f360 : ∀ j, σ18.2 (d + 5) j = 0 := fun j => (k18.m _ _ (ne_d (by decide))).trans (f329 j)
    have f361 : σ18.1.2.1 (d) (9) = d + 5 := (k18.rf _ _ (ne_0 (by decide))).trans f330
    have f362 : σ18.1.1 (d + 6) = some (2, 600) := (k18.sh _ (ne_d (by decide))).trans f331
    have f363 : ∀ j, σ18.2 (d + 6) j = 0 := fun j => (k18.m _ _ (ne_d (by decide))).trans (f332 j)
    have f364 : σ18.1.2.1 (d) (10) = d + 6 := (k18.rf _ _ (ne_0 (by decide))).trans f333
    have f365 : σ18.2 (d) (18) = -1 := (k18.m _ _ (ne_0 (by decide))).trans f334
    have f366 : σ18.1.1 (d + 7) = some (3, 36) := (k18.sh _ (ne_d (by decide))).trans f336
    have f367 : ∀ j, σ18.2 (d + 7) j = 0 := fun j => (k18.m _ _ (ne_d (by decide))).trans (f337 j)
    have f368 : σ18.1.2.1 (d) (21) = d + 7 := (k18.rf _ _ (ne_0 (by decide))).trans f338
    clear f308 f309 f310 f311 f312 f313 f314 f315 f316 f317 f318 f319 f320 f321 f322 f323 f324 f325 f326 f327 f328 f329 f330 f331 f332 f333 f334 f335 f336 f337 f338
    have f369 : σ18.1.2.2 = d + 9 := k18.nx
    have f370 : σ18.1.1 (d + 8) = some (1, 4810) := k18.sh0
    have f371 : ∀ j, σ18.2 (d + 8) j = 0 := k18.m0
    have b18 : BL d σ0 σ18 := BL.tr b17 (BL.mkn k18 (le_d (by decide)))
    refine zo_pr2 (j := 22) f339 rfl rfl ?_
    rintro σ19 k19
    have f372 : σ19.1.1 (d) = some (0, 8) := (congrFun k19.sh _).trans f339
    have f373 : σ19.2 (d) (0) = 0 := (congrFun (congrFun k19.m _) _).trans f340
    have f374 : σ19.2 (d) (11) = 0 := (congrFun (congrFun k19.m _) _).trans f341
    have f375 : σ19.2 (d) (17) = 0 := (congrFun (congrFun k19.m _) _).trans f342
    have f376 : σ19.2 (d) (25) = 0 := (congrFun (congrFun k19.m _) _).trans f343
    have f377 : σ19.2 (d) (27) = 0 := (congrFun (congrFun k19.m _) _).trans f344
    have f378 : σ19.1.1 (d + 1) = some (1, 2405) := (congrFun k19.sh _).trans f345
    have f379 : ∀ j, σ19.2 (d + 1) j = 0 := fun j => (congrFun (congrFun k19.m _) _).trans (f346 j)
    have f380 : σ19.1.2.1 (d) (1) = d + 1 := (k19.rj _ (by decide)).trans f347
    have f381 : σ19.1.1 (d + 2) = some (1, 2405) := (congrFun k19.sh _).trans f348
    have f382 : ∀ j, σ19.2 (d + 2) j = 0 := fun j => (congrFun (congrFun k19.m _) _).trans (f349 j)
    have f383 : σ19.1.2.1 (d) (2) = d + 2 := (k19.rj _ (by decide)).trans f350
    have f384 : σ19.1.2.1 (d) (3) = d + 1 := (k19.rj _ (by decide)).trans f351
    have f385 : σ19.2 (d) (4) = -1 := (congrFun (congrFun k19.m _) _).trans f352
    have f386 : σ19.1.1 (d + 3) = some (1, 36) := (congrFun k19.sh _).trans f353
    have f387 : ∀ j, σ19.2 (d + 3) j = 0 := fun j => (congrFun (congrFun k19.m _) _).trans (f354 j)
    have f388 : σ19.1.2.1 (d) (7) = d + 3 := (k19.rj _ (by decide)).trans f355
    have f389 : σ19.1.1 (d + 4) = some (3, 36) := (congrFun k19.sh _).trans f356
    have f390 : ∀ j, σ19.2 (d + 4) j = 0 := fun j => (congrFun (congrFun k19.m _) _).trans (f357 j)
    have f391 : σ19.1.2.1 (d) (8) = d + 4 := (k19.rj _ (by decide)).trans f358
    have f392 : σ19.1.1 (d + 5) = some (1, 2405) := (congrFun k19.sh _).trans f359
    have f393 : ∀ j, σ19.2 (d + 5) j = 0 := fun j => (congrFun (congrFun k19.m _) _).trans (f360 j)
    have f394 : σ19.1.2.1 (d) (9) = d + 5 := (k19.rj _ (by decide)).trans f361
    have f395 : σ19.1.1 (d + 6) = some (2, 600) := (congrFun k19.sh _).trans f362
    have f396 : ∀ j, σ19.2 (d + 6) j = 0 := fun j => (congrFun (congrFun k19.m _) _).trans (f363 j)
    have f397 : σ19.1.2.1 (d) (10) = d + 6 := (k19.rj _ (by decide)).trans f364
    have f398 : σ19.2 (d) (18) = -1 := (congrFun (congrFun k19.m _) _).trans f365
    have f399 : σ19.1.1 (d + 7) = some (3, 36) := (congrFun k19.sh _).trans f366
    have f400 : ∀ j, σ19.2 (d + 7) j = 0 := fun j => (congrFun (congrFun k19.m _) _).trans (f367 j)
    have f401 : σ19.1.2.1 (d) (21) = d + 7 := (k19.rj _ (by decide)).trans f368
    have f402 : σ19.1.2.2 = d + 9 := k19.nx.trans f369
    have f403 : σ19.1.1 (d + 8) = some (1, 4810) := (congrFun k19.sh _).trans f370
    have f404 : ∀ j, σ19.2 (d + 8) j = 0 := fun j => (congrFun (congrFun k19.m _) _).trans (f371 j)
    clear f339 f340 f341 f342 f343 f344 f345 f346 f347 f348 f349 f350 f351 f352 f353 f354 f355 f356 f357 f358 f359 f360 f361 f362 f363 f364 f365 f366 f367 f368 f369 f370 f371
    have f405 : σ19.1.2.1 (d) (22) = d + 8 := k19.at0
    have b19 : BL d σ0 σ19 := BL.tr b18 (BL.pr k19 (Int.le_refl _))
    refine zo_na2 (a := d + 9) (c := d + 10) (by decide) f402 (s_d (by decide)) ?_
    rintro σ20 k20
    have f406 : σ20.1.1 (d) = some (0, 8) := (k20.sh _ (ne_0 (by decide))).trans f372
    have f407 : σ20.2 (d) (0) = 0 := (k20.m _ _ (ne_0 (by decide))).trans f373
    have f408 : σ20.2 (d) (11) = 0 := (k20.m _ _ (ne_0 (by decide))).trans f374
    have f409 : σ20.2 (d) (17) = 0 := (k20.m _ _ (ne_0 (by decide))).trans f375
    have f410 : σ20.2 (d) (25) = 0 := (k20.m _ _ (ne_0 (by decide))).trans f376
    have f411 : σ20.2 (d) (27) = 0 := (k20.m _ _ (ne_0 (by decide))).trans f377
    have f412 : σ20.1.1 (d + 1) = some (1, 2405) := (k20.sh _ (ne_d (by decide))).trans f378
    have f413 : ∀ j, σ20.2 (d + 1) j = 0 := fun j => (k20.m _ _ (ne_d (by decide))).trans (f379 j)
    have f414 : σ20.1.2.1 (d) (1) = d + 1 := (k20.rf _ _ (ne_0 (by decide))).trans f380
    have f415 : σ20.1.1 (d + 2) = some (1, 2405) := (k20.sh _ (ne_d (by decide))).trans f381
    have f416 : ∀ j, σ20.2 (d + 2) j = 0 := fun j => (k20.m _ _ (ne_d (by decide))).trans (f382 j)
    have f417 : σ20.1.2.1 (d) (2) = d + 2 := (k20.rf _ _ (ne_0 (by decide))).trans f383
    have f418 : σ20.1.2.1 (d) (3) = d + 1 := (k20.rf _ _ (ne_0 (by decide))).trans f384
    have f419 : σ20.2 (d) (4) = -1 := (k20.m _ _ (ne_0 (by decide))).trans f385
    have f420 : σ20.1.1 (d + 3) = some (1, 36) := (k20.sh _ (ne_d (by decide))).trans f386
    have f421 : ∀ j, σ20.2 (d + 3) j = 0 := fun j => (k20.m _ _ (ne_d (by decide))).trans (f387 j)
    have f422 : σ20.1.2.1 (d) (7) = d + 3 := (k20.rf _ _ (ne_0 (by decide))).trans f388
    have f423 : σ20.1.1 (d + 4) = some (3, 36) := (k20.sh _ (ne_d (by decide))).trans f389
    have f424 : ∀ j, σ20.2 (d + 4) j = 0 := fun j => (k20.m _ _ (ne_d (by decide))).trans (f390 j)
    have f425 : σ20.1.2.1 (d) (8) = d + 4 := (k20.rf _ _ (ne_0 (by decide))).trans f391
    have f426 : σ20.1.1 (d + 5) = some (1, 2405) := (k20.sh _ (ne_d (by decide))).trans f392
    have f427 : ∀ j, σ20.2 (d + 5) j = 0 := fun j => (k20.m _ _ (ne_d (by decide))).trans (f393 j)
    have f428 : σ20.1.2.1 (d) (9) = d + 5 := (k20.rf _ _ (ne_0 (by decide))).trans f394
    have f429 : σ20.1.1 (d + 6) = some (2, 600) := (k20.sh _ (ne_d (by decide))).trans f395
    have f430 : ∀ j, σ20.2 (d + 6) j = 0 := fun j => (k20.m _ _ (ne_d (by decide))).trans (f396 j)
    have f431 : σ20.1.2.1 (d) (10) = d + 6 := (k20.rf _ _ (ne_0 (by decide))).trans f397
    have f432 : σ20.2 (d) (18) = -1 := (k20.m _ _ (ne_0 (by decide))).trans f398
    have f433 : σ20.1.1 (d + 7) = some (3, 36) := (k20.sh _ (ne_d (by decide))).trans f399
    have f434 : ∀ j, σ20.2 (d + 7) j = 0 := fun j => (k20.m _ _ (ne_d (by decide))).trans (f400 j)
    have f435 : σ20.1.2.1 (d) (21) = d + 7 := (k20.rf _ _ (ne_0 (by decide))).trans f401
    have f436 : σ20.1.1 (d + 8) = some (1, 4810) := (k20.sh _ (ne_d (by decide))).trans f403
    have f437 : ∀ j, σ20.2 (d + 8) j = 0 := fun j => (k20.m _ _ (ne_d (by decide))).trans (f404 j)
    have f438 : σ20.1.2.1 (d) (22) = d + 8 := (k20.rf _ _ (ne_0 (by decide))).trans f405
    clear f372 f373 f374 f375 f376 f377 f378 f379 f380 f381 f382 f383 f384 f385 f386 f387 f388 f389 f390 f391 f392 f393 f394 f395 f396 f397 f398 f399 f400 f401 f402 f403 f404 f405
    have f439 : σ20.1.2.2 = d + 10 := k20.nx
    have f440 : σ20.1.1 (d + 9) = some (3, 2) := k20.sh0
    have f441 : ∀ j, σ20.2 (d + 9) j = 0 := k20.m0
    have b20 : BL d σ0 σ20 := BL.tr b19 (BL.mkn k20 (le_d (by decide)))
    refine zo_pr2 (j := 23) f406 rfl rfl ?_
    rintro σ21 k21
    have f442 : σ21.1.1 (d) = some (0, 8) := (congrFun k21.sh _).trans f406
    have f443 : σ21.2 (d) (0) = 0 := (congrFun (congrFun k21.m _) _).trans f407
    have f444 : σ21.2 (d) (11) = 0 := (congrFun (congrFun k21.m _) _).trans f408
    have f445 : σ21.2 (d) (17) = 0 := (congrFun (congrFun k21.m _) _).trans f409
    have f446 : σ21.2 (d) (25) = 0 := (congrFun (congrFun k21.m _) _).trans f410
    have f447 : σ21.2 (d) (27) = 0 := (congrFun (congrFun k21.m _) _).trans f411
    have f448 : σ21.1.1 (d + 1) = some (1, 2405) := (congrFun k21.sh _).trans f412
    have f449 : ∀ j, σ21.2 (d + 1) j = 0 := fun j => (congrFun (congrFun k21.m _) _).trans (f413 j)
    have f450 : σ21.1.2.1 (d) (1) = d + 1 := (k21.rj _ (by decide)).trans f414
    have f451 : σ21.1.1 (d + 2) = some (1, 2405) := (congrFun k21.sh _).trans f415
    have f452 : ∀ j, σ21.2 (d + 2) j = 0 := fun j => (congrFun (congrFun k21.m _) _).trans (f416 j)
    have f453 : σ21.1.2.1 (d) (2) = d + 2 := (k21.rj _ (by decide)).trans f417
    have f454 : σ21.1.2.1 (d) (3) = d + 1 := (k21.rj _ (by decide)).trans f418
    have f455 : σ21.2 (d) (4) = -1 := (congrFun (congrFun k21.m _) _).trans f419
    have f456 : σ21.1.1 (d + 3) = some (1, 36) := (congrFun k21.sh _).trans f420
    have f457 : ∀ j, σ21.2 (d + 3) j = 0 := fun j => (congrFun (congrFun k21.m _) _).trans (f421 j)
    have f458 : σ21.1.2.1 (d) (7) = d + 3 := (k21.rj _ (by decide)).trans f422
    have f459 : σ21.1.1 (d + 4) = some (3, 36) := (congrFun k21.sh _).trans f423
    have f460 : ∀ j, σ21.2 (d + 4) j = 0 := fun j => (congrFun (congrFun k21.m _) _).trans (f424 j)
    have f461 : σ21.1.2.1 (d) (8) = d + 4 := (k21.rj _ (by decide)).trans f425
    have f462 : σ21.1.1 (d + 5) = some (1, 2405) := (congrFun k21.sh _).trans f426
    have f463 : ∀ j, σ21.2 (d + 5) j = 0 := fun j => (congrFun (congrFun k21.m _) _).trans (f427 j)
    have f464 : σ21.1.2.1 (d) (9) = d + 5 := (k21.rj _ (by decide)).trans f428
    have f465 : σ21.1.1 (d + 6) = some (2, 600) := (congrFun k21.sh _).trans f429
    have f466 : ∀ j, σ21.2 (d + 6) j = 0 := fun j => (congrFun (congrFun k21.m _) _).trans (f430 j)
    have f467 : σ21.1.2.1 (d) (10) = d + 6 := (k21.rj _ (by decide)).trans f431
    have f468 : σ21.2 (d) (18) = -1 := (congrFun (congrFun k21.m _) _).trans f432
    have f469 : σ21.1.1 (d + 7) = some (3, 36) := (congrFun k21.sh _).trans f433
    have f470 : ∀ j, σ21.2 (d + 7) j = 0 := fun j => (congrFun (congrFun k21.m _) _).trans (f434 j)
    have f471 : σ21.1.2.1 (d) (21) = d + 7 := (k21.rj _ (by decide)).trans f435
    have f472 : σ21.1.1 (d + 8) = some (1, 4810) := (congrFun k21.sh _).trans f436
    have f473 : ∀ j, σ21.2 (d + 8) j = 0 := fun j => (congrFun (congrFun k21.m _) _).trans (f437 j)
    have f474 : σ21.1.2.1 (d) (22) = d + 8 := (k21.rj _ (by decide)).trans f438
    have f475 : σ21.1.2.2 = d + 10 := k21.nx.trans f439
    have f476 : σ21.1.1 (d + 9) = some (3, 2) := (congrFun k21.sh _).trans f440
    have f477 : ∀ j, σ21.2 (d + 9) j = 0 := fun j => (congrFun (congrFun k21.m _) _).trans (f441 j)
    clear f406 f407 f408 f409 f410 f411 f412 f413 f414 f415 f416 f417 f418 f419 f420 f421 f422 f423 f424 f425 f426 f427 f428 f429 f430 f431 f432 f433 f434 f435 f436 f437 f438 f439 f440 f441
    have f478 : σ21.1.2.1 (d) (23) = d + 9 := k21.at0
    have b21 : BL d σ0 σ21 := BL.tr b20 (BL.pr k21 (Int.le_refl _))
    refine zo_na2 (a := d + 10) (c := d + 11) (by decide) f475 (s_d (by decide)) ?_
    rintro σ22 k22
    have f479 : σ22.1.1 (d) = some (0, 8) := (k22.sh _ (ne_0 (by decide))).trans f442
    have f480 : σ22.2 (d) (0) = 0 := (k22.m _ _ (ne_0 (by decide))).trans f443
    have f481 : σ22.2 (d) (11) = 0 := (k22.m _ _ (ne_0 (by decide))).trans f444
    have f482 : σ22.2 (d) (17) = 0 := (k22.m _ _ (ne_0 (by decide))).trans f445
    have f483 : σ22.2 (d) (25) = 0 := (k22.m _ _ (ne_0 (by decide))).trans f446
    have f484 : σ22.2 (d) (27) = 0 := (k22.m _ _ (ne_0 (by decide))).trans f447
    have f485 : σ22.1.1 (d + 1) = some (1, 2405) := (k22.sh _ (ne_d (by decide))).trans f448
    have f486 : ∀ j, σ22.2 (d + 1) j = 0 := fun j => (k22.m _ _ (ne_d (by decide))).trans (f449 j)
    have f487 : σ22.1.2.1 (d) (1) = d + 1 := (k22.rf _ _ (ne_0 (by decide))).trans f450
    have f488 : σ22.1.1 (d + 2) = some (1, 2405) := (k22.sh _ (ne_d (by decide))).trans f451
    have f489 : ∀ j, σ22.2 (d + 2) j = 0 := fun j => (k22.m _ _ (ne_d (by decide))).trans (f452 j)
    have f490 : σ22.1.2.1 (d) (2) = d + 2 := (k22.rf _ _ (ne_0 (by decide))).trans f453
    have f491 : σ22.1.2.1 (d) (3) = d + 1 := (k22.rf _ _ (ne_0 (by decide))).trans f454
    have f492 : σ22.2 (d) (4) = -1 := (k22.m _ _ (ne_0 (by decide))).trans f455
    have f493 : σ22.1.1 (d + 3) = some (1, 36) := (k22.sh _ (ne_d (by decide))).trans f456
    have f494 : ∀ j, σ22.2 (d + 3) j = 0 := fun j => (k22.m _ _ (ne_d (by decide))).trans (f457 j)
    have f495 : σ22.1.2.1 (d) (7) = d + 3 := (k22.rf _ _ (ne_0 (by decide))).trans f458
    have f496 : σ22.1.1 (d + 4) = some (3, 36) := (k22.sh _ (ne_d (by decide))).trans f459
    have f497 : ∀ j, σ22.2 (d + 4) j = 0 := fun j => (k22.m _ _ (ne_d (by decide))).trans (f460 j)
    have f498 : σ22.1.2.1 (d) (8) = d + 4 := (k22.rf _ _ (ne_0 (by decide))).trans f461
    have f499 : σ22.1.1 (d + 5) = some (1, 2405) := (k22.sh _ (ne_d (by decide))).trans f462
    have f500 : ∀ j, σ22.2 (d + 5) j = 0 := fun j => (k22.m _ _ (ne_d (by decide))).trans (f463 j)
    have f501 : σ22.1.2.1 (d) (9) = d + 5 := (k22.rf _ _ (ne_0 (by decide))).trans f464
    have f502 : σ22.1.1 (d + 6) = some (2, 600) := (k22.sh _ (ne_d (by decide))).trans f465
    have f503 : ∀ j, σ22.2 (d + 6) j = 0 := fun j => (k22.m _ _ (ne_d (by decide))).trans (f466 j)
    have f504 : σ22.1.2.1 (d) (10) = d + 6 := (k22.rf _ _ (ne_0 (by decide))).trans f467
    have f505 : σ22.2 (d) (18) = -1 := (k22.m _ _ (ne_0 (by decide))).trans f468
    have f506 : σ22.1.1 (d + 7) = some (3, 36) := (k22.sh _ (ne_d (by decide))).trans f469
    have f507 : ∀ j, σ22.2 (d + 7) j = 0 := fun j => (k22.m _ _ (ne_d (by decide))).trans (f470 j)
    have f508 : σ22.1.2.1 (d) (21) = d + 7 := (k22.rf _ _ (ne_0 (by decide))).trans f471
    have f509 : σ22.1.1 (d + 8) = some (1, 4810) := (k22.sh _ (ne_d (by decide))).trans f472
    have f510 : ∀ j, σ22.2 (d + 8) j = 0 := fun j => (k22.m _ _ (ne_d (by decide))).trans (f473 j)
    have f511 : σ22.1.2.1 (d) (22) = d + 8 := (k22.rf _ _ (ne_0 (by decide))).trans f474
    have f512 : σ22.1.1 (d + 9) = some (3, 2) := (k22.sh _ (ne_d (by decide))).trans f476
    have f513 : ∀ j, σ22.2 (d + 9) j = 0 := fun j => (k22.m _ _ (ne_d (by decide))).trans (f477 j)
    have f514 : σ22.1.2.1 (d) (23) = d + 9 := (k22.rf _ _ (ne_0 (by decide))).trans f478
    clear f442 f443 f444 f445 f446 f447 f448 f449 f450 f451 f452 f453 f454 f455 f456 f457 f458 f459 f460 f461 f462 f463 f464 f465 f466 f467 f468 f469 f470 f471 f472 f473 f474 f475 f476 f477 f478
    have f515 : σ22.1.2.2 = d + 11 := k22.nx
    have f516 : σ22.1.1 (d + 10) = some (1, 14430) := k22.sh0
    have f517 : ∀ j, σ22.2 (d + 10) j = 0 := k22.m0
    have b22 : BL d σ0 σ22 := BL.tr b21 (BL.mkn k22 (le_d (by decide)))
    refine zo_pr2 (j := 24) f479 rfl rfl ?_
    rintro σ23 k23
    have f518 : σ23.1.1 (d) = some (0, 8) := (congrFun k23.sh _).trans f479
    have f519 : σ23.2 (d) (0) = 0 := (congrFun (congrFun k23.m _) _).trans f480
    have f520 : σ23.2 (d) (11) = 0 := (congrFun (congrFun k23.m _) _).trans f481
    have f521 : σ23.2 (d) (17) = 0 := (congrFun (congrFun k23.m _) _).trans f482
    have f522 : σ23.2 (d) (25) = 0 := (congrFun (congrFun k23.m _) _).trans f483
    have f523 : σ23.2 (d) (27) = 0 := (congrFun (congrFun k23.m _) _).trans f484
    have f524 : σ23.1.1 (d + 1) = some (1, 2405) := (congrFun k23.sh _).trans f485
    have f525 : ∀ j, σ23.2 (d + 1) j = 0 := fun j => (congrFun (congrFun k23.m _) _).trans (f486 j)
    have f526 : σ23.1.2.1 (d) (1) = d + 1 := (k23.rj _ (by decide)).trans f487
    have f527 : σ23.1.1 (d + 2) = some (1, 2405) := (congrFun k23.sh _).trans f488
    have f528 : ∀ j, σ23.2 (d + 2) j = 0 := fun j => (congrFun (congrFun k23.m _) _).trans (f489 j)
    have f529 : σ23.1.2.1 (d) (2) = d + 2 := (k23.rj _ (by decide)).trans f490
    have f530 : σ23.1.2.1 (d) (3) = d + 1 := (k23.rj _ (by decide)).trans f491
    have f531 : σ23.2 (d) (4) = -1 := (congrFun (congrFun k23.m _) _).trans f492
    have f532 : σ23.1.1 (d + 3) = some (1, 36) := (congrFun k23.sh _).trans f493
    have f533 : ∀ j, σ23.2 (d + 3) j = 0 := fun j => (congrFun (congrFun k23.m _) _).trans (f494 j)
    have f534 : σ23.1.2.1 (d) (7) = d + 3 := (k23.rj _ (by decide)).trans f495
    have f535 : σ23.1.1 (d + 4) = some (3, 36) := (congrFun k23.sh _).trans f496
    have f536 : ∀ j, σ23.2 (d + 4) j = 0 := fun j => (congrFun (congrFun k23.m _) _).trans (f497 j)
    have f537 : σ23.1.2.1 (d) (8) = d + 4 := (k23.rj _ (by decide)).trans f498
    have f538 : σ23.1.1 (d + 5) = some (1, 2405) := (congrFun k23.sh _).trans f499
    have f539 : ∀ j, σ23.2 (d + 5) j = 0 := fun j => (congrFun (congrFun k23.m _) _).trans (f500 j)
    have f540 : σ23.1.2.1 (d) (9) = d + 5 := (k23.rj _ (by decide)).trans f501
    have f541 : σ23.1.1 (d + 6) = some (2, 600) := (congrFun k23.sh _).trans f502
    have f542 : ∀ j, σ23.2 (d + 6) j = 0 := fun j => (congrFun (congrFun k23.m _) _).trans (f503 j)
    have f543 : σ23.1.2.1 (d) (10) = d + 6 := (k23.rj _ (by decide)).trans f504
    have f544 : σ23.2 (d) (18) = -1 := (congrFun (congrFun k23.m _) _).trans f505
    have f545 : σ23.1.1 (d + 7) = some (3, 36) := (congrFun k23.sh _).trans f506
    have f546 : ∀ j, σ23.2 (d + 7) j = 0 := fun j => (congrFun (congrFun k23.m _) _).trans (f507 j)
    have f547 : σ23.1.2.1 (d) (21) = d + 7 := (k23.rj _ (by decide)).trans f508
    have f548 : σ23.1.1 (d + 8) = some (1, 4810) := (congrFun k23.sh _).trans f509
    have f549 : ∀ j, σ23.2 (d + 8) j = 0 := fun j => (congrFun (congrFun k23.m _) _).trans (f510 j)
    have f550 : σ23.1.2.1 (d) (22) = d + 8 := (k23.rj _ (by decide)).trans f511
    have f551 : σ23.1.1 (d + 9) = some (3, 2) := (congrFun k23.sh _).trans f512
    have f552 : ∀ j, σ23.2 (d + 9) j = 0 := fun j => (congrFun (congrFun k23.m _) _).trans (f513 j)
    have f553 : σ23.1.2.1 (d) (23) = d + 9 := (k23.rj _ (by decide)).trans f514
    have f554 : σ23.1.2.2 = d + 11 := k23.nx.trans f515
    have f555 : σ23.1.1 (d + 10) = some (1, 14430) := (congrFun k23.sh _).trans f516
    have f556 : ∀ j, σ23.2 (d + 10) j = 0 := fun j => (congrFun (congrFun k23.m _) _).trans (f517 j)
    clear f479 f480 f481 f482 f483 f484 f485 f486 f487 f488 f489 f490 f491 f492 f493 f494 f495 f496 f497 f498 f499 f500 f501 f502 f503 f504 f505 f506 f507 f508 f509 f510 f511 f512 f513 f514 f515 f516 f517
    have f557 : σ23.1.2.1 (d) (24) = d + 10 := k23.at0
    have b23 : BL d σ0 σ23 := BL.tr b22 (BL.pr k23 (Int.le_refl _))
    refine zo_na2 (a := d + 11) (c := d + 12) (by decide) f554 (s_d (by decide)) ?_
    rintro σ24 k24
    have f558 : σ24.1.1 (d) = some (0, 8) := (k24.sh _ (ne_0 (by decide))).trans f518
    have f559 : σ24.2 (d) (0) = 0 := (k24.m _ _ (ne_0 (by decide))).trans f519
    have f560 : σ24.2 (d) (11) = 0 := (k24.m _ _ (ne_0 (by decide))).trans f520
    have f561 : σ24.2 (d) (17) = 0 := (k24.m _ _ (ne_0 (by decide))).trans f521
    have f562 : σ24.2 (d) (25) = 0 := (k24.m _ _ (ne_0 (by decide))).trans f522
    have f563 : σ24.2 (d) (27) = 0 := (k24.m _ _ (ne_0 (by decide))).trans f523
    have f564 : σ24.1.1 (d + 1) = some (1, 2405) := (k24.sh _ (ne_d (by decide))).trans f524
    have f565 : ∀ j, σ24.2 (d + 1) j = 0 := fun j => (k24.m _ _ (ne_d (by decide))).trans (f525 j)
    have f566 : σ24.1.2.1 (d) (1) = d + 1 := (k24.rf _ _ (ne_0 (by decide))).trans f526
    have f567 : σ24.1.1 (d + 2) = some (1, 2405) := (k24.sh _ (ne_d (by decide))).trans f527
    have f568 : ∀ j, σ24.2 (d + 2) j = 0 := fun j => (k24.m _ _ (ne_d (by decide))).trans (f528 j)
    have f569 : σ24.1.2.1 (d) (2) = d + 2 := (k24.rf _ _ (ne_0 (by decide))).trans f529
    have f570 : σ24.1.2.1 (d) (3) = d + 1 := (k24.rf _ _ (ne_0 (by decide))).trans f530
    have f571 : σ24.2 (d) (4) = -1 := (k24.m _ _ (ne_0 (by decide))).trans f531
    have f572 : σ24.1.1 (d + 3) = some (1, 36) := (k24.sh _ (ne_d (by decide))).trans f532
    have f573 : ∀ j, σ24.2 (d + 3) j = 0 := fun j => (k24.m _ _ (ne_d (by decide))).trans (f533 j)
    have f574 : σ24.1.2.1 (d) (7) = d + 3 := (k24.rf _ _ (ne_0 (by decide))).trans f534
    have f575 : σ24.1.1 (d + 4) = some (3, 36) := (k24.sh _ (ne_d (by decide))).trans f535
    have f576 : ∀ j, σ24.2 (d + 4) j = 0 := fun j => (k24.m _ _ (ne_d (by decide))).trans (f536 j)
    have f577 : σ24.1.2.1 (d) (8) = d + 4 := (k24.rf _ _ (ne_0 (by decide))).trans f537
    have f578 : σ24.1.1 (d + 5) = some (1, 2405) := (k24.sh _ (ne_d (by decide))).trans f538
    have f579 : ∀ j, σ24.2 (d + 5) j = 0 := fun j => (k24.m _ _ (ne_d (by decide))).trans (f539 j)
    have f580 : σ24.1.2.1 (d) (9) = d + 5 := (k24.rf _ _ (ne_0 (by decide))).trans f540
    have f581 : σ24.1.1 (d + 6) = some (2, 600) := (k24.sh _ (ne_d (by decide))).trans f541
    have f582 : ∀ j, σ24.2 (d + 6) j = 0 := fun j => (k24.m _ _ (ne_d (by decide))).trans (f542 j)
    have f583 : σ24.1.2.1 (d) (10) = d + 6 := (k24.rf _ _ (ne_0 (by decide))).trans f543
    have f584 : σ24.2 (d) (18) = -1 := (k24.m _ _ (ne_0 (by decide))).trans f544
    have f585 : σ24.1.1 (d + 7) = some (3, 36) := (k24.sh _ (ne_d (by decide))).trans f545
    have f586 : ∀ j, σ24.2 (d + 7) j = 0 := fun j => (k24.m _ _ (ne_d (by decide))).trans (f546 j)
    have f587 : σ24.1.2.1 (d) (21) = d + 7 := (k24.rf _ _ (ne_0 (by decide))).trans f547
    have f588 : σ24.1.1 (d + 8) = some (1, 4810) := (k24.sh _ (ne_d (by decide))).trans f548
    have f589 : ∀ j, σ24.2 (d + 8) j = 0 := fun j => (k24.m _ _ (ne_d (by decide))).trans (f549 j)
    have f590 : σ24.1.2.1 (d) (22) = d + 8 := (k24.rf _ _ (ne_0 (by decide))).trans f550
    have f591 : σ24.1.1 (d + 9) = some (3, 2) := (k24.sh _ (ne_d (by decide))).trans f551
    have f592 : ∀ j, σ24.2 (d + 9) j = 0 := fun j => (k24.m _ _ (ne_d (by decide))).trans (f552 j)
    have f593 : σ24.1.2.1 (d) (23) = d + 9 := (k24.rf _ _ (ne_0 (by decide))).trans f553
    have f594 : σ24.1.1 (d + 10) = some (1, 14430) := (k24.sh _ (ne_d (by decide))).trans f555
    have f595 : ∀ j, σ24.2 (d + 10) j = 0 := fun j => (k24.m _ _ (ne_d (by decide))).trans (f556 j)
    have f596 : σ24.1.2.1 (d) (24) = d + 10 := (k24.rf _ _ (ne_0 (by decide))).trans f557
    clear f518 f519 f520 f521 f522 f523 f524 f525 f526 f527 f528 f529 f530 f531 f532 f533 f534 f535 f536 f537 f538 f539 f540 f541 f542 f543 f544 f545 f546 f547 f548 f549 f550 f551 f552 f553 f554 f555 f556 f557
    have f597 : σ24.1.2.2 = d + 12 := k24.nx
    have f598 : σ24.1.1 (d + 11) = some (2, 1800) := k24.sh0
    have f599 : ∀ j, σ24.2 (d + 11) j = 0 := k24.m0
    have b24 : BL d σ0 σ24 := BL.tr b23 (BL.mkn k24 (le_d (by decide)))
    refine zo_pr2 (j := 26) f558 rfl rfl ?_
    rintro σ25 k25
    have f600 : σ25.1.1 (d) = some (0, 8) := (congrFun k25.sh _).trans f558
    have f601 : σ25.2 (d) (0) = 0 := (congrFun (congrFun k25.m _) _).trans f559
    have f602 : σ25.2 (d) (11) = 0 := (congrFun (congrFun k25.m _) _).trans f560
    have f603 : σ25.2 (d) (17) = 0 := (congrFun (congrFun k25.m _) _).trans f561
    have f604 : σ25.2 (d) (25) = 0 := (congrFun (congrFun k25.m _) _).trans f562
    have f605 : σ25.2 (d) (27) = 0 := (congrFun (congrFun k25.m _) _).trans f563
    have f606 : σ25.1.1 (d + 1) = some (1, 2405) := (congrFun k25.sh _).trans f564
    have f607 : ∀ j, σ25.2 (d + 1) j = 0 := fun j => (congrFun (congrFun k25.m _) _).trans (f565 j)
    have f608 : σ25.1.2.1 (d) (1) = d + 1 := (k25.rj _ (by decide)).trans f566
    have f609 : σ25.1.1 (d + 2) = some (1, 2405) := (congrFun k25.sh _).trans f567
    have f610 : ∀ j, σ25.2 (d + 2) j = 0 := fun j => (congrFun (congrFun k25.m _) _).trans (f568 j)
    have f611 : σ25.1.2.1 (d) (2) = d + 2 := (k25.rj _ (by decide)).trans f569
    have f612 : σ25.1.2.1 (d) (3) = d + 1 := (k25.rj _ (by decide)).trans f570
    have f613 : σ25.2 (d) (4) = -1 := (congrFun (congrFun k25.m _) _).trans f571
    have f614 : σ25.1.1 (d + 3) = some (1, 36) := (congrFun k25.sh _).trans f572
    have f615 : ∀ j, σ25.2 (d + 3) j = 0 := fun j => (congrFun (congrFun k25.m _) _).trans (f573 j)
    have f616 : σ25.1.2.1 (d) (7) = d + 3 := (k25.rj _ (by decide)).trans f574
    have f617 : σ25.1.1 (d + 4) = some (3, 36) := (congrFun k25.sh _).trans f575
    have f618 : ∀ j, σ25.2 (d + 4) j = 0 := fun j => (congrFun (congrFun k25.m _) _).trans (f576 j)
    have f619 : σ25.1.2.1 (d) (8) = d + 4 := (k25.rj _ (by decide)).trans f577
    have f620 : σ25.1.1 (d + 5) = some (1, 2405) := (congrFun k25.sh _).trans f578
    have f621 : ∀ j, σ25.2 (d + 5) j = 0 := fun j => (congrFun (congrFun k25.m _) _).trans (f579 j)
    have f622 : σ25.1.2.1 (d) (9) = d + 5 := (k25.rj _ (by decide)).trans f580
    have f623 : σ25.1.1 (d + 6) = some (2, 600) := (congrFun k25.sh _).trans f581
    have f624 : ∀ j, σ25.2 (d + 6) j = 0 := fun j => (congrFun (congrFun k25.m _) _).trans (f582 j)
    have f625 : σ25.1.2.1 (d) (10) = d + 6 := (k25.rj _ (by decide)).trans f583
    have f626 : σ25.2 (d) (18) = -1 := (congrFun (congrFun k25.m _) _).trans f584
    have f627 : σ25.1.1 (d + 7) = some (3, 36) := (congrFun k25.sh _).trans f585
    have f628 : ∀ j, σ25.2 (d + 7) j = 0 := fun j => (congrFun (congrFun k25.m _) _).trans (f586 j)
    have f629 : σ25.1.2.1 (d) (21) = d + 7 := (k25.rj _ (by decide)).trans f587
    have f630 : σ25.1.1 (d + 8) = some (1, 4810) := (congrFun k25.sh _).trans f588
    have f631 : ∀ j, σ25.2 (d + 8) j = 0 := fun j => (congrFun (congrFun k25.m _) _).trans (f589 j)
    have f632 : σ25.1.2.1 (d) (22) = d + 8 := (k25.rj _ (by decide)).trans f590
    have f633 : σ25.1.1 (d + 9) = some (3, 2) := (congrFun k25.sh _).trans f591
    have f634 : ∀ j, σ25.2 (d + 9) j = 0 := fun j => (congrFun (congrFun k25.m _) _).trans (f592 j)
    have f635 : σ25.1.2.1 (d) (23) = d + 9 := (k25.rj _ (by decide)).trans f593
    have f636 : σ25.1.1 (d + 10) = some (1, 14430) := (congrFun k25.sh _).trans f594
    have f637 : ∀ j, σ25.2 (d + 10) j = 0 := fun j => (congrFun (congrFun k25.m _) _).trans (f595 j)
    have f638 : σ25.1.2.1 (d) (24) = d + 10 := (k25.rj _ (by decide)).trans f596
    have f639 : σ25.1.2.2 = d + 12 := k25.nx.trans f597
    have f640 : σ25.1.1 (d + 11) = some (2, 1800) := (congrFun k25.sh _).trans f598
    have f641 : ∀ j, σ25.2 (d + 11) j = 0 := fun j => (congrFun (congrFun k25.m _) _).trans (f599 j)
    clear f558 f559 f560 f561 f562 f563 f564 f565 f566 f567 f568 f569 f570 f571 f572 f573 f574 f575 f576 f577 f578 f579 f580 f581 f582 f583 f584 f585 f586 f587 f588 f589 f590 f591 f592 f593 f594 f595 f596 f597 f598 f599
    have f642 : σ25.1.2.1 (d) (26) = d + 11 := k25.at0
    have b25 : BL d σ0 σ25 := BL.tr b24 (BL.pr k25 (Int.le_refl _))
    refine zo_gr2 f600 f608 rfl rfl ?_
    obtain ⟨S, μ⟩ := σ25
    have H : MSh S d (d + 1) := MSh.mk ⟨f600, hd, f608, f611, f612, f616, f619, f622, f625, f629, f632, f635, f638, f642, Or.inl rfl, f606, f609, f614, f617, f620, f623, f627, f630, f633, f636, f640⟩
    obtain ⟨μ1, e1, z1, f1⟩ := b_clear (μ := μ) H.a1
    refine zo_bn e1 ?_
    have d0 : D8 (μ1 (d + 1)) (zD0.wru (fun _ => 0)) := d8_0 z1
    refine zo_gr H.o H.r1 rfl rfl ?_
    refine zo_si H.a1 (by decide) ?_
    obtain ⟨ν0, hν0⟩ : ∃ ν, ν = zup μ1 (d + 1) 3 1 := ⟨_, rfl⟩
    rw [← hν0]
    refine zo_gr H.o H.r1 rfl rfl ?_
    refine zo_si H.a1 (by decide) ?_
    obtain ⟨ν1, hν1⟩ : ∃ ν, ν = zup ν0 (d + 1) 4 2 := ⟨_, rfl⟩
    rw [← hν1]
    refine zo_gr H.o H.r1 rfl rfl ?_
    refine zo_si H.a1 (by decide) ?_
    obtain ⟨ν2, hν2⟩ : ∃ ν, ν = zup ν1 (d + 1) 5 3 := ⟨_, rfl⟩
    rw [← hν2]
    refine zo_gr H.o H.r1 rfl rfl ?_
    refine zo_si H.a1 (by decide) ?_
    obtain ⟨ν3, hν3⟩ : ∃ ν, ν = zup ν2 (d + 1) 6 50 := ⟨_, rfl⟩
    rw [← hν3]
    refine zo_gr H.o H.r1 rfl rfl ?_
    refine zo_si H.a1 (by decide) ?_
    obtain ⟨ν4, hν4⟩ : ∃ ν, ν = zup ν3 (d + 1) 7 2 := ⟨_, rfl⟩
    rw [← hν4]
    have fn : ∀ y, y ≠ d + 1 → ν4 y = μ y := fun y hy => by rw [hν4, zup_c hy, hν3, zup_c hy, hν2, zup_c hy, hν1, zup_c hy, hν0, zup_c hy]; exact f1 y hy
    have d1 : D8 (ν0 (d + 1)) (zD0.wru (zup1 (fun _ => (0 : Int)) 0 1)) := by
      rw [hν0, zup_fn]
      exact d0.setRu (i := 0) (v := 1) (by decide)
    have d2 : D8 (ν1 (d + 1)) (zD0.wru (zup1 (zup1 (fun _ => (0 : Int)) 0 1) 1 2)) := by
      rw [hν1, zup_fn]
      exact d1.setRu (i := 1) (v := 2) (by decide)
    have d3 : D8 (ν2 (d + 1)) (zD0.wru (zup1 (zup1 (zup1 (fun _ => (0 : Int)) 0 1) 1 2) 2 3)) := by
      rw [hν2, zup_fn]
      exact d2.setRu (i := 2) (v := 3) (by decide)
    have d4 : D8 (ν3 (d + 1)) (zD0.wru (zup1 (zup1 (zup1 (zup1 (fun _ => (0 : Int)) 0 1) 1 2) 2 3) 3 50)) := by
      rw [hν3, zup_fn]
      exact d3.setRu (i := 3) (v := 50) (by decide)
    have d5 : D8 (ν4 (d + 1)) (zD0.wru (zup1 (zup1 (zup1 (zup1 (zup1 (fun _ => (0 : Int)) 0 1) 1 2) 2 3) 3 50) 4 2)) := by
      rw [hν4, zup_fn]
      exact d4.setRu (i := 4) (v := 2) (by decide)
    have dd : D8 (ν4 (d + 1)) zD0 := d5.ruC (f' := zsv 2) (fun i h1 h2 => by
      have hc : i = 0 ∨ i = 1 ∨ i = 2 ∨ i = 3 ∨ i = 4 := by clear f600 f601 f602 f603 f604 f605 f606 f607 f608 f609 f610 f611 f612 f613 f614 f615 f616 f617 f618 f619 f620 f621 f622 f623 f624 f625 f626 f627 f628 f629 f630 f631 f632 f633 f634 f635 f636 f637 f638 f639 f640 f641 f642; omega
      rcases hc with e | e | e | e | e <;> subst e <;> rfl)
    refine zo_rt ⟨(S, ν4), rfl, ⟨H, dd, (congrFun (fn d (ne_0 (by decide))) 4).trans f613, (congrFun (fn d (ne_0 (by decide))) 11).trans f602, (congrFun (fn d (ne_0 (by decide))) 17).trans f603, (congrFun (fn d (ne_0 (by decide))) 18).trans f626, (congrFun (fn d (ne_0 (by decide))) 25).trans f604, (congrFun (fn d (ne_0 (by decide))) 27).trans f605, fun j => ?_⟩, f639, BL.tr b25 (BL.mk ⟨fun _ _ => rfl, fun _ _ _ => rfl, fun b j hb => congrFun (fn b (lt_ne1 hb)) j⟩)⟩
    exact (congrFun (fn (d + 9) (ne_d (by decide))) j).trans (f634 j)
  obtain ⟨r, e, σ', hr, h⟩ := main
  exact ⟨σ', by rw [e, hr], h⟩
/-- both, and the law's two arrays: the first world -/
theorem wd_first {σ1 σ2 σ3 σ4 : zS} (h0 : 0 ≤ x) (h : IX σ1 x) (b2 : BL (x + 66) σ1 σ2) (hm : MSh σ2.1 (x + 66) (x + 66 + 1) ∧ D8 (σ2.2 (x + 66 + 1)) zD0 ∧ σ2.2 (x + 66) 4 = -1 ∧ σ2.2 (x + 66) 11 = 0 ∧ σ2.2 (x + 66) 17 = 0 ∧ σ2.2 (x + 66) 18 = -1 ∧ σ2.2 (x + 66) 25 = 0 ∧ σ2.2 (x + 66) 27 = 0 ∧ ∀ j, σ2.2 (x + 66 + 9) j = 0)
    (k3 : MkN (x + 78) (x + 79) σ2 (4, 1) σ3) (k4 : MkN (x + 79) (x + 80) σ3 (5, 1) σ4) : Wd 0 x σ4.1 σ4.2 zD0 [] (fun _ => none) [] [] 0 (-1) := by
  obtain ⟨g1, g2, g3, g4, g5, g6, g7, g8, g9⟩ := hm
  have q2 : KP x (x + 66) σ1 σ2 := b2.kp (Int.le_refl _)
  have q3 : KP x (x + 78) σ2 σ3 := (BL.mkn (d := x + 78) k3 (Int.le_refl _)).kp (Int.le_refl _)
  have q4 : KP x (x + 79) σ3 σ4 := (BL.mkn (d := x + 79) k4 (Int.le_refl _)).kp (Int.le_refl _)
  have Q : KP x (x + 66) σ1 σ4 := KP.tr q2 (KP.tr (q3.sub (Int.le_refl _) (by omega)) (q4.sub (Int.le_refl _) (by omega)))
  have R : KP (x + 66) (x + 78) σ2 σ4 := KP.tr (q3.sub (by omega) (Int.le_refl _)) (q4.sub (by omega) (by omega))
  have nx : σ4.1.2.2 = x + 80 := k4.nx
  have hr : HR7 σ4.1 σ4.2 x (x + 80) (fun _ => -1) [] (fun _ => none) := by
    refine HR7.mk ⟨Pool.mk ⟨⟨by omega, by omega⟩, fun i hi => Or.inl rfl, fun i j h1 h2 h3 => Or.inl rfl⟩, by omega, Q.sh h.h0 (by omega) (by omega), Q.ref h.h1 (by omega) (by omega), Q.sh h.h2 (by omega) (by omega), Q.sh h.k0 (by omega) (by omega), fun i hi => Q.ref (h.h3 i) (by omega) (by omega), fun i hi => Q.ref (h.k1 i) (by omega) (by omega), by decide, Q.mem h.h4 (by omega) (by omega), fun i X hX => absurd hX (by simp), fun i hi hk => rfl, fun i X hi hk => absurd hk (by simp)⟩
  have C : CB σ4.1 x := h.C.keep (fun y h1 h2 => (Q y (by omega) (by omega)).1) (fun y j h1 h2 => (Q y (by omega) (by omega)).2.1 j)
  have E : D7 σ4.1 σ4.2 (x + 37) zD0 := Q.d7 h.E (by omega) (by omega)
  have a : W7 σ4.1 σ4.2 x zD0 [] (fun _ => none) [] [] 0 (-1) := by
    refine W7.mk ⟨C, Q.d7 h.D (by omega) (by omega), E.sh, E.em37, ⟨_, hr⟩, Q.bsh h.B1 (by omega) (by omega), LBy.mk ⟨Q.mem h.z1 (by omega) (by omega), fun k y hk => absurd hk (by simp), fun y hy => absurd hy (by simp)⟩, Q.bsh h.B2 (by omega) (by omega), LBy.mk ⟨Q.mem h.z2 (by omega) (by omega), fun k y hk => absurd hk (by simp), fun y hy => absurd hy (by simp)⟩, Q.sh h.p0 (by omega) (by omega), Q.ref h.p1 (by omega) (by omega), Q.ref h.p2 (by omega) (by omega), Q.mem h.p3 (by omega) (by omega), Q.mem h.p4 (by omega) (by omega), by decide, by decide, fun y hy => absurd hy (by simp)⟩
  have Hm : MSh σ4.1 (x + 66) (x + 66 + 1) := by
    obtain ⟨c1, c2, c3, c4, c5, c6, c7, c8, c9, c10, c11, c12, c13, c14, c15, c16, c17, c18, c19, c20, c21, c22, c23, c24, c25, c26⟩ := g1
    exact MSh.mk ⟨R.sh c1 (by omega) (by omega), c2, R.ref c3 (by omega) (by omega), R.ref c4 (by omega) (by omega), R.ref c5 (by omega) (by omega), R.ref c6 (by omega) (by omega), R.ref c7 (by omega) (by omega), R.ref c8 (by omega) (by omega), R.ref c9 (by omega) (by omega), R.ref c10 (by omega) (by omega), R.ref c11 (by omega) (by omega), R.ref c12 (by omega) (by omega), R.ref c13 (by omega) (by omega), R.ref c14 (by omega) (by omega), c15, R.sh c16 (by omega) (by omega), R.sh c17 (by omega) (by omega), R.sh c18 (by omega) (by omega), R.sh c19 (by omega) (by omega), R.sh c20 (by omega) (by omega), R.sh c21 (by omega) (by omega), R.sh c22 (by omega) (by omega), R.sh c23 (by omega) (by omega), R.sh c24 (by omega) (by omega), R.sh c25 (by omega) (by omega), R.sh c26 (by omega) (by omega)⟩
  have b : W8 σ4.1 σ4.2 (x + 66) zD0 [] (fun _ => none) [] [] 0 (-1) := by
    refine W8.mk ⟨Hm, by rw [(R (x + 66 + 1) (by omega) (by omega)).2.2]; exact g2, HRel.mk ⟨by decide, R.mem g7 (by omega) (by omega), fun i X hX => absurd hX (by simp)⟩, fun i hi hk => R.mem (g9 i) (by omega) (by omega), fun i X hi hk => absurd hk (by simp), LBy.mk ⟨R.mem g4 (by omega) (by omega), fun k y hk => absurd hk (by simp), fun y hy => absurd hy (by simp)⟩, LBy.mk ⟨R.mem g8 (by omega) (by omega), fun k y hk => absurd hk (by simp), fun y hy => absurd hy (by simp)⟩, R.mem g3 (by omega) (by omega), R.mem g5 (by omega) (by omega), R.mem g6 (by omega) (by omega)⟩
  have w : WB 0 zD0 [] (fun _ => none) := WB.mk ⟨wf0 (by decide) (by decide), fun X hX => absurd hX (by simp), fun i X hi hk => absurd hk (by simp)⟩
  exact Wd.mk ⟨a, b, w, WO.mk ⟨h0, by omega, (q4.sub (c := x + 78) (d := x + 79) (by omega) (by omega)).sh k3.sh0 (by omega) (by omega), k4.sh0⟩⟩
end C84
