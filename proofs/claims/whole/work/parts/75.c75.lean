/-! C 75: writing beliefs and reports -/
/-- what has been written, at most n bytes -/
def OB (μ : zM) (b i a : Int) (l : List Int) (n : Nat) : Prop := (LBy μ l b i a) ∧ (l.length ≤ n) ∧ (∀ y, y ∈ l → 0 ≤ y)
theorem OB.mk {μ : zM} {b i a : Int} {l : List Int} {n : Nat} (h : (LBy μ l b i a) ∧ (l.length ≤ n) ∧ (∀ y, y ∈ l → 0 ≤ y)) : OB μ b i a l n := h
theorem OB.L {μ : zM} {b i a : Int} {l : List Int} {n : Nat} (h : OB μ b i a l n) : LBy μ l b i a := h.1
theorem OB.n {μ : zM} {b i a : Int} {l : List Int} {n : Nat} (h : OB μ b i a l n) : l.length ≤ n := h.2.1
theorem OB.g {μ : zM} {b i a : Int} {l : List Int} {n : Nat} (h : OB μ b i a l n) : ∀ y, y ∈ l → 0 ≤ y := h.2.2
def FQ (x : Int) (μ μ' : zM) : Prop := ∀ y, (y < x + 3 ∨ x + 12 ≤ y) → μ' y = μ y
def FZ (m : Int) (μ μ' : zM) : Prop := (∀ y, y ≠ m → y ≠ m + 3 → y ≠ m + 4 → y ≠ m + 11 → μ' y = μ y) ∧ (∀ k, k ≠ 0 → k ≠ 5 → k ≠ 6 → k ≠ 27 → μ' m k = μ m k)
theorem FZ.mk {m : Int} {μ μ' : zM} (h : (∀ y, y ≠ m → y ≠ m + 3 → y ≠ m + 4 → y ≠ m + 11 → μ' y = μ y) ∧ (∀ k, k ≠ 0 → k ≠ 5 → k ≠ 6 → k ≠ 27 → μ' m k = μ m k)) : FZ m μ μ' := h
theorem FZ.x {m : Int} {μ μ' : zM} (h : FZ m μ μ') : ∀ y, y ≠ m → y ≠ m + 3 → y ≠ m + 4 → y ≠ m + 11 → μ' y = μ y := h.1
theorem FZ.f {m : Int} {μ μ' : zM} (h : FZ m μ μ') : ∀ k, k ≠ 0 → k ≠ 5 → k ≠ 6 → k ≠ 27 → μ' m k = μ m k := h.2
noncomputable def zwbs (M : zD) (a : Int) (w : Nat) (l : List Int) : List Int := (if 0 < w then l ++ [32] else l) ++ (M.wn.getD w []).map (fun v => 96 + v) ++ [58] ++ znb (M.bel a (w : Int) (-1)).2.1 ++ [45] ++ znb (M.bel a (w : Int) (-1)).2.2
def zsts (t : Int) : List Int := if t = 1 then [33] else if t = 2 then [63] else []
noncomputable def zwrs (M : zD) (a : Int) (k : Nat) (l : List Int) : List Int := match (M.li a)[k]? with
  | none => l
  | some p => l ++ (M.an.getD (p 0).toNat []).map (fun v => 96 + v) ++ [47] ++ (M.wn.getD (p 3).toNat []).map (fun v => 96 + v) ++ [32] ++ znb (p 5) ++ [45] ++ znb (p 6) ++ [64] ++ znb (p 4) ++ zsts (M.sts a k p) ++ [10]
theorem wrs_p {M : zD} {a : Int} {k : Nat} {l : List Int} {p : zP} (h : (M.li a)[k]? = some p) : zwrs M a k l = l ++ (M.an.getD (p 0).toNat []).map (fun v => 96 + v) ++ [47] ++ (M.wn.getD (p 3).toNat []).map (fun v => 96 + v) ++ [32] ++ znb (p 5) ++ [45] ++ znb (p 6) ++ [64] ++ znb (p 4) ++ zsts (M.sts a k p) ++ [10] := by unfold zwrs; rw [h]
theorem getD_some {α : Type} {l : List α} {k : Nat} {y d : α} (h : l[k]? = some y) : l.getD k d = y := by rw [List.getD_eq_getElem?_getD, h]; rfl
theorem get_ex {α : Type} {l : List α} {k : Nat} (h : k < l.length) : ∃ y, l[k]? = some y ∧ y ∈ l := ⟨l[k], List.getElem?_eq_getElem h, List.getElem_mem h⟩
section C75
variable {S S' : zG} {μ μ' μ1 μ2 : zM} {x m d B A a b : Int} {n : Nat} {M M' : zD} {L : List zD} {K : zKs} {l inp out out' : List Int} {c p : Int} {P : zG → zM → Prop} {Q : zR × zS → Prop}
theorem FQ.rf : FQ x μ μ := fun _ _ => rfl
theorem FQ.tr (h : FQ x μ μ1) (k : FQ x μ1 μ2) : FQ x μ μ2 := fun y hy => (k y hy).trans (h y hy)
theorem FB.q (h : FB (x + 3) μ μ') : FQ x μ μ' := fun y hy => h y (by omega) (by omega)
theorem FV.q (h : FV (x + 5) μ μ') : FQ x μ μ' := fun y hy => h y (by omega)
theorem FQ.dd (f : FQ x μ μ') (h : D7 S μ (x + 12) M) : D7 S μ' (x + 12) M := h.keep (fun y h1 h2 => f y (by omega))
theorem FZ.rf : FZ m μ μ := FZ.mk ⟨fun _ _ _ _ _ => rfl, fun _ _ _ _ _ => rfl⟩
theorem FZ.tr (h : FZ m μ μ1) (k : FZ m μ1 μ2) : FZ m μ μ2 := FZ.mk ⟨fun y h1 h2 h3 h4 => (k.x y h1 h2 h3 h4).trans (h.x y h1 h2 h3 h4), fun i h1 h2 h3 h4 => (k.f i h1 h2 h3 h4).trans (h.f i h1 h2 h3 h4)⟩
theorem FO.z (h : FO m μ μ') : FZ m μ μ' := FZ.mk ⟨fun y h1 _ _ h4 => h.x y h1 h4, fun k _ _ _ h4 => h.f k h4⟩
theorem FN.z (h : FN m μ μ') : FZ m μ μ' := FZ.mk ⟨fun y h1 h2 h3 _ => h.x y h1 h2 h3, fun k _ h2 h3 _ => h.f k h2 h3⟩
theorem FZ.d8 (f : FZ m μ μ') (h : D8 (μ (m + 1)) M) : D8 (μ' (m + 1)) M := by
  rw [f.x _ (by omega) (by omega) (by omega) (by omega)]
  exact h
theorem OB.v (h : OB μ (x + 3) 1 (x + 3 + 1) l n) (f : FV (x + 5) μ μ') : OB μ' (x + 3) 1 (x + 3 + 1) l n := OB.mk ⟨h.L.keep (by rw [f _ (by omega)]) (fun k => by rw [f _ (by omega)]), h.n, h.g⟩
theorem OB.w (h : OB μ m 27 (m + 11) l n) (f : FN m μ μ') : OB μ' m 27 (m + 11) l n := OB.mk ⟨h.L.keep (f.f _ (by decide) (by decide)) (fun k => by rw [f.x _ (by omega) (by omega) (by omega)]), h.n, h.g⟩
theorem OB.up {k : Nat} (h : OB μ b x a l n) (hk : n ≤ k) : OB μ b x a l k := OB.mk ⟨h.L, Nat.le_trans h.n hk, h.g⟩
theorem g_app {l r : List Int} (h : ∀ y, y ∈ l → 0 ≤ y) (k : ∀ y, y ∈ r → 0 ≤ y) : ∀ y, y ∈ l ++ r → 0 ≤ y := by
  intro y hy
  rcases List.mem_append.mp hy with z | z
  · exact h y z
  · exact k y z
theorem g_one {v : Int} (h : 0 ≤ v) : ∀ y, y ∈ [v] → 0 ≤ y := fun y hy => by rw [List.mem_singleton.mp hy]; exact h
theorem g_nm {nm : List Int} (h : NOk nm) : ∀ y, y ∈ nm.map (fun v => 96 + v) → 0 ≤ y := by
  intro y hy
  obtain ⟨u, hu, e⟩ := List.mem_map.mp hy
  have := h.c u hu
  omega
theorem ob_add {v : Int} (Bs : BSh S b 1224) (h : OB μ b 1 (b + 1) l n) (hn : n < 1224) (hv : 0 ≤ v ∧ v < 128) : ∃ μ', f_X0_add b v (S, μ) = some (.inl 0, (S, μ')) ∧ OB μ' b 1 (b + 1) (l ++ [v]) (n + 1) ∧ FB b μ μ' := by
  have hl := h.n
  obtain ⟨μ1, e1, h1, f1⟩ := c_add2 (v := v) Bs h.L (by omega) (by decide) hv
  exact ⟨μ1, e1, OB.mk ⟨h1, by rw [List.length_append, List.length_singleton]; omega, g_app h.g (g_one hv.1)⟩, f1⟩
theorem ob_name {nm : List Int} (Bs : BSh S b 1224) (h : OB μ b 1 (b + 1) l n) (hn : n + 6 ≤ 1224) (hnm : NOk nm) : ∃ μ', f_X0_addName b (zcode 32 nm) (S, μ) = some (.inl 0, (S, μ')) ∧ OB μ' b 1 (b + 1) (l ++ nm.map (fun v => 96 + v)) (n + 6) ∧ FB b μ μ' := by
  have hl := h.n
  have h6 := hnm.n
  obtain ⟨μ1, e1, h1, f1⟩ := c_addName Bs h.L hnm (by omega) (by decide)
  exact ⟨μ1, e1, OB.mk ⟨h1, by rw [List.length_append, List.length_map]; omega, g_app h.g (g_nm hnm)⟩, f1⟩
theorem ob_num {v : Int} {k : Nat} (Bs : BSh S b 1224) (h : OB μ b 1 (b + 1) l n) (hn : n + 7 ≤ 1224) (hv : 0 ≤ v ∧ v ≤ 1000000) (hk : (v ≤ 999 ∧ k = 3) ∨ k = 7) : ∃ μ', f_X0_addNumber b v (S, μ) = some (.inl 0, (S, μ')) ∧ OB μ' b 1 (b + 1) (l ++ znb v) (n + k) ∧ FB b μ μ' := by
  have hl := h.n
  have h6 := znb_len hv
  obtain ⟨μ1, e1, h1, f1⟩ := c_addNumber Bs h.L hv (by omega) (by decide)
  refine ⟨μ1, e1, OB.mk ⟨h1, ?_, g_app h.g (fun y hy => (znb_rng y hy).1)⟩, f1⟩
  rw [List.length_append]
  rcases hk with ⟨z, z2⟩ | z
  · have := h6.2.2 z; omega
  · omega
theorem om_add {v : Int} (H : MSh S m A) (h : OB μ m 27 (m + 11) l n) (hn : n < 1800) (hv : 0 ≤ v ∧ v < 128) : ∃ μ', f_X8_write m v (S, μ) = some (.inl 0, (S, μ')) ∧ OB μ' m 27 (m + 11) (l ++ [v]) (n + 1) ∧ FO m μ μ' := by
  have hl := h.n
  obtain ⟨μ1, e1, h1, f1⟩ := b_write (v := v) H h.L (by omega) hv
  exact ⟨μ1, e1, OB.mk ⟨h1, by rw [List.length_append, List.length_singleton]; omega, g_app h.g (g_one hv.1)⟩, f1⟩
theorem om_name {nm : List Int} (H : MSh S m A) (h : OB μ m 27 (m + 11) l n) (hn : n + 6 ≤ 1800) (hnm : NOk nm) : ∃ μ', f_X8_writeName m (zcode 27 nm) (S, μ) = some (.inl 0, (S, μ')) ∧ OB μ' m 27 (m + 11) (l ++ nm.map (fun v => 96 + v)) (n + 6) ∧ FO m μ μ' := by
  have hl := h.n
  have h6 := hnm.n
  obtain ⟨μ1, e1, h1, f1⟩ := b_writeName H h.L hnm (by omega)
  exact ⟨μ1, e1, OB.mk ⟨h1, by rw [List.length_append, List.length_map]; omega, g_app h.g (g_nm hnm)⟩, f1⟩
theorem om_num {v : Int} {k : Nat} (H : MSh S m A) (h : OB μ m 27 (m + 11) l n) (hn : n + 7 ≤ 1800) (hv : 0 ≤ v ∧ v ≤ 1000000) (hk : (v ≤ 999 ∧ k = 3) ∨ k = 7) : ∃ μ', f_X8_writeNumber m v (S, μ) = some (.inl 0, (S, μ')) ∧ OB μ' m 27 (m + 11) (l ++ znb v) (n + k) ∧ FO m μ μ' := by
  have hl := h.n
  have h6 := znb_len hv
  obtain ⟨μ1, e1, h1, f1⟩ := b_writeNumber H h.L hv (by omega)
  refine ⟨μ1, e1, OB.mk ⟨h1, ?_, g_app h.g (fun y hy => (znb_rng y hy).1)⟩, f1⟩
  rw [List.length_append]
  rcases hk with ⟨z, z2⟩ | z
  · have := h6.2.2 z; omega
  · omega
theorem c_writeBounds {lo hi : Int} (C : CB S x) (Bs : BSh S (x + 3) 1224) (h : OB μ (x + 3) 1 (x + 3 + 1) l n) (hn : n + 11 ≤ 1224) (hb : 0 ≤ lo ∧ lo ≤ hi ∧ hi ≤ 999) : ∃ μ', f_X7_writeBounds x lo hi (S, μ) = some (.inl 0, (S, μ')) ∧ (OB μ' (x + 3) 1 (x + 3 + 1) (l ++ znb lo ++ [45] ++ znb hi) (n + 7) ∧ FB (x + 3) μ μ') := by
  obtain ⟨μ1, e1, h1, f1⟩ := ob_num (v := lo) (k := 3) Bs h (by omega) (by omega) (Or.inl ⟨by omega, rfl⟩)
  obtain ⟨μ2, e2, h2, f2⟩ := ob_add (v := 45) Bs h1 (by omega) (by decide)
  obtain ⟨μ3, e3, h3, f3⟩ := ob_num (v := hi) (k := 3) Bs h2 (by omega) (by omega) (Or.inl ⟨by omega, rfl⟩)
  apply zo_ux
  refine j_X7_writeBounds ?_
  refine zo_gr C.o C.r1 (by omega) (by omega) ?_
  refine zo_ob Bs.o (by omega) ?_
  refine zo_bn e1 ?_
  refine zo_gr C.o C.r1 (by omega) (by omega) ?_
  refine zo_ob Bs.o (by omega) ?_
  refine zo_bn e2 ?_
  refine zo_gr C.o C.r1 (by omega) (by omega) ?_
  refine zo_ob Bs.o (by omega) ?_
  refine zo_bn e3 ?_
  exact zo_rt ⟨μ3, rfl, h3, FB.tr (FB.tr f1 f2) f3⟩
theorem W7.outp (h : W7 S μ x M L K inp out c p) (hl : LBy μ' out' (x + 3) 1 (x + 4)) (f : FQ x μ μ') (ho : out'.length ≤ 1224 ∧ ∀ y, y ∈ out' → 0 ≤ y) : W7 S μ' x M L K inp out' c p := by
  obtain ⟨r, hr⟩ := h.H
  have hx := h.C.x0
  exact W7.mk ⟨h.C, f.dd h.D, h.ts, by rw [f _ (by omega)]; exact h.te, ⟨r, hr.keep (fun y hy => f y (by omega))⟩, h.bi, h.li.keep (by rw [f _ (by omega)]) (fun k => by rw [f _ (by omega)]), h.bo, hl, h.po, h.p0, h.p1, by rw [f _ (by omega)]; exact h.pc, by rw [f _ (by omega)]; exact h.pp, h.il, ho⟩
theorem W8.outp (h : W8 S μ m M L K inp out c p) (hl : LBy μ' out' m 27 (m + 11)) (f : FZ m μ μ') : W8 S μ' m M L K inp out' c p := by
  refine W8.mk ⟨h.H, f.d8 h.D, HRel.mk ⟨h.R.n, by rw [f.f _ (by decide) (by decide) (by decide) (by decide)]; exact h.R.c, fun i X hi => by rw [f.x _ (by omega) (by omega) (by omega) (by omega)]; exact h.R.v i X hi⟩, fun i hi hk => by rw [f.x _ (by omega) (by omega) (by omega) (by omega)]; exact h.K0 i hi hk, fun i X hi hk => by rw [f.x _ (by omega) (by omega) (by omega) (by omega), f.x _ (by omega) (by omega) (by omega) (by omega)]; exact h.K1 i X hi hk, h.li.keep (f.f _ (by decide) (by decide) (by decide) (by decide)) (fun k => by rw [f.x _ (by omega) (by omega) (by omega) (by omega)]), hl, by rw [f.f _ (by decide) (by decide) (by decide) (by decide)]; exact h.w, by rw [f.f _ (by decide) (by decide) (by decide) (by decide)]; exact h.ec, by rw [f.f _ (by decide) (by decide) (by decide) (by decide)]; exact h.ep⟩
theorem op_w {f7 f8 : zS → zFn} {tb : List (Nat × Int)} {v : Int} {out' : List Int} (h : Wd B x S μ M L K inp out c p) (e7 : ∃ μ', f7 (S, μ) = some (.inl v, (S, μ')) ∧ (OB μ' (x + 3) 1 (x + 3 + 1) out' 1224 ∧ FQ x μ μ')) (hv : zI v)
    (e8 : ∀ S1 μ2, W8 S1 μ2 (x + 66) M L K inp out c p → ∃ μ3, f8 (S1, μ2) = some (.inl v, (S1, μ3)) ∧ (LBy μ3 out' (x + 66) 27 (x + 66 + 11) ∧ FZ (x + 66) μ2 μ3 ∧ μ3 (x + 66) 0 = 0)) (hP : ∀ (S1 : zG) (μ3 : zM) (out' : List Int), Wd B x S1 μ3 M L K inp out' c p → P S1 μ3) : zOp x P f7 f8 tb S μ := by
  obtain ⟨μ1, e1, h1, f1⟩ := e7
  have hL := h1.L
  rw [show x + 3 + 1 = x + 4 by omega] at hL
  refine op_val h e1 hv (h.a.outp hL f1 ⟨h1.n, h1.g⟩) (FX.mem (fun y h1 h2 => f1 y (by omega))) h.w ?_ (fun μ3 h3 => hP S μ3 out' h3)
  intro μ2 h2
  obtain ⟨μ3, e3, h3, f3, t3⟩ := e8 S μ2 h2
  exact ⟨μ3, e3, h2.outp h3 f3, t3, fun y hy => f3.x y (by omega) (by omega) (by omega) (by omega)⟩
noncomputable def zD.wbs (M : zD) (a : Int) : List Int := zlp (zwbs M a) 0 M.wn.length []
noncomputable def zD.wrs (M : zD) (a : Int) : List Int := zlp (zwrs M a) 0 (M.li a).length []
theorem nil_ob {i : Int} (hb : b ≠ x) : OB (zup μ b i 0) b i x [] 0 := OB.mk ⟨LBy.mk ⟨zup_at, fun k v hk => by simp at hk, fun v hv => absurd hv (by simp)⟩, Nat.le_refl _, fun y hy => absurd hy (by simp)⟩
theorem c_wbel (C : CB S x) (Bs : BSh S (x + 3) 1224) (hD : D7 S μ (x + 12) M) (W : WF B M) (ha : 0 ≤ a ∧ a < 6) (h0 : OB μ1 (x + 3) 1 (x + 3 + 1) [] 0) (f0 : FQ x μ μ1) : zo (f_X7_writeBeliefs_15 zFU x a 0 (S, μ1)) (fun r => ∃ μ', r = (.inl ((M.wbs a).length : Int), (S, μ')) ∧ (OB μ' (x + 3) 1 (x + 3 + 1) (M.wbs a) 1224 ∧ FQ x μ μ')) := by
  have h61 := hD.wl
  refine zo_fr (F := fun n (w : Nat) (l : List Int) (μ2 : zM) => f_X7_writeBeliefs_15 n x a (w : Int) (S, μ2)) (N := M.wn.length) (st := zwbs M a) (c0 := []) (fun w l μ2 => OB μ2 (x + 3) 1 (x + 3 + 1) l (15 * w) ∧ FQ x μ μ2) ?_ ⟨h0, f0⟩ (by show M.wn.length < 1000000; omega)
  rintro n w l μ2 hw ⟨h2, f2⟩ ih fin
  have hD2 := f2.dd hD
  refine j_X7_writeBeliefs_15 ?_
  refine zo_gr C.o C.r3 (by omega) (by omega) ?_
  refine zo_gr hD2.sh.o hD2.sh.r2 (by omega) (by omega) ?_
  refine zo_gf hD2.sh.wa.o hD2.wn0 (by omega) (by omega) ?_
  by_cases e : w < M.wn.length
  · obtain ⟨nm, hnm, hmem⟩ := get_ex e
    have hok := W.wn.2 nm hmem
    have hbr := bel_rng M a (w : Int) (-1)
    have main : ∀ (l' : List Int) (μ3 : zM), (if 0 < w then l ++ [32] else l) = l' → OB μ3 (x + 3) 1 (x + 3 + 1) l' (15 * w + 1) → FQ x μ μ3 → zo (f_X7_writeBeliefs_42 (f_X7_writeBeliefs_15 n) x a (w : Int) (S, μ3)) (fun r => ∃ μ', r = (.inl ((M.wbs a).length : Int), (S, μ')) ∧ (OB μ' (x + 3) 1 (x + 3 + 1) (M.wbs a) 1224 ∧ FQ x μ μ')) := by
      intro l' μ3 hl' h3 f3
      have hD3 := f3.dd hD
      obtain ⟨μ4, e4, h4, f4⟩ := ob_name Bs h3 (by omega) hok
      obtain ⟨μ5, e5, h5, f5⟩ := ob_add (v := 58) Bs h4 (by omega) (by decide)
      have fq5 := FQ.tr (FQ.tr f3 f4.q) f5.q
      obtain ⟨μ6, e6, h6, f6⟩ := c_form (w := (w : Int)) (x := -1) C.V (fq5.dd hD) W (by omega) ha
      obtain ⟨μ7, e7, h7, f7⟩ := c_writeBounds C Bs (h5.v f6) (by omega) hbr
      have es : zwbs M a w l = l' ++ nm.map (fun v => 96 + v) ++ [58] ++ znb (M.bel a (w : Int) (-1)).2.1 ++ [45] ++ znb (M.bel a (w : Int) (-1)).2.2 := by
        unfold zwbs
        rw [hl', getD_some hnm]
      have ih := ih e μ7 ⟨by rw [es]; exact h7.up (by omega), FQ.tr (FQ.tr fq5 f6.q) f7.q⟩
      refine j_X7_writeBeliefs_42 ?_
      refine zo_gr C.o C.r1 (by omega) (by omega) ?_
      refine zo_gr C.o C.r3 (by omega) (by omega) ?_
      refine zo_gr hD3.sh.o hD3.sh.r2 (by omega) (by omega) ?_
      refine zo_ob hD3.sh.wa.o (by omega) ?_
      refine zo_bn (c_nget hD3.sh.wa hD3.wnames hnm) ?_
      refine zo_ob Bs.o (by omega) ?_
      refine zo_bn e4 ?_
      refine zo_gr C.o C.r1 (by omega) (by omega) ?_
      refine zo_ob Bs.o (by omega) ?_
      refine zo_bn e5 ?_
      refine zo_gr C.o C.r2 (by omega) (by omega) ?_
      refine zo_gr C.o C.r3 (by omega) (by omega) ?_
      refine zo_ob C.V.o (by omega) ?_
      refine zo_bn e6 ?_
      refine zo_gr C.o C.r2 (by omega) (by omega) ?_
      refine zo_gf C.V.o h6.lo (by omega) (by omega) ?_
      refine zo_gr C.o C.r2 (by omega) (by omega) ?_
      refine zo_gf C.V.o h6.hi (by omega) (by omega) ?_
      refine zo_ob C.o (by omega) ?_
      refine zo_bn e7 ?_
      rw [w32_s (k := w) (by omega)]
      exact ih
    refine zo_pos (by omega) ?_
    by_cases ew : 0 < w
    · obtain ⟨μ3, e3, h3, f3⟩ := ob_add (v := 32) Bs h2 (by omega) (by decide)
      refine zo_pos (by omega) ?_
      refine zo_gr C.o C.r1 (by omega) (by omega) ?_
      refine zo_ob Bs.o (by omega) ?_
      refine zo_bn e3 ?_
      exact main _ μ3 (if_pos ew) h3 (FQ.tr f2 f3.q)
    · refine zo_neg (by omega) ?_
      exact main _ μ2 (if_neg ew) (h2.up (by omega)) f2
  · have e9 : M.wbs a = l := fin (by omega)
    rw [e9]
    refine zo_neg (by omega) ?_
    refine zo_gr C.o C.r1 (by omega) (by omega) ?_
    refine zo_gf Bs.o h2.L.n (by omega) (by omega) ?_
    exact zo_rt ⟨μ2, rfl, h2.up (by omega), f2⟩
theorem b_wbel (H : MSh S m (m + 1)) (hD : D8 (μ (m + 1)) M) (W : WF B M) (ha : 0 ≤ a ∧ a < 6) (hx : μ m 4 = -1) (h0 : OB μ1 m 27 (m + 11) [] 0) (f0 : FZ m μ μ1) (ht : μ1 m 0 = 0) : zo (f_X8_writeBeliefs_21 zFU m a 0 (S, μ1)) (fun r => ∃ μ', r = (.inl ((M.wbs a).length : Int), (S, μ')) ∧ (LBy μ' (M.wbs a) m 27 (m + 11) ∧ FZ m μ μ' ∧ μ' m 0 = 0)) := by
  have h61 := hD.wl
  refine zo_fr (F := fun n (w : Nat) (l : List Int) (μ2 : zM) => f_X8_writeBeliefs_21 n m a (w : Int) (S, μ2)) (N := M.wn.length) (st := zwbs M a) (c0 := []) (fun w l μ2 => OB μ2 m 27 (m + 11) l (15 * w) ∧ FZ m μ μ2 ∧ μ2 m 0 = 0) ?_ ⟨h0, f0, ht⟩ (by show M.wn.length < 1000000; omega)
  rintro n w l μ2 hw ⟨h2, f2, t2⟩ ih fin
  have hD2 := f2.d8 hD
  refine j_X8_writeBeliefs_21 ?_
  refine zo_ob H.o (by omega) ?_
  refine zo_bn (b_ways H hD2) ?_
  by_cases e : w < M.wn.length
  · obtain ⟨nm, hnm, hmem⟩ := get_ex e
    have hok := W.wn.2 nm hmem
    have hbr := bel_rng M a (w : Int) (-1)
    have elo : M.bnd a (w : Int) 0 = (M.bel a (w : Int) (-1)).2.1 := if_pos rfl
    have ehi : M.bnd a (w : Int) 1 = (M.bel a (w : Int) (-1)).2.2 := if_neg (by decide)
    have main : ∀ (l' : List Int) (μ3 : zM), (if 0 < w then l ++ [32] else l) = l' → OB μ3 m 27 (m + 11) l' (15 * w + 1) → FZ m μ μ3 → μ3 m 0 = 0 → zo (f_X8_writeBeliefs_39 (f_X8_writeBeliefs_21 n) m a (w : Int) (S, μ3)) (fun r => ∃ μ', r = (.inl ((M.wbs a).length : Int), (S, μ')) ∧ (LBy μ' (M.wbs a) m 27 (m + 11) ∧ FZ m μ μ' ∧ μ' m 0 = 0)) := by
      intro l' μ3 hl' h3 f3 t3
      have hD3 := f3.d8 hD
      obtain ⟨μ4, e4, h4, f4⟩ := om_name H h3 (by omega) hok
      obtain ⟨μ5, e5, h5, f5⟩ := om_add (v := 58) H h4 (by omega) (by decide)
      have fq5 := FZ.tr (FZ.tr f3 f4.z) f5.z
      obtain ⟨μ6, e6, f6⟩ := b_boundOf (w := (w : Int)) (e := 0) H (fq5.d8 hD) W ha (by rw [fq5.f 4 (by decide) (by decide) (by decide) (by decide)]; exact hx)
      have fq6 := FZ.tr fq5 f6.z
      rw [elo] at e6
      obtain ⟨μ7, e7, h7, f7⟩ := om_num (v := (M.bel a (w : Int) (-1)).2.1) (k := 3) H (h5.w f6) (by omega) (by omega) (Or.inl ⟨by omega, rfl⟩)
      have fq7 := FZ.tr fq6 f7.z
      obtain ⟨μ8, e8, h8, f8⟩ := om_add (v := 45) H h7 (by omega) (by decide)
      have fq8 := FZ.tr fq7 f8.z
      obtain ⟨μ9, e9, f9⟩ := b_boundOf (w := (w : Int)) (e := 1) H (fq8.d8 hD) W ha (by rw [fq8.f 4 (by decide) (by decide) (by decide) (by decide)]; exact hx)
      have fq9 := FZ.tr fq8 f9.z
      rw [ehi] at e9
      obtain ⟨μA, eA, hA, fA⟩ := om_num (v := (M.bel a (w : Int) (-1)).2.2) (k := 3) H (h8.w f9) (by omega) (by omega) (Or.inl ⟨by omega, rfl⟩)
      have tA : μA m 0 = 0 := by rw [fA.f 0 (by decide), f9.f 0 (by decide) (by decide), f8.f 0 (by decide), f7.f 0 (by decide), f6.f 0 (by decide) (by decide), f5.f 0 (by decide), f4.f 0 (by decide)]; exact t3
      have es : zwbs M a w l = l' ++ nm.map (fun v => 96 + v) ++ [58] ++ znb (M.bel a (w : Int) (-1)).2.1 ++ [45] ++ znb (M.bel a (w : Int) (-1)).2.2 := by
        unfold zwbs
        rw [hl', getD_some hnm]
      have ih := ih e μA ⟨by rw [es]; exact hA.up (by omega), FZ.tr fq9 fA.z, tA⟩
      refine j_X8_writeBeliefs_39 ?_
      refine zo_gr H.o H.r1 (by omega) (by omega) ?_
      rw [w32_e (show -2147483648 ≤ 15 + (w : Int) ∧ 15 + (w : Int) < 2147483648 by omega)]
      refine zo_ld H.a1 (by omega) (hD3.wn w nm hnm) ?_
      refine zo_ob H.o (by omega) ?_
      refine zo_bn e4 ?_
      refine zo_ob H.o (by omega) ?_
      refine zo_bn e5 ?_
      refine zo_ob H.o (by omega) ?_
      refine zo_bn e6 ?_
      refine zo_ob H.o (by omega) ?_
      refine zo_bn e7 ?_
      refine zo_ob H.o (by omega) ?_
      refine zo_bn e8 ?_
      refine zo_ob H.o (by omega) ?_
      refine zo_bn e9 ?_
      refine zo_ob H.o (by omega) ?_
      refine zo_bn eA ?_
      rw [w32_s (k := w) (by omega)]
      exact ih
    refine zo_pos (by omega) ?_
    by_cases ew : 0 < w
    · obtain ⟨μ3, e3, h3, f3⟩ := om_add (v := 32) H h2 (by omega) (by decide)
      refine zo_pos (by omega) ?_
      refine zo_ob H.o (by omega) ?_
      refine zo_bn e3 ?_
      exact main _ μ3 (if_pos ew) h3 (FZ.tr f2 f3.z) (by rw [f3.f 0 (by decide)]; exact t2)
    · refine zo_neg (by omega) ?_
      exact main _ μ2 (if_neg ew) (h2.up (by omega)) f2 t2
  · have e9 : M.wbs a = l := fin (by omega)
    rw [e9]
    refine zo_neg (by omega) ?_
    refine zo_gf H.o h2.L.n (by omega) (by omega) ?_
    exact zo_rt ⟨μ2, rfl, h2.L, f2, t2⟩
theorem c_writeStatus {t : Int} (C : CB S x) (Bs : BSh S (x + 3) 1224) (h : OB μ (x + 3) 1 (x + 3 + 1) l n) (hn : n < 1224) : ∃ μ', f_X7_writeStatus x t (S, μ) = some (.inl 0, (S, μ')) ∧ (OB μ' (x + 3) 1 (x + 3 + 1) (l ++ zsts t) (n + 1) ∧ FB (x + 3) μ μ') := by
  apply zo_ux
  refine j_X7_writeStatus ?_
  by_cases h1 : t = 1
  · have es : zsts t = [33] := if_pos h1
    rw [es]
    obtain ⟨μ1, e1, g1, f1⟩ := ob_add (v := 33) Bs h hn (by decide)
    refine zo_pos h1 ?_
    refine zo_gr C.o C.r1 (by omega) (by omega) ?_
    refine zo_ob Bs.o (by omega) ?_
    refine zo_bn e1 ?_
    exact zo_rt ⟨μ1, rfl, g1, f1⟩
  · refine zo_neg h1 ?_
    by_cases h2 : t = 2
    · have es : zsts t = [63] := (if_neg h1).trans (if_pos h2)
      rw [es]
      obtain ⟨μ1, e1, g1, f1⟩ := ob_add (v := 63) Bs h hn (by decide)
      refine zo_pos h2 ?_
      refine zo_gr C.o C.r1 (by omega) (by omega) ?_
      refine zo_ob Bs.o (by omega) ?_
      refine zo_bn e1 ?_
      exact zo_rt ⟨μ1, rfl, g1, f1⟩
    · have es : zsts t = [] := (if_neg h1).trans (if_neg h2)
      rw [es, List.append_nil]
      refine zo_neg h2 ?_
      exact zo_rt ⟨μ, rfl, h.up (by omega), FB.rf⟩
theorem sts_ok (W : WF B M) {k : Nat} {q : zP} (hk : (M.li a)[k]? = some q) : M.sts a k q ≤ 2 := by
  have h1 := bel_st M a (q 3) (-1) (q 0)
  have hqv := (W.li a q (List.mem_of_getElem? hk)).v
  have h5 := zso_row (w := q 3) (x := -1) (s := M.bel a (q 3) (-1)) (M.li a) 0 k q hk ⟨rfl, by omega⟩
  rw [Nat.zero_add] at h5
  have h6 := bel_done M a (q 3) (-1) (0 + k, q) (zent_has _ 0 k q hk ⟨rfl, by omega⟩)
  have h7 : ¬ (M.bel a (q 3) (-1)).1 (q 0) = 3 := h6
  have h8 : M.sts a k q = (M.bel a (q 3) (-1)).1 (q 0) := h5
  rw [h8]
  omega
theorem c_wrep (C : CB S x) (Bs : BSh S (x + 3) 1224) (hD : D7 S μ (x + 12) M) (W : WF B M) (ha : 0 ≤ a ∧ a < 6) (h0 : OB μ1 (x + 3) 1 (x + 3 + 1) [] 0) (f0 : FQ x μ μ1) : zo (f_X7_writeReports_24 zFU x a (x + 12 + 13 + 2 * a) 0 (S, μ1)) (fun r => ∃ μ', r = (.inl ((M.wrs a).length : Int), (S, μ')) ∧ (OB μ' (x + 3) 1 (x + 3 + 1) (M.wrs a) 1224 ∧ FQ x μ μ')) := by
  have h36 := hD.ll a ha.1 ha.2
  have h60 := hD.al
  have h61 := hD.wl
  have Ls := hD.sh.ls a ha.1 ha.2
  refine zo_fr (F := fun n (k : Nat) (l : List Int) (μ2 : zM) => f_X7_writeReports_24 n x a (x + 12 + 13 + 2 * a) (k : Int) (S, μ2)) (N := (M.li a).length) (st := zwrs M a) (c0 := []) (fun k l μ2 => OB μ2 (x + 3) 1 (x + 3 + 1) l (31 * k) ∧ FQ x μ μ2) ?_ ⟨h0, f0⟩ (by show (M.li a).length < 1000000; omega)
  rintro n k l μ2 hk ⟨h2, f2⟩ ih fin
  have D2 := f2.dd hD
  refine j_X7_writeReports_24 ?_
  refine zo_gf Ls.o (D2.li a ha.1 ha.2).1 (by omega) (by omega) ?_
  by_cases e : k < (M.li a).length
  · obtain ⟨q, hq, hqm⟩ := get_ex e
    have hqo := W.li a q hqm
    have qo := hqo.o
    have qw := hqo.w
    have qt := hqo.t
    have qb := hqo.b
    have tm := W.tm
    have B0 := W.B0
    obtain ⟨an, han, hanm⟩ := get_ex (l := M.an) (k := (q 0).toNat) (by omega)
    obtain ⟨wn, hwn, hwnm⟩ := get_ex (l := M.wn) (k := (q 3).toNat) (by omega)
    have ea : (((q 0).toNat : Nat) : Int) = q 0 := Int.toNat_of_nonneg qo.1
    have ew : (((q 3).toNat : Nat) : Int) = q 3 := Int.toNat_of_nonneg qw.1
    have oka := W.an.2 an hanm
    have okw := W.wn.2 wn hwnm
    obtain ⟨μ3, e3, h3, f3⟩ := ob_name Bs h2 (by omega) oka
    obtain ⟨μ4, e4, h4, f4⟩ := ob_add (v := 47) Bs h3 (by omega) (by decide)
    have F4 := FQ.tr (FQ.tr f2 f3.q) f4.q
    have D4 := F4.dd hD
    obtain ⟨μ5, e5, h5, f5⟩ := ob_name Bs h4 (by omega) okw
    obtain ⟨μ6, e6, h6, f6⟩ := ob_add (v := 32) Bs h5 (by omega) (by decide)
    have F6 := FQ.tr (FQ.tr F4 f5.q) f6.q
    have D6 := F6.dd hD
    obtain ⟨μ7, e7, h7, f7⟩ := c_writeBounds C Bs h6 (by omega) qb
    have F7 := FQ.tr F6 f7.q
    obtain ⟨μ8, e8, h8, f8⟩ := ob_add (v := 64) Bs h7 (by omega) (by decide)
    have F8 := FQ.tr F7 f8.q
    have D8' := F8.dd hD
    obtain ⟨μ9, e9, h9, f9⟩ := ob_num (v := q 4) (k := 7) Bs h8 (by omega) (by omega) (Or.inr rfl)
    have F9 := FQ.tr F8 f9.q
    obtain ⟨μA, eA, fA⟩ := c_statusIn C (F9.dd hD) W ha hq
    have FA' := FQ.tr F9 fA.q
    obtain ⟨μB, eB, hB, fB⟩ := c_writeStatus (t := M.sts a k q) C Bs (h9.v fA) (by omega)
    obtain ⟨μC, eC, hC, fC⟩ := ob_add (v := 10) Bs hB (by omega) (by decide)
    have es := wrs_p (l := l) hq
    rw [getD_some han, getD_some hwn] at es
    have ih := ih e μC ⟨by rw [es]; rw [List.append_assoc _ (znb (q 5)) [45], List.append_assoc _ (znb (q 5) ++ [45]) (znb (q 6))]; rw [List.append_assoc _ (znb (q 5)) [45], List.append_assoc _ (znb (q 5) ++ [45]) (znb (q 6))] at hC; exact hC.up (by omega), FQ.tr (FQ.tr FA' fB.q) fC.q⟩
    refine zo_pos (by omega) ?_
    refine zo_gr C.o C.r1 (by omega) (by omega) ?_
    refine zo_gr C.o C.r3 (by omega) (by omega) ?_
    refine zo_gr D2.sh.o D2.sh.r1 (by omega) (by omega) ?_
    refine zo_ob Ls.o (by omega) ?_
    refine zo_bn (d_get0 D2 ha hq) ?_
    refine zo_ob D2.sh.ag.o (by omega) ?_
    rw [← ea]
    refine zo_bn (c_nget D2.sh.ag D2.names han) ?_
    refine zo_ob Bs.o (by omega) ?_
    refine zo_bn e3 ?_
    refine zo_gr C.o C.r1 (by omega) (by omega) ?_
    refine zo_ob Bs.o (by omega) ?_
    refine zo_bn e4 ?_
    refine zo_gr C.o C.r1 (by omega) (by omega) ?_
    refine zo_gr C.o C.r3 (by omega) (by omega) ?_
    refine zo_gr D4.sh.o D4.sh.r2 (by omega) (by omega) ?_
    refine zo_ob Ls.o (by omega) ?_
    refine zo_bn (d_get3 D4 ha hq) ?_
    refine zo_ob D4.sh.wa.o (by omega) ?_
    rw [← ew]
    refine zo_bn (c_nget D4.sh.wa D4.wnames hwn) ?_
    refine zo_ob Bs.o (by omega) ?_
    refine zo_bn e5 ?_
    refine zo_gr C.o C.r1 (by omega) (by omega) ?_
    refine zo_ob Bs.o (by omega) ?_
    refine zo_bn e6 ?_
    refine zo_ob Ls.o (by omega) ?_
    refine zo_bn (d_get5 D6 ha hq) ?_
    refine zo_ob Ls.o (by omega) ?_
    refine zo_bn (d_get6 D6 ha hq) ?_
    refine zo_ob C.o (by omega) ?_
    refine zo_bn e7 ?_
    refine zo_gr C.o C.r1 (by omega) (by omega) ?_
    refine zo_ob Bs.o (by omega) ?_
    refine zo_bn e8 ?_
    refine zo_gr C.o C.r1 (by omega) (by omega) ?_
    refine zo_ob Ls.o (by omega) ?_
    refine zo_bn (d_get4 D8' ha hq) ?_
    refine zo_ob Bs.o (by omega) ?_
    refine zo_bn e9 ?_
    refine zo_ob C.o (by omega) ?_
    refine zo_bn eA ?_
    refine zo_ob C.o (by omega) ?_
    refine zo_bn eB ?_
    refine zo_gr C.o C.r1 (by omega) (by omega) ?_
    refine zo_ob Bs.o (by omega) ?_
    refine zo_bn eC ?_
    rw [w32_s (k := k) (by omega)]
    exact ih
  · have e9 : M.wrs a = l := fin (by omega)
    rw [e9]
    refine zo_neg (by omega) ?_
    refine zo_gr C.o C.r1 (by omega) (by omega) ?_
    refine zo_gf Bs.o h2.L.n (by omega) (by omega) ?_
    exact zo_rt ⟨μ2, rfl, h2.up (by omega), f2⟩
theorem b_wrep (H : MSh S m (m + 1)) (hD : D8 (μ (m + 1)) M) (W : WF B M) (ha : 0 ≤ a ∧ a < 6) (hx : μ m 4 = -1) (h0 : OB μ1 m 27 (m + 11) [] 0) (f0 : FZ m μ μ1) (ht : μ1 m 0 = 0) : zo (f_X8_writeReports_21 zFU m a 0 (S, μ1)) (fun r => ∃ μ', r = (.inl ((M.wrs a).length : Int), (S, μ')) ∧ (LBy μ' (M.wrs a) m 27 (m + 11) ∧ FZ m μ μ' ∧ μ' m 0 = 0)) := by
  have h36 := hD.ll a ha.1 ha.2
  have h60 := hD.al
  have h61 := hD.wl
  refine zo_fr (F := fun n (k : Nat) (l : List Int) (μ2 : zM) => f_X8_writeReports_21 n m a (k : Int) (S, μ2)) (N := (M.li a).length) (st := zwrs M a) (c0 := []) (fun k l μ2 => OB μ2 m 27 (m + 11) l (31 * k) ∧ FZ m μ μ2 ∧ μ2 m 0 = 0) ?_ ⟨h0, f0, ht⟩ (by show (M.li a).length < 1000000; omega)
  rintro n k l μ2 hk ⟨h2, f2, t2⟩ ih fin
  have D2 := f2.d8 hD
  refine j_X8_writeReports_21 ?_
  refine zo_ob H.o (by omega) ?_
  refine zo_bn (b_manyOf H D2 ha) ?_
  by_cases e : k < (M.li a).length
  · obtain ⟨q, hq, hqm⟩ := get_ex e
    have hqo := W.li a q hqm
    have qo := hqo.o
    have qw := hqo.w
    have qt := hqo.t
    have qb := hqo.b
    have tm := W.tm
    have B0 := W.B0
    obtain ⟨an, han, hanm⟩ := get_ex (l := M.an) (k := (q 0).toNat) (by omega)
    obtain ⟨wn, hwn, hwnm⟩ := get_ex (l := M.wn) (k := (q 3).toNat) (by omega)
    have ea : (((q 0).toNat : Nat) : Int) = q 0 := Int.toNat_of_nonneg qo.1
    have ew : (((q 3).toNat : Nat) : Int) = q 3 := Int.toNat_of_nonneg qw.1
    have oka := W.an.2 an hanm
    have okw := W.wn.2 wn hwnm
    obtain ⟨μ3, e3, h3, f3⟩ := om_name H h2 (by omega) oka
    obtain ⟨μ4, e4, h4, f4⟩ := om_add (v := 47) H h3 (by omega) (by decide)
    have F4 := FZ.tr (FZ.tr f2 f3.z) f4.z
    have D4 := F4.d8 hD
    obtain ⟨μ5, e5, h5, f5⟩ := om_name H h4 (by omega) okw
    obtain ⟨μ6, e6, h6, f6⟩ := om_add (v := 32) H h5 (by omega) (by decide)
    have F6 := FZ.tr (FZ.tr F4 f5.z) f6.z
    have D6 := F6.d8 hD
    obtain ⟨μ7, e7, h7, f7⟩ := om_num (v := q 5) (k := 3) H h6 (by omega) (by omega) (Or.inl ⟨by omega, rfl⟩)
    obtain ⟨μ8, e8, h8, f8⟩ := om_add (v := 45) H h7 (by omega) (by decide)
    have F8 := FZ.tr (FZ.tr F6 f7.z) f8.z
    have D8' := F8.d8 hD
    obtain ⟨μ9, e9, h9, f9⟩ := om_num (v := q 6) (k := 3) H h8 (by omega) (by omega) (Or.inl ⟨by omega, rfl⟩)
    obtain ⟨μA, eA, hA, fA⟩ := om_add (v := 64) H h9 (by omega) (by decide)
    have F10 := FZ.tr (FZ.tr F8 f9.z) fA.z
    have D10 := F10.d8 hD
    obtain ⟨μB, eB, hB, fB⟩ := om_num (v := q 4) (k := 7) H hA (by omega) (by omega) (Or.inr rfl)
    have F11 := FZ.tr F10 fB.z
    obtain ⟨μC, eC, fC⟩ := b_statusAt H (F11.d8 hD) W ha (by rw [F11.f 4 (by decide) (by decide) (by decide) (by decide)]; exact hx) hq
    have F12 := FZ.tr F11 fC.z
    have tC : μC m 0 = 0 := by rw [fC.f 0 (by decide) (by decide), fB.f 0 (by decide), fA.f 0 (by decide), f9.f 0 (by decide), f8.f 0 (by decide), f7.f 0 (by decide), f6.f 0 (by decide), f5.f 0 (by decide), f4.f 0 (by decide), f3.f 0 (by decide)]; exact t2
    have es := wrs_p (l := l) hq
    rw [getD_some han, getD_some hwn] at es
    have hst := sts_ok W hq
    have hC := hB.w fC
    have last : ∀ (y : List Int) (μ5 : zM), zwrs M a k l = y ++ [10] → OB μ5 m 27 (m + 11) y (31 * k + 30) → FZ m μ μ5 → μ5 m 0 = 0 → zo (f_X8_writeReports_153 (f_X8_writeReports_21 n) m a (k : Int) (S, μ5)) (fun r => ∃ μ', r = (.inl ((M.wrs a).length : Int), (S, μ')) ∧ (LBy μ' (M.wrs a) m 27 (m + 11) ∧ FZ m μ μ' ∧ μ' m 0 = 0)) := by
      intro y μ5 hy h5 f5 t5
      obtain ⟨μ6, e6, h6, f6⟩ := om_add (v := 10) H h5 (by omega) (by decide)
      have ih := ih e μ6 ⟨by rw [hy]; exact h6.up (by omega), FZ.tr f5 f6.z, by rw [f6.f 0 (by decide)]; exact t5⟩
      refine j_X8_writeReports_153 ?_
      refine zo_ob H.o (by omega) ?_
      refine zo_bn e6 ?_
      rw [w32_s (k := k) (by omega)]
      exact ih
    have sig : ∀ v : Int, (v = 33 ∨ v = 63) → zsts (M.sts a k q) = [v] → zo (f_X8_writeReports_150 (f_X8_writeReports_21 n) m a (k : Int) m v (S, μC)) (fun r => ∃ μ', r = (.inl ((M.wrs a).length : Int), (S, μ')) ∧ (LBy μ' (M.wrs a) m 27 (m + 11) ∧ FZ m μ μ' ∧ μ' m 0 = 0)) := by
      intro v hv hz
      obtain ⟨μ6, e6, h6, f6⟩ := om_add (v := v) H hC (by omega) (by omega)
      refine j_X8_writeReports_150 ?_
      refine zo_ob H.o (by omega) ?_
      refine zo_bn e6 ?_
      exact last _ μ6 (by rw [es, hz]) (h6.up (by omega)) (FZ.tr F12 f6.z) (by rw [f6.f 0 (by decide)]; exact tC)
    refine zo_pos (by omega) ?_
    refine zo_gr H.o H.r1 (by omega) (by omega) ?_
    refine zo_ob H.o (by omega) ?_
    refine zo_bn (b_ofR0 H D2 ha hq) ?_
    rw [w32_e (show -2147483648 ≤ 9 + q 0 ∧ 9 + q 0 < 2147483648 by omega), ← ea]
    refine zo_ld H.a1 (by omega) (D2.an _ an han) ?_
    refine zo_ob H.o (by omega) ?_
    refine zo_bn e3 ?_
    refine zo_ob H.o (by omega) ?_
    refine zo_bn e4 ?_
    refine zo_gr H.o H.r1 (by omega) (by omega) ?_
    refine zo_ob H.o (by omega) ?_
    refine zo_bn (b_ofR3 H D4 ha hq) ?_
    rw [w32_e (show -2147483648 ≤ 15 + q 3 ∧ 15 + q 3 < 2147483648 by omega), ← ew]
    refine zo_ld H.a1 (by omega) (D4.wn _ wn hwn) ?_
    refine zo_ob H.o (by omega) ?_
    refine zo_bn e5 ?_
    refine zo_ob H.o (by omega) ?_
    refine zo_bn e6 ?_
    refine zo_ob H.o (by omega) ?_
    refine zo_bn (b_ofR5 H D6 ha hq) ?_
    refine zo_ob H.o (by omega) ?_
    refine zo_bn e7 ?_
    refine zo_ob H.o (by omega) ?_
    refine zo_bn e8 ?_
    refine zo_ob H.o (by omega) ?_
    refine zo_bn (b_ofR6 H D8' ha hq) ?_
    refine zo_ob H.o (by omega) ?_
    refine zo_bn e9 ?_
    refine zo_ob H.o (by omega) ?_
    refine zo_bn eA ?_
    refine zo_ob H.o (by omega) ?_
    refine zo_bn (b_ofR4 H D10 ha hq) ?_
    refine zo_ob H.o (by omega) ?_
    refine zo_bn eB ?_
    refine zo_ob H.o (by omega) ?_
    refine zo_bn eC ?_
    refine zo_ite (fun z => ?_) (fun z => ?_)
    · refine zo_ite (fun y => sig 33 (Or.inl rfl) (if_pos y)) (fun y => sig 63 (Or.inr rfl) ((if_neg y).trans (if_pos (by omega))))
    · have hz : zsts (M.sts a k q) = [] := (if_neg (by omega)).trans (if_neg (by omega))
      exact last _ μC (by rw [es, hz, List.append_nil]) (hC.up (by omega)) F12 tC
  · have e9 : M.wrs a = l := fin (by omega)
    rw [e9]
    refine zo_neg (by omega) ?_
    refine zo_gf H.o h2.L.n (by omega) (by omega) ?_
    exact zo_rt ⟨μ2, rfl, h2.L, f2, t2⟩
end C75
theorem o_writeBeliefs {B x : Int} {S : zG} {μ : zM} {M : zD} {L : List zD} {K : zKs} {inp out : List Int} {c p : Int} {P : zG → zM → Prop} {a : Int} (h : Wd B x S μ M L K inp out c p) (hB : B + 99 ≤ 1000000) (hP : zPP B x P) : zOp x P (f_X7_writeBeliefs x a) (f_X8_writeBeliefs (x + 66) a) [(2, 1)] S μ := by
  have hx := h.o.x0
  have W := h.w.M
  have h60 := h.a.D.al
  have C := h.a.C
  by_cases h1 : 0 ≤ a ∧ a < (M.an.length : Int)
  · have ha : 0 ≤ a ∧ a < 6 := by omega
    have h0 : OB (zup μ (x + 3) 1 0) (x + 3) 1 (x + 3 + 1) [] 0 := nil_ob (by omega)
    have f0 : FQ x μ (zup μ (x + 3) 1 0) := fun y hy => zup_c (by omega)
    obtain ⟨r0, er, μ1, hr, hO, hF⟩ := c_wbel C h.a.bo h.a.D W ha h0 f0
    have hlen := hO.n
    rw [hr] at er
    refine op_w (v := ((M.wbs a).length : Int)) (out' := M.wbs a) h ⟨μ1, ?_, hO, hF⟩ (by unfold zI; omega) ?_ (fun S1 μ3 out' h3 => hP.q hB S1 μ3 h3)
    · apply zo_un
      refine j_X7_writeBeliefs ?_
      refine zo_ob C.o (by omega) ?_
      refine zo_bn (k_A C h.a.D h1) ?_
      refine zo_gr C.o C.r1 (by omega) (by omega) ?_
      refine zo_pf 1 h.a.bo.o (by omega) (by omega) ?_
      exact ⟨_, er, rfl⟩
    · intro S1 μ2 h8
      have g8 : W8 S1 (zup μ2 (x + 66) 0 0) (x + 66) M L K inp out c p := FM.u0.w8 h8
      refine zo_xq ?_
      refine j_X8_writeBeliefs ?_
      refine zo_ob h8.H.o (by omega) ?_
      refine zo_bn (b_isAgent h8.H h8.D) ?_
      refine m_p1 h8.H (zbl_nz h1) ?_
      refine zo_pf 27 g8.H.o (by omega) (by omega) ?_
      have f1 : FZ (x + 66) μ2 (zup (zup μ2 (x + 66) 0 0) (x + 66) 27 0) := FZ.mk ⟨fun y h1 _ _ _ => by rw [zup_c h1, zup_c h1], fun k h1 _ _ h4 => by rw [zup_j h4, zup_j h1]⟩
      exact b_wbel h8.H h8.D W ha h8.w (nil_ob (by omega)) f1 (by rw [zup_j (by decide)]; exact zup_at)
  · refine op_t 2 1 h ?_ (by decide) (by decide) ?_ (hP.q hB)
    · apply zo_un
      refine j_X7_writeBeliefs ?_
      refine zo_ob C.o (by omega) ?_
      exact zo_be (k_A_no C h.a.D h1) rfl
    · intro S1 μ2 h8
      refine zo_xt ?_
      refine j_X8_writeBeliefs ?_
      refine zo_ob h8.H.o (by omega) ?_
      refine zo_bn (b_isAgent h8.H h8.D) ?_
      refine m_f1 h8.H (zbl_n h1) ?_
      exact ⟨_, _, rfl, FM.u0, zup_at⟩
theorem o_writeReports {B x : Int} {S : zG} {μ : zM} {M : zD} {L : List zD} {K : zKs} {inp out : List Int} {c p : Int} {P : zG → zM → Prop} {a : Int} (h : Wd B x S μ M L K inp out c p) (hB : B + 99 ≤ 1000000) (hP : zPP B x P) : zOp x P (f_X7_writeReports x a) (f_X8_writeReports (x + 66) a) [(2, 1)] S μ := by
  have hx := h.o.x0
  have W := h.w.M
  have h60 := h.a.D.al
  have C := h.a.C
  by_cases h1 : 0 ≤ a ∧ a < (M.an.length : Int)
  · have ha : 0 ≤ a ∧ a < 6 := by omega
    have h0 : OB (zup μ (x + 3) 1 0) (x + 3) 1 (x + 3 + 1) [] 0 := nil_ob (by omega)
    have f0 : FQ x μ (zup μ (x + 3) 1 0) := fun y hy => zup_c (by omega)
    obtain ⟨r0, er, μ1, hr, hO, hF⟩ := c_wrep C h.a.bo h.a.D W ha h0 f0
    have hlen := hO.n
    rw [hr] at er
    refine op_w (v := ((M.wrs a).length : Int)) (out' := M.wrs a) h ⟨μ1, ?_, hO, hF⟩ (by unfold zI; omega) ?_ (fun S1 μ3 out' h3 => hP.q hB S1 μ3 h3)
    · apply zo_un
      refine j_X7_writeReports ?_
      refine zo_ob C.o (by omega) ?_
      refine zo_bn (k_A C h.a.D h1) ?_
      refine zo_gr C.o C.r1 (by omega) (by omega) ?_
      refine zo_pf 1 h.a.bo.o (by omega) (by omega) ?_
      refine zo_gr C.o C.r3 (by omega) (by omega) ?_
      refine zo_ob h.a.D.sh.o (by omega) ?_
      refine zo_bn (d_listOf (f0.dd h.a.D) ha) ?_
      exact ⟨_, er, rfl⟩
    · intro S1 μ2 h8
      have g8 : W8 S1 (zup μ2 (x + 66) 0 0) (x + 66) M L K inp out c p := FM.u0.w8 h8
      refine zo_xq ?_
      refine j_X8_writeReports ?_
      refine zo_ob h8.H.o (by omega) ?_
      refine zo_bn (b_isAgent h8.H h8.D) ?_
      refine m_p1 h8.H (zbl_nz h1) ?_
      refine zo_pf 27 g8.H.o (by omega) (by omega) ?_
      have f1 : FZ (x + 66) μ2 (zup (zup μ2 (x + 66) 0 0) (x + 66) 27 0) := FZ.mk ⟨fun y h1 _ _ _ => by rw [zup_c h1, zup_c h1], fun k h1 _ _ h4 => by rw [zup_j h4, zup_j h1]⟩
      exact b_wrep h8.H h8.D W ha h8.w (nil_ob (by omega)) f1 (by rw [zup_j (by decide)]; exact zup_at)
  · refine op_t 2 1 h ?_ (by decide) (by decide) ?_ (hP.q hB)
    · apply zo_un
      refine j_X7_writeReports ?_
      refine zo_ob C.o (by omega) ?_
      exact zo_be (k_A_no C h.a.D h1) rfl
    · intro S1 μ2 h8
      refine zo_xt ?_
      refine j_X8_writeReports ?_
      refine zo_ob h8.H.o (by omega) ?_
      refine zo_bn (b_isAgent h8.H h8.D) ?_
      refine m_f1 h8.H (zbl_n h1) ?_
      exact ⟨_, _, rfl, FM.u0, zup_at⟩
