/-! ROWS 4: new cells, reference arrays, statics, strings, null, arraycopy, Math, floats, switches -/
/-- what a new object asks -/
def zNw (own : String) (idx ci : Nat) : Prop := ∃ (r : vw_C) (ty0 : Nat → FieldType), vwCl[ci]? = some r ∧ (∀ w ∈ u_ws r.1 r.2.1 r.2.2, zL w) ∧ (∀ j, j < r.2.2 → parseFieldDescriptor (r.2.1 j).2.2.1 = some (ty0 j)) ∧ zL (.classLink own idx r.1) ∧ zL (.instantiable r.1 r.2.2) ∧ zL (.initialized r.1) ∧ (∀ j, j < r.2.2 → defaultValue (ty0 j) = if zfe ci j = 4 then .null else .int 0) ∧ (∀ j, j < r.2.2 → zfe ci j = 0 ∨ zfe ci j = 4)
theorem zmk_NM {σ : zS} {k : zK} (h : zNM σ) : zNM (zmk σ k) := by
  intro b j hb
  show zI (if b = σ.1.2.2 then 0 else σ.2 b j)
  split
  · exact zI_0
  · rename_i hne
    refine h b j (fun n hn => hb n ?_)
    show (if b = σ.1.2.2 then some k else σ.1.1 b) = _
    rw [if_neg hne]; exact hn
theorem zW_new {g : zF} {σ : zS} {k : zK} {H H1 : Heap} (hW : zW g σ H) (hz : H1.size = H.size + 1) (ho : ∀ q, q < H.size → H1[q]? = H[q]?) (ha : zat g (zmk σ k) (H.size : Int) k H1) : zW g (zmk σ k) H1 := by
  obtain ⟨w1, w2, w3, w4⟩ := hW
  refine ⟨fun a kk hk => ?_, zmk_NM w2, ?_, by omega⟩
  · by_cases e : a = σ.1.2.2
    · have hk' : (if a = σ.1.2.2 then some k else σ.1.1 a) = some kk := hk
      rw [if_pos e] at hk'
      cases Option.some.inj hk'
      rw [e, ← w3]
      exact ⟨by omega, ha⟩
    · have hk' : (if a = σ.1.2.2 then some k else σ.1.1 a) = some kk := hk
      rw [if_neg e] at hk'
      obtain ⟨g1, g2⟩ := w1 a kk hk'
      refine ⟨g1, zat_keep g2 (ho _ (zat_lt g2)) (fun j => ?_) (fun j => ?_)⟩
      · show (if a = σ.1.2.2 then -1 else σ.1.2.1 a j) = _; rw [if_neg e]
      · show (if a = σ.1.2.2 then 0 else σ.2 a j) = _; rw [if_neg e]
  · show (H1.size : Int) = σ.1.2.2 + 1
    rw [← w3, hz]; rfl
theorem zmk_e {σ : zS} {k : zK} {h : Nat} (w3 : (h : Int) = σ.1.2.2) (t : Nat) (j : Int) : ze (zmk σ k) (h : Int) t j = (t, if t = 4 then -1 else 0) := by
  unfold ze
  show (t, if t = 4 then (if (h : Int) = σ.1.2.2 then -1 else σ.1.2.1 h j) else (if (h : Int) = σ.1.2.2 then 0 else σ.2 h j)) = _
  rw [if_pos w3, if_pos w3]
theorem zv_0 (g : zF) (t : Nat) (h : t = 0 ∨ t = 4) : zv g (t, if t = 4 then -1 else 0) = if t = 4 then .null else .int 0 := by
  rcases h with rfl | rfl <;> rfl
def znw (σ : zS) (k : zK) (F : Int → zS → zFn) : zFn := F σ.1.2.2 (zmk σ k)
def zna (t N : Nat) (n : Int) (σ : zS) (F : Int → zS → zFn) : zFn := if 0 ≤ n ∧ n ≤ (N : Int) then F σ.1.2.2 (zmk σ (t, n)) else none
theorem z_max {a b : Int} (ha : zI a) (hb : zI b) : (if Int32.ofInt a < Int32.ofInt b then Int32.ofInt b else Int32.ofInt a) = Int32.ofInt (max a b) := by
  by_cases h : a < b
  · rw [if_pos ((z_lt ha hb).mpr h), Int.max_eq_right (by omega)]
  · rw [if_neg (fun q => h ((z_lt ha hb).mp q)), Int.max_eq_left (by omega)]
theorem z_min {a b : Int} (ha : zI a) (hb : zI b) : (if Int32.ofInt b < Int32.ofInt a then Int32.ofInt b else Int32.ofInt a) = Int32.ofInt (min a b) := by
  by_cases h : b < a
  · rw [if_pos ((z_lt hb ha).mpr h), Int.min_eq_right (by omega)]
  · rw [if_neg (fun q => h ((z_lt hb ha).mp q)), Int.min_eq_left (by omega)]
section ZR4
variable {g : zF} {K : zY} {R : Room} {L : List (Nat × zV)} {S : List zV} {σ : zS} {C D : Nat} {Q : zR × zS → Prop} {pc : Nat}
theorem zV_new {s : State} {H H1 : Heap} {locs : List Loc} (hV : va_S (zA g) s.heap H locs) (hz : H1.size = H.size + 1) (ho : ∀ q, q < H.size → H1[q]? = H[q]?) : va_S (zA g) s.heap H1 locs :=
  ⟨Nat.le_trans hV.1 (by omega), fun x g1 g2 => (ho x (Nat.lt_of_lt_of_le g1 hV.1)).trans (hV.2.1 x g1 g2), hV.2.2⟩
theorem r_new {idx ci : Nat} {F : Int → zS → zFn} {C' D' : Nat} (hn : zNw K.1.cls idx ci) (d : decode K.2.1 pc = .ok (.new idx, 3)) (hC' : C' + 1 ≤ C) (hD' : D' + (vwCl.getD ci ("", fun _ => ("", "", "", false), 0)).2.2 ≤ D) (h : zo (znw σ (0, (ci : Int)) F) Q) (kk : ∀ x τ, zo (F x τ) Q → zw g K R (pc + 3) L ((4, x) :: S) τ C' D' Q) : zw g K R pc L S σ C D Q := by
  intro p e s m args below meth c H locs cells slots ls hC hl hL hS hW hV h1 h2
  obtain ⟨r, ty0, hc, hu, hty, w1, w2, w3, hdf, htg⟩ := hn
  rw [List.getD_eq_getElem?_getD, hc] at hD'
  have hD' : D' + r.2.2 ≤ D := hD'
  have hQ := hC.2.2.2.2.2.2.1
  have hts : ∀ w ∈ u_ws r.1 r.2.1 r.2.2, w.before args s = true := fun w hw => hQ.2.2.1 w (hu w hw) args
  have hKn := hQ.1 ci _ hc
  refine W.newcK hC.1 hC.2.1 hC.2.2.2.2.2.1 (hQ.2.2.1 _ w1 _) (hQ.2.2.1 _ w2 _) (hQ.2.2.1 _ w3 _) rfl d (by omega) (by omega) hKn.2.1 rfl fun H1 kC hkC e1 z1 o1 => ?_
  have hx : zv g (4, σ.1.2.2) = .ref H.size := by rw [← hW.2.2.1]; exact z_ref (by omega)
  have kk := kk σ.1.2.2 (zmk σ (0, (ci : Int))) h p e s m args below meth c H1 locs (cells + 1) (slots + r.2.2) ls hC hl hL (zS_c (by trivial) hS) (zW_new hW z1 o1 ⟨r, hc, (u_born ty0 hts (fun w h => h) hKn hkC e1 hty).to (fun j hj => ?_)⟩) (zV_new hV z1 o1) (by omega) (by omega)
  · rw [List.map_cons, hx] at kk
    exact kk
  · rw [hdf j hj]
    show _ = zv g (ze _ _ (zfe ci j) j)
    rw [zmk_e hW.2.2.1]
    exact (zv_0 g _ (htg j hj)).symm
theorem r_newa1 {n : Int} {F : Int → zS → zFn} {C' D' N : Nat} (hw : zL (.arrayClass .int)) (d : decode K.2.1 pc = .ok (.newarray .int, 2)) (hN : N < 1000000) (hC' : C' + 1 ≤ C) (hD' : D' + N ≤ D) (h : zo (zna 1 N n σ F) Q) (kk : ∀ x τ, zo (F x τ) Q → zw g K R (pc + 2) L ((4, x) :: S) τ C' D' Q) : zw g K R pc L ((0, n) :: S) σ C D Q := by
  intro p e s m args below meth c H locs cells slots ls hC hl hL hS hW hV h1 h2
  obtain ⟨⟨n0, n1⟩, h⟩ := zite_o h
  have hz : zI n := zS_1 hS
  have en : (Int32.ofInt n).toNatClampNeg = n.toNat := by
    unfold zI at hz
    exact Int32.toNatClampNeg_ofInt_of_le (by omega) (by omega)
  have hQ := hC.2.2.2.2.2.2.1
  have hx : zv g (4, σ.1.2.2) = .ref H.size := by rw [← hW.2.2.1]; exact z_ref (by omega)
  refine va_newaK (atype := .int) hC.1 hC.2.1 (hQ.2.2.1 _ hw _) rfl d rfl (fun q => by have := (z_lt hz zI_0).mp q; omega) en (by show n.toNat * _ ≤ 536870912; exact Nat.le_trans (Nat.mul_le_mul_left _ (show componentBytes (newarray.typeOf .int) ≤ 8 by decide)) (by omega)) (by omega) (by omega) rfl fun H1 cA e1 z1 o1 hAr hNm => ?_
  have hcA : g.2.1 1 = cA := by
    have h8 := (hQ.2.1 1 (by decide) (by decide)).2
    exact Option.some.inj ((show s.vm.findClass _ = some (g.2.1 1) from h8).symm.trans hNm)
  have kk := kk σ.1.2.2 (zmk σ (1, n)) h p e s m args below meth c H1 locs (cells + 1) (slots + n.toNat) ls hC hl hL (zS_c (by trivial) (zS_t hS)) (zW_new hW z1 o1 ⟨by decide, ⟨n0, by show n < 2147483648; omega⟩, ?_⟩) (zV_new hV z1 o1) (by omega) (by omega)
  · rw [List.map_cons, hx] at kk
    exact kk
  · show H1[((H.size : Nat) : Int).toNat]? = _
    rw [Int.toNat_natCast, e1, ← hcA]
    congr 2
    funext j
    show _ = zv g (ze _ _ _ _)
    rw [zmk_e hW.2.2.1]
    rfl
theorem r_newa2 {n : Int} {F : Int → zS → zFn} {C' D' N : Nat} (hw : zL (.arrayClass .byte)) (d : decode K.2.1 pc = .ok (.newarray .byte, 2)) (hN : N < 1000000) (hC' : C' + 1 ≤ C) (hD' : D' + N ≤ D) (h : zo (zna 2 N n σ F) Q) (kk : ∀ x τ, zo (F x τ) Q → zw g K R (pc + 2) L ((4, x) :: S) τ C' D' Q) : zw g K R pc L ((0, n) :: S) σ C D Q := by
  intro p e s m args below meth c H locs cells slots ls hC hl hL hS hW hV h1 h2
  obtain ⟨⟨n0, n1⟩, h⟩ := zite_o h
  have hz : zI n := zS_1 hS
  have en : (Int32.ofInt n).toNatClampNeg = n.toNat := by
    unfold zI at hz
    exact Int32.toNatClampNeg_ofInt_of_le (by omega) (by omega)
  have hQ := hC.2.2.2.2.2.2.1
  have hx : zv g (4, σ.1.2.2) = .ref H.size := by rw [← hW.2.2.1]; exact z_ref (by omega)
  refine va_newaK (atype := .byte) hC.1 hC.2.1 (hQ.2.2.1 _ hw _) rfl d rfl (fun q => by have := (z_lt hz zI_0).mp q; omega) en (by show n.toNat * _ ≤ 536870912; exact Nat.le_trans (Nat.mul_le_mul_left _ (show componentBytes (newarray.typeOf .byte) ≤ 8 by decide)) (by omega)) (by omega) (by omega) rfl fun H1 cA e1 z1 o1 hAr hNm => ?_
  have hcA : g.2.1 2 = cA := by
    have h8 := (hQ.2.1 2 (by decide) (by decide)).2
    exact Option.some.inj ((show s.vm.findClass _ = some (g.2.1 2) from h8).symm.trans hNm)
  have kk := kk σ.1.2.2 (zmk σ (2, n)) h p e s m args below meth c H1 locs (cells + 1) (slots + n.toNat) ls hC hl hL (zS_c (by trivial) (zS_t hS)) (zW_new hW z1 o1 ⟨by decide, ⟨n0, by show n < 2147483648; omega⟩, ?_⟩) (zV_new hV z1 o1) (by omega) (by omega)
  · rw [List.map_cons, hx] at kk
    exact kk
  · show H1[((H.size : Nat) : Int).toNat]? = _
    rw [Int.toNat_natCast, e1, ← hcA]
    congr 2
    funext j
    show _ = zv g (ze _ _ _ _)
    rw [zmk_e hW.2.2.1]
    rfl
theorem r_anew6 {n : Int} {idx : Nat} {F : Int → zS → zFn} {C' D' N : Nat} (hw1 : zL (.classLink K.1.cls idx "PathTrust$Reports")) (hw2 : zL (.arrayOver (.object "PathTrust$Reports"))) (d : decode K.2.1 pc = .ok (.anewarray idx, 3)) (hN : N < 1000000) (hC' : C' + 1 ≤ C) (hD' : D' + N ≤ D) (h : zo (zna 6 N n σ F) Q) (kk : ∀ x τ, zo (F x τ) Q → zw g K R (pc + 3) L ((4, x) :: S) τ C' D' Q) : zw g K R pc L ((0, n) :: S) σ C D Q := by
  intro p e s m args below meth c H locs cells slots ls hC hl hL hS hW hV h1 h2
  obtain ⟨⟨n0, n1⟩, h⟩ := zite_o h
  have hz : zI n := zS_1 hS
  have en : (Int32.ofInt n).toNatClampNeg = n.toNat := by
    unfold zI at hz
    exact Int32.toNatClampNeg_ofInt_of_le (by omega) (by omega)
  have hQ := hC.2.2.2.2.2.2.1
  have hx : zv g (4, σ.1.2.2) = .ref H.size := by rw [← hW.2.2.1]; exact z_ref (by omega)
  refine W.anew hC.1 hC.2.1 hC.2.2.2.2.2.1 (hQ.2.2.1 _ hw1 _) (hQ.2.2.1 _ hw2 _) rfl d rfl (fun q => by have := (z_lt hz zI_0).mp q; omega) (by rw [en]; omega) (by omega) (by rw [en]; omega) fun cA kA comp f1 f2 f3 f4 => ?_
  rw [en]
  have hcA : g.2.1 6 = cA := by
    obtain ⟨kA', comp', a1, a2, a3, a4⟩ := (show va_RA s (g.2.1 6) (.object "PathTrust$Reports") from (hQ.2.1 6 (by decide) (by decide)).2)
    exact Option.some.inj (a4.symm.trans f1)
  have z1 : (H.push { cls := cA, slots := Array.replicate n.toNat .null, vm := .none } : Heap).size = H.size + 1 := by simp
  have o1 : ∀ q, q < H.size → (H.push { cls := cA, slots := Array.replicate n.toNat .null, vm := .none } : Heap)[q]? = H[q]? := fun q hq => by rw [Array.getElem?_push, if_neg (Nat.ne_of_lt hq)]
  have kk := kk σ.1.2.2 (zmk σ (6, n)) h p e s m args below meth c _ locs (cells + 1) (slots + n.toNat) ls hC hl hL (zS_c (by trivial) (zS_t hS)) (zW_new hW z1 o1 ⟨by decide, ⟨n0, by show n < 2147483648; omega⟩, ?_⟩) (zV_new hV z1 o1) (by omega) (by omega)
  · rw [List.map_cons, hx] at kk
    exact kk
  · show (H.push _)[((H.size : Nat) : Int).toNat]? = _
    rw [Int.toNat_natCast, Array.getElem?_push_size, hcA]
    congr 1
    unfold arrV
    congr 1
    apply Array.ext
    · simp
    · intro i hi1 hi2
      simp only [Array.getElem_replicate, Array.getElem_ofFn]
      show _ = zv g (ze _ _ _ _)
      rw [zmk_e hW.2.2.1]
      rfl
theorem r_aast6 {a i v : Int} {F : zS → zFn} (d : decode K.2.1 pc = .ok (.aastore, 1)) (h : zo (if v < 0 ∨ σ.1.1 v = some (0, 5) then zsr_ 6 a i v σ F else none) Q) (kk : ∀ τ, zo (F τ) Q → zw g K R (pc + 1) L S τ C D Q) : zw g K R pc L ((4, v) :: (0, i) :: (4, a) :: S) σ C D Q := by
  intro p e s m args below meth c H locs cells slots ls hC hl hL hS hW hV h1 h2
  obtain ⟨hc, h⟩ := zite_o h
  obtain ⟨hin, h⟩ := zite_o h
  obtain ⟨n, hn, i0, i1⟩ := zin_k hin
  obtain ⟨gb, -, ⟨n0, n1⟩, hcell⟩ := hW.1 a _ hn
  have hi : zI i := zS_1 (zS_t hS)
  have hQ := hC.2.2.2.2.2.2.1
  obtain ⟨hv, ev⟩ := zvp (a := a) (N := n.toNat) i0 (by omega) hi
  have e0 : zv g (4, a) = .ref a.toNat := z_ref (by omega)
  have hfin : ∀ H1 : Heap, H1[a.toNat]? = some ((arrV (g.2.1 6) n.toNat (fun j => zv g (ze σ a 4 j))).setSlot i.toNat (zv g (4, v))) → H1.size = H.size → (∀ q, q ≠ a.toNat → H1[q]? = H[q]?) → W p g.2.2.2.1 e R s m args below meth c H1 (locs ++ [⟨a.toNat, i.toNat⟩]) cells slots (vx_MQ below (zQc g K Q) (zXc g Q) args s R.cells R.slots (zA g)) (F0 m (pc + 1) ls (S.map (zv g))) := by
    intro H1 e1 e2 e3
    refine kk _ h p e s m args below meth c H1 _ cells slots ls hC hl hL (zS_t (zS_t (zS_t hS))) (zW_put hW hn e2 e3 rfl rfl (fun b j hb => zup_ne hb) (fun b j hb => rfl) (zat_st (t := 5) (σ := σ) (τ := ((σ.1.1, zup σ.1.2.1 a i v, σ.1.2.2), σ.2)) (by decide) ⟨n0, n1⟩ i0 e1 ?_ (fun j hj => ?_)) hW.2.1) (hV.put e2 e3 (by show g.2.2.1 ≤ a.toNat; omega)) h1 h2
    · show _ = zv g (4, zup σ.1.2.1 a i v a i)
      unfold zup
      rw [if_pos ⟨rfl, rfl⟩]
    · show (4, zup σ.1.2.1 a i v a j) = (4, σ.1.2.1 a j)
      unfold zup
      rw [if_neg (fun z => hj z.2)]
  rw [List.map_cons, List.map_cons, List.map_cons, e0]
  by_cases hv0 : v < 0
  · have e9 : zv g (4, v) = .null := by rw [zv_4]; exact if_pos hv0
    rw [e9] at hfin ⊢
    refine va_WaastN (C := "PathTrust$Reports") hC.1 hC.2.1 hcell ((hQ.2.1 6 (by decide) (by decide)).1 _ _) (fun q => by cases q) (by show ¬ (_ ∨ (arrV _ _ _).slots.size ≤ _); rw [arrV_size]; exact hv) rfl rfl d fun H1 e1 e2 e3 => ?_
    rw [ev] at e1 ⊢
    exact hfin H1 e1 e2 e3
  · have e9 : zv g (4, v) = .ref v.toNat := by rw [zv_4]; exact if_neg hv0
    rw [e9] at hfin ⊢
    rcases hc with hc | hc
    · exact absurd hc hv0
    · obtain ⟨gv, rr, hrr, cellV, g1, g2, g3, g4⟩ := hW.1 v _ hc
      have hcls := (hQ.1 5 rr hrr).2
      obtain ⟨kA, comp, k1, k2, k3, -⟩ := (show va_RA s (g.2.1 6) (.object "PathTrust$Reports") from (hQ.2.1 6 (by decide) (by decide)).2)
      have hrn : rr.1 = "PathTrust$Reports" := by have := hrr; rw [show vwCl[(((0, 5) : zK).2.toNat)]? = some (RX5, TX5, 2) from rfl] at this; cases this; rfl
      rw [hrn] at hcls
      have hcomp : comp = g.1.1 5 := Option.some.inj (k3.symm.trans hcls.1)
      subst hcomp
      obtain ⟨kC, hkC, -⟩ := hcls.2
      refine W.aast hC.1 hC.2.1 hcell (fun q h => by cases h) (fun h => by cases h) k1 k2 rfl hkC ⟨fun q => hv (Or.inl q), by show _ < (arrV _ _ _).slots.size; rw [arrV_size]; exact Nat.not_le.mp (fun q => hv (Or.inr q))⟩ g1 (fun q h => by rw [g3] at h; cases h) (by rw [g2]; exact hkC) (by rw [g2]; exact va_assign hcls) rfl rfl d fun H1 e1 e2 e3 => ?_
      rw [ev] at e1 ⊢
      exact hfin H1 e1 e2 e3
theorem r_anew7 {n : Int} {idx : Nat} {F : Int → zS → zFn} {C' D' N : Nat} (hw1 : zL (.classLink K.1.cls idx "PathTrust$Desk")) (hw2 : zL (.arrayOver (.object "PathTrust$Desk"))) (d : decode K.2.1 pc = .ok (.anewarray idx, 3)) (hN : N < 1000000) (hC' : C' + 1 ≤ C) (hD' : D' + N ≤ D) (h : zo (zna 7 N n σ F) Q) (kk : ∀ x τ, zo (F x τ) Q → zw g K R (pc + 3) L ((4, x) :: S) τ C' D' Q) : zw g K R pc L ((0, n) :: S) σ C D Q := by
  intro p e s m args below meth c H locs cells slots ls hC hl hL hS hW hV h1 h2
  obtain ⟨⟨n0, n1⟩, h⟩ := zite_o h
  have hz : zI n := zS_1 hS
  have en : (Int32.ofInt n).toNatClampNeg = n.toNat := by
    unfold zI at hz
    exact Int32.toNatClampNeg_ofInt_of_le (by omega) (by omega)
  have hQ := hC.2.2.2.2.2.2.1
  have hx : zv g (4, σ.1.2.2) = .ref H.size := by rw [← hW.2.2.1]; exact z_ref (by omega)
  refine W.anew hC.1 hC.2.1 hC.2.2.2.2.2.1 (hQ.2.2.1 _ hw1 _) (hQ.2.2.1 _ hw2 _) rfl d rfl (fun q => by have := (z_lt hz zI_0).mp q; omega) (by rw [en]; omega) (by omega) (by rw [en]; omega) fun cA kA comp f1 f2 f3 f4 => ?_
  rw [en]
  have hcA : g.2.1 7 = cA := by
    obtain ⟨kA', comp', a1, a2, a3, a4⟩ := (show va_RA s (g.2.1 7) (.object "PathTrust$Desk") from (hQ.2.1 7 (by decide) (by decide)).2)
    exact Option.some.inj (a4.symm.trans f1)
  have z1 : (H.push { cls := cA, slots := Array.replicate n.toNat .null, vm := .none } : Heap).size = H.size + 1 := by simp
  have o1 : ∀ q, q < H.size → (H.push { cls := cA, slots := Array.replicate n.toNat .null, vm := .none } : Heap)[q]? = H[q]? := fun q hq => by rw [Array.getElem?_push, if_neg (Nat.ne_of_lt hq)]
  have kk := kk σ.1.2.2 (zmk σ (7, n)) h p e s m args below meth c _ locs (cells + 1) (slots + n.toNat) ls hC hl hL (zS_c (by trivial) (zS_t hS)) (zW_new hW z1 o1 ⟨by decide, ⟨n0, by show n < 2147483648; omega⟩, ?_⟩) (zV_new hV z1 o1) (by omega) (by omega)
  · rw [List.map_cons, hx] at kk
    exact kk
  · show (H.push _)[((H.size : Nat) : Int).toNat]? = _
    rw [Int.toNat_natCast, Array.getElem?_push_size, hcA]
    congr 1
    unfold arrV
    congr 1
    apply Array.ext
    · simp
    · intro i hi1 hi2
      simp only [Array.getElem_replicate, Array.getElem_ofFn]
      show _ = zv g (ze _ _ _ _)
      rw [zmk_e hW.2.2.1]
      rfl
theorem r_aast7 {a i v : Int} {F : zS → zFn} (d : decode K.2.1 pc = .ok (.aastore, 1)) (h : zo (if v < 0 ∨ σ.1.1 v = some (0, 1) then zsr_ 7 a i v σ F else none) Q) (kk : ∀ τ, zo (F τ) Q → zw g K R (pc + 1) L S τ C D Q) : zw g K R pc L ((4, v) :: (0, i) :: (4, a) :: S) σ C D Q := by
  intro p e s m args below meth c H locs cells slots ls hC hl hL hS hW hV h1 h2
  obtain ⟨hc, h⟩ := zite_o h
  obtain ⟨hin, h⟩ := zite_o h
  obtain ⟨n, hn, i0, i1⟩ := zin_k hin
  obtain ⟨gb, -, ⟨n0, n1⟩, hcell⟩ := hW.1 a _ hn
  have hi : zI i := zS_1 (zS_t hS)
  have hQ := hC.2.2.2.2.2.2.1
  obtain ⟨hv, ev⟩ := zvp (a := a) (N := n.toNat) i0 (by omega) hi
  have e0 : zv g (4, a) = .ref a.toNat := z_ref (by omega)
  have hfin : ∀ H1 : Heap, H1[a.toNat]? = some ((arrV (g.2.1 7) n.toNat (fun j => zv g (ze σ a 4 j))).setSlot i.toNat (zv g (4, v))) → H1.size = H.size → (∀ q, q ≠ a.toNat → H1[q]? = H[q]?) → W p g.2.2.2.1 e R s m args below meth c H1 (locs ++ [⟨a.toNat, i.toNat⟩]) cells slots (vx_MQ below (zQc g K Q) (zXc g Q) args s R.cells R.slots (zA g)) (F0 m (pc + 1) ls (S.map (zv g))) := by
    intro H1 e1 e2 e3
    refine kk _ h p e s m args below meth c H1 _ cells slots ls hC hl hL (zS_t (zS_t (zS_t hS))) (zW_put hW hn e2 e3 rfl rfl (fun b j hb => zup_ne hb) (fun b j hb => rfl) (zat_st (t := 6) (σ := σ) (τ := ((σ.1.1, zup σ.1.2.1 a i v, σ.1.2.2), σ.2)) (by decide) ⟨n0, n1⟩ i0 e1 ?_ (fun j hj => ?_)) hW.2.1) (hV.put e2 e3 (by show g.2.2.1 ≤ a.toNat; omega)) h1 h2
    · show _ = zv g (4, zup σ.1.2.1 a i v a i)
      unfold zup
      rw [if_pos ⟨rfl, rfl⟩]
    · show (4, zup σ.1.2.1 a i v a j) = (4, σ.1.2.1 a j)
      unfold zup
      rw [if_neg (fun z => hj z.2)]
  rw [List.map_cons, List.map_cons, List.map_cons, e0]
  by_cases hv0 : v < 0
  · have e9 : zv g (4, v) = .null := by rw [zv_4]; exact if_pos hv0
    rw [e9] at hfin ⊢
    refine va_WaastN (C := "PathTrust$Desk") hC.1 hC.2.1 hcell ((hQ.2.1 7 (by decide) (by decide)).1 _ _) (fun q => by cases q) (by show ¬ (_ ∨ (arrV _ _ _).slots.size ≤ _); rw [arrV_size]; exact hv) rfl rfl d fun H1 e1 e2 e3 => ?_
    rw [ev] at e1 ⊢
    exact hfin H1 e1 e2 e3
  · have e9 : zv g (4, v) = .ref v.toNat := by rw [zv_4]; exact if_neg hv0
    rw [e9] at hfin ⊢
    rcases hc with hc | hc
    · exact absurd hc hv0
    · obtain ⟨gv, rr, hrr, cellV, g1, g2, g3, g4⟩ := hW.1 v _ hc
      have hcls := (hQ.1 1 rr hrr).2
      obtain ⟨kA, comp, k1, k2, k3, -⟩ := (show va_RA s (g.2.1 7) (.object "PathTrust$Desk") from (hQ.2.1 7 (by decide) (by decide)).2)
      have hrn : rr.1 = "PathTrust$Desk" := by have := hrr; rw [show vwCl[(((0, 1) : zK).2.toNat)]? = some (RX1, TX1, 9) from rfl] at this; cases this; rfl
      rw [hrn] at hcls
      have hcomp : comp = g.1.1 1 := Option.some.inj (k3.symm.trans hcls.1)
      subst hcomp
      obtain ⟨kC, hkC, -⟩ := hcls.2
      refine W.aast hC.1 hC.2.1 hcell (fun q h => by cases h) (fun h => by cases h) k1 k2 rfl hkC ⟨fun q => hv (Or.inl q), by show _ < (arrV _ _ _).slots.size; rw [arrV_size]; exact Nat.not_le.mp (fun q => hv (Or.inr q))⟩ g1 (fun q h => by rw [g3] at h; cases h) (by rw [g2]; exact hkC) (by rw [g2]; exact va_assign hcls) rfl rfl d fun H1 e1 e2 e3 => ?_
      rw [ev] at e1 ⊢
      exact hfin H1 e1 e2 e3
/-- static arrays -/
theorem r_gets {idx k : Nat} (hk : k < 3) (hw : zL (.fieldLink K.1.cls idx "PathTrust" (zsn k) "[I") ∨ ∃ host, zL (.fieldLinkNest K.1.cls idx "PathTrust" (zsn k) "[I" host)) (d : decode K.2.1 pc = .ok (.getstatic idx, 3)) (kk : zw g K R (pc + 3) L ((5, (k : Int)) :: S) σ C D Q) : zw g K R pc L S σ C D Q := by
  intro p e s m args below meth c H locs cells slots ls hC hl hL hS hW hV h1 h2
  have hQ := hC.2.2.2.2.2.2.1
  have kk := kk p e s m args below meth c H locs cells slots ls hC hl hL (zS_c (by trivial) hS) hW hV h1 h2
  rcases hw with hw | ⟨host, hw⟩
  · exact va_gets hC.1 hC.2.1 (hQ.2.2.2.1 k hk).1 hV hC.2.2.2.2.2.1 (hQ.2.2.1 _ hw _) (fun x h => h) d kk
  · exact va_getsN hC.1 hC.2.1 (hQ.2.2.2.1 k hk).1 hV hC.2.2.2.2.2.1 (hQ.2.2.1 _ hw _) (fun x h => h) d kk
def zsa (k : Nat) (i : Int) (F : Int → zFn) : zFn := if 0 ≤ i ∧ i < 5 then F (zsv k i) else none
theorem zsv_I (k : Nat) (i : Int) : zI (zsv k i) := by
  unfold zI zsv
  split <;> (repeat' split) <;> omega
theorem r_sald {k : Nat} {i : Int} {F : Int → zFn} (hk : k < 3) (d : decode K.2.1 pc = .ok (.iaload, 1)) (h : zo (zsa k i F) Q) (kk : ∀ x, zo (F x) Q → zw g K R (pc + 1) L ((0, x) :: S) σ C D Q) : zw g K R pc L ((0, i) :: (5, (k : Int)) :: S) σ C D Q := by
  intro p e s m args below meth c H locs cells slots ls hC hl hL hS hW hV h1 h2
  obtain ⟨⟨i0, i1⟩, h⟩ := zite_o h
  have hQ := hC.2.2.2.2.2.2.1
  have hi : zI i := zS_1 hS
  obtain ⟨hv, ev⟩ := zvp (a := 0) (N := 5) i0 (by omega) hi
  obtain ⟨cell, c1, c2, c3, c4, c5, c6, c7⟩ := (hQ.2.2.2.1 k hk).2
  have kk0 := kk (zsv k i) h p e s m args below meth c H locs cells slots ls hC hl hL (zS_c (zsv_I k i) (zS_t (zS_t hS))) hW hV h1 h2
  have hslot : cell.slots[i.toNat]? = some (.int (Int32.ofInt (zsv k i))) := by
    have := c6 i.toNat (by omega)
    rw [this]
    show some (Value.int (Int32.ofInt (zsv k ((i.toNat : Nat) : Int)))) = _
    rw [Int.toNat_of_nonneg i0]
  refine W.iald (v := .int (Int32.ofInt (zsv k i))) hC.1 hC.2.1 (by show H[g.2.2.2.2.1 k]? = _; rw [hV.2.1 _ (Array.getElem?_eq_some_iff.mp c1).1 c7]; exact c1) c2 c3 (fun q => ?_) (by rw [ev]; exact hslot) rfl rfl d kk0
  rcases q with q | q
  · exact hv (Or.inl q)
  · exact hv (Or.inr (Nat.le_trans c4 q))
/-- string constants of the language -/
theorem r_ldcS {idx j : Nat} {text : String} (hq : (K.1.cls, idx, text, j) ∈ zsr) (d : decode K.2.1 pc = .ok (.ldc idx, 2)) (kk : zw g K R (pc + 2) L ((6, (j : Int)) :: S) σ C D Q) : zw g K R pc L S σ C D Q := by
  intro p e s m args below meth c H locs cells slots ls hC hl hL hS hW hV h1 h2
  have hQ := hC.2.2.2.2.2.2.1
  exact va_ldcS hC.1 hC.2.1 hC.2.2.2.2.2.1 (hQ.2.2.2.2.2.1 _ hq) d (kk p e s m args below meth c H locs cells slots ls hC hl hL (zS_c (by trivial) hS) hW hV h1 h2)
theorem r_ldcSW {idx j : Nat} {text : String} (hq : (K.1.cls, idx, text, j) ∈ zsr) (d : decode K.2.1 pc = .ok (.ldc_w idx, 3)) (kk : zw g K R (pc + 3) L ((6, (j : Int)) :: S) σ C D Q) : zw g K R pc L S σ C D Q := by
  intro p e s m args below meth c H locs cells slots ls hC hl hL hS hW hV h1 h2
  have hQ := hC.2.2.2.2.2.2.1
  have kk := kk p e s m args below meth c H locs cells slots ls hC hl hL (zS_c (by trivial) hS) hW hV h1 h2
  have hZ := hQ.2.2.2.2.2.1 _ hq
  intro T hT X
  obtain ⟨t, a1, b1⟩ := kk T hT X
  exact ⟨t, X.ldcStringW hC.1 hC.2.2.2.2.2.1 (text := text) (a := g.2.2.2.2.2 j) hZ.1 hZ.2 (g := F0 m pc ls (S.map (zv g))) rfl (by rw [hC.2.1]; exact d) t a1, b1⟩
theorem r_null (d : decode K.2.1 pc = .ok (.aconst_null, 1)) (kk : zw g K R (pc + 1) L ((4, -1) :: S) σ C D Q) : zw g K R pc L S σ C D Q := by
  intro p e s m args below meth c H locs cells slots ls hC hl hL hS hW hV h1 h2
  exact lv_null hC.1 hC.2.1 d (kk p e s m args below meth c H locs cells slots ls hC hl hL (zS_c (by trivial) hS) hW hV h1 h2)
theorem r_ifnull {a off : Int} {A B : zFn} (tgt : Nat) (d : decode K.2.1 pc = .ok (.ifnull off, 3)) (ht : (pc : Int) + off = (tgt : Int)) (h : zo (if a < 0 then A else B) Q) (kt : zo A Q → zw g K R tgt L S σ C D Q) (kf : zo B Q → zw g K R (pc + 3) L S σ C D Q) : zw g K R pc L ((4, a) :: S) σ C D Q := by
  intro p e s m args below meth c H locs cells slots ls hC hl hL hS hW hV h1 h2
  have hh := zo_if h
  by_cases ha : a < 0
  · have e0 : zv g (4, a) = .null := by rw [zv_4]; exact if_pos ha
    rw [List.map_cons, e0]
    exact lv_ifnullN hC.1 hC.2.1 d ht (kt (hh.1 ha) p e s m args below meth c H locs cells slots ls hC hl hL (zS_t hS) hW hV h1 h2)
  · have e0 : zv g (4, a) = .ref a.toNat := by rw [zv_4]; exact if_neg ha
    rw [List.map_cons, e0]
    exact lv_ifnull hC.1 hC.2.1 d (kf (hh.2 ha) p e s m args below meth c H locs cells slots ls hC hl hL (zS_t hS) hW hV h1 h2)
theorem r_ifnonnull {a off : Int} {A B : zFn} (tgt : Nat) (d : decode K.2.1 pc = .ok (.ifnonnull off, 3)) (ht : (pc : Int) + off = (tgt : Int)) (h : zo (if a < 0 then A else B) Q) (kt : zo B Q → zw g K R tgt L S σ C D Q) (kf : zo A Q → zw g K R (pc + 3) L S σ C D Q) : zw g K R pc L ((4, a) :: S) σ C D Q := by
  intro p e s m args below meth c H locs cells slots ls hC hl hL hS hW hV h1 h2
  have hh := zo_if h
  by_cases ha : a < 0
  · have e0 : zv g (4, a) = .null := by rw [zv_4]; exact if_pos ha
    rw [List.map_cons, e0]
    exact lv_ifnonnullN hC.1 hC.2.1 d (kf (hh.1 ha) p e s m args below meth c H locs cells slots ls hC hl hL (zS_t hS) hW hV h1 h2)
  · have e0 : zv g (4, a) = .ref a.toNat := by rw [zv_4]; exact if_neg ha
    rw [List.map_cons, e0]
    exact lv_ifnonnull hC.1 hC.2.1 d ht (kt (hh.2 ha) p e s m args below meth c H locs cells slots ls hC hl hL (zS_t hS) hW hV h1 h2)
/-- System.arraycopy between int arrays -/
def zcp (M : zM) (a0 sp a dp n : Int) : zM := fun b j => if b = a ∧ dp ≤ j ∧ j < dp + n then M a0 (sp + (j - dp)) else M b j
def zak (σ : zS) (a0 sp a dp n : Int) : Prop := match σ.1.1 a0, σ.1.1 a with
  | some k0, some k1 => k0.1 = 1 ∧ k1.1 = 1 ∧ 0 ≤ sp ∧ 0 ≤ dp ∧ 0 ≤ n ∧ sp + n ≤ k0.2 ∧ dp + n ≤ k1.2
  | _, _ => False
def zakD (σ : zS) (a0 sp a dp n : Int) : Decidable (zak σ a0 sp a dp n) := by
  unfold zak
  split <;> infer_instance
def zac (a0 sp a dp n : Int) (σ : zS) (F : zS → zFn) : zFn := @ite _ (zak σ a0 sp a dp n) (zakD σ a0 sp a dp n) (F (σ.1, zcp σ.2 a0 sp a dp n)) none
theorem zak_k {a0 sp a dp n : Int} (h : zak σ a0 sp a dp n) : ∃ n0 n1 : Int, σ.1.1 a0 = some (1, n0) ∧ σ.1.1 a = some (1, n1) ∧ 0 ≤ sp ∧ 0 ≤ dp ∧ 0 ≤ n ∧ sp + n ≤ n0 ∧ dp + n ≤ n1 := by
  unfold zak at h
  split at h
  · rename_i k0 k1 h0 h1
    obtain ⟨x0, y0⟩ := k0
    obtain ⟨x1, y1⟩ := k1
    obtain ⟨rfl, rfl, h⟩ := h
    exact ⟨y0, y1, h0, h1, h⟩
  · exact h.elim
theorem r_acopy {idx : Nat} {a0 sp a dp n : Int} {F : zS → zFn} (hw : zL (.methodLink K.1.cls idx arraycopyName) ∧ zL (.native arraycopyName) ∧ zL (.static arraycopyName) ∧ zL (.initialized "java/lang/System")) (hR : 1 ≤ R.frames ∧ (S.map fun v => if v.1 == 1 || v.1 == 3 then 2 else 1).sum + (nativeFrameWords "java/lang/System" "arraycopy" 5 + 11) ≤ R.locals) (d : decode K.2.1 pc = .ok (.invokestatic idx, 3)) (h : zo (zac a0 sp a dp n σ F) Q) (kk : ∀ τ, zo (F τ) Q → zw g K R (pc + 3) L S τ C D Q) : zw g K R pc L ((0, n) :: (0, dp) :: (4, a) :: (0, sp) :: (4, a0) :: S) σ C D Q := by
  intro p e s m args below meth c H locs cells slots ls hC hl hL hS hW hV h1 h2
  obtain ⟨hin, h⟩ := zite_o h
  obtain ⟨n0, n1, hk0, hk1, p1, p2, p3, p4, p5⟩ := zak_k hin
  have hQ := hC.2.2.2.2.2.2.1
  obtain ⟨gb0, -, ⟨m0, m1⟩, hc0⟩ := hW.1 a0 _ hk0
  obtain ⟨gb1, -, ⟨m2, m3⟩, hc1⟩ := hW.1 a _ hk1
  have hzn : zI n := zS_1 hS
  have hzd : zI dp := zS_1 (zS_t hS)
  have hzs : zI sp := zS_1 (zS_t (zS_t (zS_t hS)))
  have e0 : zv g (4, a) = .ref a.toNat := z_ref (by omega)
  have e1 : zv g (4, a0) = .ref a0.toNat := z_ref (by omega)
  have tn : ∀ z : Int, zI z → 0 ≤ z → (Int32.ofInt z).toNatClampNeg = z.toNat ∧ ¬ Int32.ofInt z < 0 := fun z hz z0 => ⟨by unfold zI at hz; exact Int32.toNatClampNeg_ofInt_of_le (by omega) (by omega), fun q => by have := (z_lt hz zI_0).mp q; omega⟩
  obtain ⟨tn1, tn2⟩ := tn n hzn p3
  obtain ⟨td1, td2⟩ := tn dp hzd p2
  obtain ⟨ts1, ts2⟩ := tn sp hzs p1
  obtain ⟨-, k0, hkk0, cm0, hkd0⟩ := (hQ.2.1 1 (by decide) (by decide)).1 n0.toNat (fun j => zv g (ze σ a0 0 j))
  obtain ⟨-, k1, hkk1, cm1, hkd1⟩ := (hQ.2.1 1 (by decide) (by decide)).1 n1.toNat (fun j => zv g (ze σ a 0 j))
  rw [List.map_cons, List.map_cons, List.map_cons, List.map_cons, List.map_cons, e0, e1]
  have hcs : ((S.map (zv g)).map fun v => v.category).sum + (nativeFrameWords "java/lang/System" "arraycopy" 5 + 11) ≤ R.locals := by
    refine Nat.le_trans (Nat.le_of_eq ?_) hR.2
    congr 1
    rw [List.map_map]
    congr 1
    apply List.map_congr_left
    intro v _
    have h := zcat g v
    show (zv g v).category = _
    rcases lv_cat (zv g v) with e | e <;> rw [e] at h ⊢
    · rw [if_neg]; rw [← h]; decide
    · rw [if_pos]; rw [← h]; rfl
  intro T hT X
  obtain ⟨vm', X', step⟩ := X.arraycopy hC.1 hC.2.2.2.2.2.1 (hQ.2.2.1 _ hw.1 _) (hQ.2.2.1 _ hw.2.1 _) (hQ.2.2.1 _ hw.2.2.1 _) (hQ.2.2.1 _ hw.2.2.2 _) (src := a0.toNat) (dst := a.toNat) (cs := arrV (g.2.1 1) n0.toNat (fun j => zv g (ze σ a0 0 j))) (cd := arrV (g.2.1 1) n1.toNat (fun j => zv g (ze σ a 0 j))) (srcPos := Int32.ofInt sp) (destPos := Int32.ofInt dp) (n := Int32.ofInt n) (by rw [hT]; exact hc0) (by rw [hT]; exact hc1)
    (fun _ h => by cases h) (fun _ h => by cases h) (fun h => by cases h) (fun h => by cases h) hkk0 hkk1 hkd0 hkd1 (by decide) ts2 td2 tn2
    (by rw [z_to hzs, z_to hzn, arrV_size]; omega)
    (by rw [z_to hzd, z_to hzn, arrV_size]; omega)
    (fun vm₁ _ i hi => by
      rw [tn1] at hi
      have e : (arrV (g.2.1 1) n0.toNat (fun j => zv g (ze σ a0 0 j))).slots.getD ((Int32.ofInt sp).toNatClampNeg + i) .null = .int (Int32.ofInt (σ.2 a0 ((sp.toNat + i : Nat) : Int))) := by
        rw [ts1, Array.getD_eq_getD_getElem?, arrV_read _ _ (by omega)]
        rfl
      refine ⟨?_, ?_⟩
      · rw [e]; rfl
      · rw [e]
        exact trivial)
    (g := F0 m pc ls (.int (Int32.ofInt n) :: .int (Int32.ofInt dp) :: .ref a.toNat :: .int (Int32.ofInt sp) :: .ref a0.toNat :: S.map (zv g))) rfl (by rw [hC.2.2.1]; exact hl.1) (rest := S.map (zv g)) rfl (by rw [hC.2.1]; exact d) hR.1 (by show 2 * 0 + _ + _ ≤ _; omega)
  have e9 : copied (arrV (g.2.1 1) n0.toNat (fun j => zv g (ze σ a0 0 j))) (arrV (g.2.1 1) n1.toNat (fun j => zv g (ze σ a 0 j))) (Int32.ofInt sp) (Int32.ofInt dp) (Int32.ofInt n) = arrV (g.2.1 1) n1.toNat (fun j => zv g (ze (σ.1, zcp σ.2 a0 sp a dp n) a 0 j)) := by
    have h9 := va_copied (fun z : Value => z) (g.2.1 1) (g.2.1 1) (n0 := n0.toNat) (n1 := n1.toNat) (sp := sp.toNat) (dp := dp.toNat) (n := n.toNat) (fun j => zv g (ze σ a0 0 j)) (fun j => zv g (ze σ a 0 j)) (by omega)
    unfold copied
    rw [ts1, td1, tn1]
    refine h9.trans ?_
    congr 1
    funext j
    unfold va_cpy
    show (if dp.toNat ≤ j ∧ j < dp.toNat + n.toNat then zv g (0, σ.2 a0 ((sp.toNat + (j - dp.toNat) : Nat) : Int)) else zv g (0, σ.2 a j)) = zv g (0, zcp σ.2 a0 sp a dp n a j)
    unfold zcp
    by_cases hj : dp.toNat ≤ j ∧ j < dp.toNat + n.toNat
    · rw [if_pos hj, if_pos ⟨rfl, by omega, by omega⟩]
      rw [show (((sp.toNat + (j - dp.toNat) : Nat) : Int)) = sp + ((j : Int) - dp) by omega]
    · rw [if_neg hj, if_neg (fun z => hj ⟨by omega, by omega⟩)]
  rw [e9] at X' step
  have hlt : a.toNat < H.size := (Array.getElem?_eq_some_iff.mp hc1).1
  obtain ⟨H', hH'⟩ : ∃ H' : Heap, H' = H.setIfInBounds a.toNat (arrV (g.2.1 1) n1.toNat (fun j => zv g (ze (σ.1, zcp σ.2 a0 sp a dp n) a 0 j))) := ⟨_, rfl⟩
  have q1 : H'.size = H.size := by rw [hH']; simp
  have q2 : ∀ q : Nat, q ≠ a.toNat → H'[q]? = H[q]? := fun q hq => by rw [hH']; simp [Array.getElem?_setIfInBounds, Ne.symm hq]
  have q3 : H'[a.toNat]? = some (arrV (g.2.1 1) n1.toNat (fun j => zv g (ze (σ.1, zcp σ.2 a0 sp a dp n) a 0 j))) := by rw [hH']; simp [Array.getElem?_setIfInBounds, hlt]
  have hN : zNM (σ.1, zcp σ.2 a0 sp a dp n) := by
    intro b j hb
    show zI (zcp σ.2 a0 sp a dp n b j)
    unfold zcp
    split
    · exact hW.2.1 a0 _ (fun z => by rw [hk0]; intro h; cases h)
    · exact hW.2.1 b j hb
  have hW' : zW g (σ.1, zcp σ.2 a0 sp a dp n) H' := zW_put hW hk1 q1 q2 rfl rfl (fun b j hb => rfl) (fun b j hb => by show zcp _ _ _ _ _ _ _ _ = _; unfold zcp; rw [if_neg (fun z => hb z.1)]) ⟨by decide, ⟨m2, m3⟩, q3⟩ hN
  have hT' : ((T.setVm vm').setCell a.toNat (arrV (g.2.1 1) n1.toNat (fun j => zv g (ze (σ.1, zcp σ.2 a0 sp a dp n) a 0 j)))).heap = H' := by rw [hH', ← hT]; rfl
  obtain ⟨t, a1, b1⟩ := kk _ h p e s m args below meth c H' _ cells slots ls hC hl hL (zS_t (zS_t (zS_t (zS_t (zS_t hS))))) hW' ⟨by rw [q1]; exact hV.1, fun q g1 g2 => (q2 q (fun e => g2 (by show g.2.2.1 ≤ q; omega))).trans (hV.2.1 q g1 g2), fun q hq => (List.mem_append.mp hq).elim (fun h => hV.2.2 q h) (fun h => by obtain ⟨z, -, hz⟩ := List.mem_map.mp h; rw [← hz]; show g.2.2.1 ≤ a.toNat; omega)⟩ h1 h2 _ hT' X'
  exact ⟨t, step t a1, b1⟩
theorem r_mmax {idx : Nat} {a b : Int} (hw : zL (.methodLink K.1.cls idx Lib.Math.max.name) ∧ zL (.static Lib.Math.max.name) ∧ zL (.initialized "java/lang/Math") ∧ zL (.code Lib.Math.max.name Lib.Math.max.code 2 (some .int))) (hR : 1 ≤ R.frames ∧ (S.map fun v => if v.1 == 1 || v.1 == 3 then 2 else 1).sum + 13 ≤ R.locals) (hc : C = C) (d : decode K.2.1 pc = .ok (.invokestatic idx, 3)) (kk : zw g K R (pc + 3) L ((0, max a b) :: S) σ C D Q) : zw g K R pc L ((0, b) :: (0, a) :: S) σ C D Q := by
  intro p e s m args below meth c H locs cells slots ls hC hl hL hS hW hV h1 h2
  have hQ := hC.2.2.2.2.2.2.1
  have ha : zI a := zS_1 (zS_t hS)
  have hb : zI b := zS_1 hS
  have hcs : ((S.map (zv g)).map fun v => v.category).sum + 13 ≤ R.locals := by
    refine Nat.le_trans (Nat.le_of_eq ?_) hR.2
    congr 1
    rw [List.map_map]
    congr 1
    apply List.map_congr_left
    intro v _
    have h := zcat g v
    show (zv g v).category = _
    rcases lv_cat (zv g v) with e | e <;> rw [e] at h ⊢
    · rw [if_neg]; rw [← h]; decide
    · rw [if_pos]; rw [← h]; rfl
  have hm : zI (max a b) := by unfold zI at *; omega
  refine va_mmax hC.1 hC.2.1 (by rw [hC.2.2.1]; exact hl.1.symm) hC.2.2.2.2.2.1 (hQ.2.2.1 _ hw.1 _) (hQ.2.2.1 _ hw.2.1 _) (hQ.2.2.1 _ hw.2.2.1 _) (hQ.2.2.1 _ hw.2.2.2 _) hR.1 hcs (by omega) (by omega) d ?_
  rw [z_max ha hb]
  exact kk p e s m args below meth c H locs cells slots ls hC hl hL (zS_c hm (zS_t (zS_t hS))) hW hV h1 h2
theorem r_mmin {idx : Nat} {a b : Int} (hw : zL (.methodLink K.1.cls idx Lib.Math.min.name) ∧ zL (.static Lib.Math.min.name) ∧ zL (.initialized "java/lang/Math") ∧ zL (.code Lib.Math.min.name Lib.Math.min.code 2 (some .int))) (hR : 1 ≤ R.frames ∧ (S.map fun v => if v.1 == 1 || v.1 == 3 then 2 else 1).sum + 13 ≤ R.locals) (hc : C = C) (d : decode K.2.1 pc = .ok (.invokestatic idx, 3)) (kk : zw g K R (pc + 3) L ((0, min a b) :: S) σ C D Q) : zw g K R pc L ((0, b) :: (0, a) :: S) σ C D Q := by
  intro p e s m args below meth c H locs cells slots ls hC hl hL hS hW hV h1 h2
  have hQ := hC.2.2.2.2.2.2.1
  have ha : zI a := zS_1 (zS_t hS)
  have hb : zI b := zS_1 hS
  have hcs : ((S.map (zv g)).map fun v => v.category).sum + 13 ≤ R.locals := by
    refine Nat.le_trans (Nat.le_of_eq ?_) hR.2
    congr 1
    rw [List.map_map]
    congr 1
    apply List.map_congr_left
    intro v _
    have h := zcat g v
    show (zv g v).category = _
    rcases lv_cat (zv g v) with e | e <;> rw [e] at h ⊢
    · rw [if_neg]; rw [← h]; decide
    · rw [if_pos]; rw [← h]; rfl
  have hm : zI (min a b) := by unfold zI at *; omega
  refine va_mmin hC.1 hC.2.1 (by rw [hC.2.2.1]; exact hl.1.symm) hC.2.2.2.2.2.1 (hQ.2.2.1 _ hw.1 _) (hQ.2.2.1 _ hw.2.1 _) (hQ.2.2.1 _ hw.2.2.1 _) (hQ.2.2.1 _ hw.2.2.2 _) hR.1 hcs (by omega) (by omega) d ?_
  rw [z_min ha hb]
  exact kk p e s m args below meth c H locs cells slots ls hC hl hL (zS_c hm (zS_t (zS_t hS))) hW hV h1 h2
/-- floats: their bits as numbers; what may be a NaN is refused -/
def zfd (a b : Int) : Int := ((FP.fdiv (UInt32.ofNat a.toNat) (UInt32.ofNat b.toNat)).toNat : Int)
def zif (a : Int) : Int := ((FP.i2f (Int32.ofInt a)).toNat : Int)
def zfD (a : Int) : Int := ((FP.f2d (UInt32.ofNat a.toNat)).toNat : Int)
def zfc (op : CmpOp) (a b : Int) : Int := (Op.cmpValue (FP.fcmp (UInt32.ofNat a.toNat) (UInt32.ofNat b.toNat)) op).toInt
def zdc (op : CmpOp) (a b : Int) : Int := (Op.cmpValue (FP.dcmp (UInt64.ofNat a.toNat) (UInt64.ofNat b.toNat)) op).toInt
theorem z32 (x : UInt32) : UInt32.ofNat ((x.toNat : Int)).toNat = x := by rw [Int.toNat_natCast]; exact UInt32.ofNat_toNat
theorem z64 (x : UInt64) : UInt64.ofNat ((x.toNat : Int)).toNat = x := by rw [Int.toNat_natCast]; exact UInt64.ofNat_toNat
theorem r_fconst0 (d : decode K.2.1 pc = .ok (.fconst 0, 1)) (kk : zw g K R (pc + 1) L ((2, 0) :: S) σ C D Q) : zw g K R pc L S σ C D Q := by
  intro p e s m args below meth c H locs cells slots ls hC hl hL hS hW hV h1 h2
  exact lv_fconst0 hC.1 hC.2.1 d (kk p e s m args below meth c H locs cells slots ls hC hl hL (zS_c (by trivial) hS) hW hV h1 h2)
theorem r_i2f {a : Int} (d : decode K.2.1 pc = .ok (.i2f, 1)) (kk : zw g K R (pc + 1) L ((2, zif a) :: S) σ C D Q) : zw g K R pc L ((0, a) :: S) σ C D Q := by
  intro p e s m args below meth c H locs cells slots ls hC hl hL hS hW hV h1 h2
  have kk := kk p e s m args below meth c H locs cells slots ls hC hl hL (zS_c (by trivial) (zS_t hS)) hW hV h1 h2
  have e0 : zv g (2, zif a) = .float _ := congrArg Value.float (z32 _)
  rw [List.map_cons, e0] at kk
  exact lv_i2f hC.1 hC.2.1 d kk
theorem r_fdiv {a b : Int} {A : zFn} (d : decode K.2.1 pc = .ok (.fdiv, 1)) (h : zo (@ite _ (vf_n32 (FP.fdiv (UInt32.ofNat a.toNat) (UInt32.ofNat b.toNat))) (by unfold vf_n32; infer_instance) A none) Q) (kk : zo A Q → zw g K R (pc + 1) L ((2, zfd a b) :: S) σ C D Q) : zw g K R pc L ((2, b) :: (2, a) :: S) σ C D Q := by
  intro p e s m args below meth c H locs cells slots ls hC hl hL hS hW hV h1 h2
  obtain ⟨hc, h⟩ := zite_o h
  have kk := kk h p e s m args below meth c H locs cells slots ls hC hl hL (zS_c (by trivial) (zS_t (zS_t hS))) hW hV h1 h2
  have e0 : zv g (2, zfd a b) = .float _ := congrArg Value.float (z32 _)
  rw [List.map_cons, e0] at kk
  exact lv_fdiv hC.1 hC.2.1 d hc kk
theorem r_f2d {a : Int} {A : zFn} (d : decode K.2.1 pc = .ok (.f2d, 1)) (h : zo (@ite _ (vf_n64 (FP.f2d (UInt32.ofNat a.toNat))) (by unfold vf_n64; infer_instance) A none) Q) (kk : zo A Q → zw g K R (pc + 1) L ((3, zfD a) :: S) σ C D Q) : zw g K R pc L ((2, a) :: S) σ C D Q := by
  intro p e s m args below meth c H locs cells slots ls hC hl hL hS hW hV h1 h2
  obtain ⟨hc, h⟩ := zite_o h
  have kk := kk h p e s m args below meth c H locs cells slots ls hC hl hL (zS_c (by trivial) (zS_t hS)) hW hV h1 h2
  have e0 : zv g (3, zfD a) = .double _ := congrArg Value.double (z64 _)
  rw [List.map_cons, e0] at kk
  exact lv_f2d hC.1 hC.2.1 d hc kk
theorem r_dcmp {a b : Int} {op : CmpOp} (d : decode K.2.1 pc = .ok (.dcmp op, 1)) (kk : zw g K R (pc + 1) L ((0, zdc op a b) :: S) σ C D Q) : zw g K R pc L ((3, b) :: (3, a) :: S) σ C D Q := by
  intro p e s m args below meth c H locs cells slots ls hC hl hL hS hW hV h1 h2
  have kk := kk p e s m args below meth c H locs cells slots ls hC hl hL (zS_c (z_in _) (zS_t (zS_t hS))) hW hV h1 h2
  have e0 : zv g (0, zdc op a b) = .int _ := congrArg Value.int (z_back _)
  rw [List.map_cons, e0] at kk
  exact lv_dcmp hC.1 hC.2.1 d kk
theorem r_fcmp {a b : Int} {op : CmpOp} (d : decode K.2.1 pc = .ok (.fcmp op, 1)) (kk : zw g K R (pc + 1) L ((0, zfc op a b) :: S) σ C D Q) : zw g K R pc L ((2, b) :: (2, a) :: S) σ C D Q := by
  intro p e s m args below meth c H locs cells slots ls hC hl hL hS hW hV h1 h2
  have kk := kk p e s m args below meth c H locs cells slots ls hC hl hL (zS_c (z_in _) (zS_t (zS_t hS))) hW hV h1 h2
  have e0 : zv g (0, zfc op a b) = .int _ := congrArg Value.int (z_back _)
  rw [List.map_cons, e0] at kk
  exact lv_fcmp hC.1 hC.2.1 d kk
/-- a switch: its branches as a list of tests, tried in order -/
theorem r_table {lo hi dflt : Int} {offs : Array Int} {len : Nat} {a : Int} (d : decode K.2.1 pc = .ok (.tableswitch dflt lo hi offs, len)) (tgts : List Nat) (td : Nat) (ht : (pc : Int) + dflt = (td : Int)) (hlen : offs.size = (hi + 1 - lo).toNat) (hts : (offs.toList.map fun o => (pc : Int) + o) = tgts.map fun t : Nat => (t : Int))
    (kk : ∀ (i t : Nat), tgts[i]? = some t → a = lo + i → zw g K R t L S σ C D Q) (kd : (a < lo ∨ hi < a) → zw g K R td L S σ C D Q) : zw g K R pc L ((0, a) :: S) σ C D Q := by
  intro p e s m args below meth c H locs cells slots ls hC hl hL hS hW hV h1 h2
  have ha : zI a := zS_1 hS
  have e0 : (Int32.ofInt a).toInt = a := z_to ha
  by_cases h3 : a < lo ∨ hi < a
  · exact lv_tableOut hC.1 hC.2.1 d (by rw [e0]; exact h3) ht (kd h3 p e s m args below meth c H locs cells slots ls hC hl hL (zS_t hS) hW hV h1 h2)
  · have hlt : (a - lo).toNat < offs.size := by rw [hlen]; omega
    have ho : offs[(a - lo).toNat]? = some offs[(a - lo).toNat] := Array.getElem?_eq_getElem hlt
    have hz : (offs.toList.map fun o => (pc : Int) + o)[(a - lo).toNat]? = some ((pc : Int) + offs[(a - lo).toNat]) := by
      rw [List.getElem?_map, Array.getElem?_toList, ho]; rfl
    rw [hts, List.getElem?_map] at hz
    cases hq : tgts[(a - lo).toNat]? with
    | none => rw [hq] at hz; cases hz
    | some t =>
      rw [hq] at hz
      exact lv_tableIn hC.1 hC.2.1 d (by rw [e0]; omega) (by rw [e0]; omega) (by rw [e0]; exact ho) (Option.some.inj hz).symm (kk _ t hq (by omega) p e s m args below meth c H locs cells slots ls hC hl hL (zS_t hS) hW hV h1 h2)
end ZR4
section ZR5
variable {g : zF} {K : zY} {R : Room} {L : List (Nat × zV)} {S : List zV} {σ : zS} {C D : Nat} {Q : zR × zS → Prop} {pc : Nat}
theorem r_zretc {a : Int} (ha : a = 0 ∨ a = 1) (hr : K.2.2.2.1 = some .boolean) (d : decode K.2.1 pc = .ok (.ireturn, 1)) (h : zo (some (.inl a, σ)) Q) : zw g K R pc L [(0, a)] σ C D Q := r_zret hr d (by rw [if_pos ha]; exact h)
theorem r_ldcI {i : Nat} {v : Int32} {z : Int} (hw : zL (.constant K.1.cls i v)) (hz : v.toInt = z) (d : decode K.2.1 pc = .ok (.ldc i, 2)) (kk : zw g K R (pc + 2) L ((0, z) :: S) σ C D Q) : zw g K R pc L S σ C D Q := by
  subst hz
  exact r_ldc hw d kk
theorem r_ldcIW {i : Nat} {v : Int32} {z : Int} (hw : zL (.constant K.1.cls i v)) (hz : v.toInt = z) (d : decode K.2.1 pc = .ok (.ldc_w i, 3)) (kk : zw g K R (pc + 3) L ((0, z) :: S) σ C D Q) : zw g K R pc L S σ C D Q := by
  subst hz
  intro p e s m args below meth c H locs cells slots ls hC hl hL hS hW hV h1 h2
  have kk := kk p e s m args below meth c H locs cells slots ls hC hl hL (zS_c (z_in v) hS) hW hV h1 h2
  have e0 : zv g (0, v.toInt) = .int v := congrArg Value.int (z_back v)
  rw [List.map_cons, e0] at kk
  exact lv_ldcw hC.1 hC.2.1 hC.2.2.2.2.2.1 (hC.2.2.2.2.2.2.1.2.2.1 _ hw _) d kk
theorem r_ldcL {i : Nat} {v : Int64} {z : Int} (hw : zL (.constantLong K.1.cls i v)) (hz : v.toInt = z) (d : decode K.2.1 pc = .ok (.ldc2_w i, 3)) (kk : zw g K R (pc + 3) L ((1, z) :: S) σ C D Q) : zw g K R pc L S σ C D Q := by
  subst hz
  exact r_ldc2 hw d kk
/-- a switch -/
def ztb (a lo : Int) : List zFn → zFn → zFn
  | [], d => d
  | A :: r, d => if a = lo then A else ztb a (lo + 1) r d
def zcs (P : Nat → zFn → Prop) : List Nat → List zFn → Prop
  | t :: ts, A :: As => P t A ∧ zcs P ts As
  | [], [] => True
  | _, _ => False
theorem ztb_o {a : Int} {P : Nat → zFn → Prop} : ∀ {As : List zFn} {ts : List Nat} {lo : Int} {d : zFn}, zcs P ts As → zo (ztb a lo As d) Q → (a < lo ∨ lo + (ts.length : Int) ≤ a → zo d Q) ∧ ∀ i t : Nat, ts[i]? = some t → a = lo + (i : Int) → ∃ A, P t A ∧ zo A Q
  | [], [], lo, d, _, h => ⟨fun _ => h, fun i t ht _ => by simp at ht⟩
  | [], _ :: _, _, _, hc, _ => hc.elim
  | _ :: _, [], _, _, hc, _ => hc.elim
  | A :: As, t :: ts, lo, d, hc, h => by
    obtain ⟨hp, hc⟩ := hc
    have hh := zo_if (show zo (if a = lo then A else ztb a (lo + 1) As d) Q from h)
    refine ⟨fun hq => ?_, fun i t' ht ha => ?_⟩
    · have hne : a ≠ lo := by
        simp only [List.length_cons] at hq
        omega
      refine (ztb_o hc (hh.2 hne)).1 ?_
      simp only [List.length_cons] at hq
      omega
    · match i, ht with
      | 0, ht =>
        cases ht
        exact ⟨A, hp, hh.1 (by omega)⟩
      | i + 1, ht => exact (ztb_o hc (hh.2 (by omega))).2 i t' ht (by omega)
theorem r_switch {lo hi dflt : Int} {offs : Array Int} {len : Nat} {a : Int} {As : List zFn} {dd : zFn} (tgts : List Nat) (td : Nat) (d : decode K.2.1 pc = .ok (.tableswitch dflt lo hi offs, len)) (ht : (pc : Int) + dflt = (td : Int)) (hlen : offs.size = (hi + 1 - lo).toNat) (hl2 : (tgts.length : Int) = hi + 1 - lo) (hts : (offs.toList.map fun o => (pc : Int) + o) = tgts.map fun t : Nat => (t : Int))
    (h : zo (ztb a lo As dd) Q) (kd : zo dd Q → zw g K R td L S σ C D Q) (kk : zcs (fun t A => zo A Q → zw g K R t L S σ C D Q) tgts As) : zw g K R pc L ((0, a) :: S) σ C D Q := by
  obtain ⟨h1, h2⟩ := ztb_o kk h
  refine r_table d tgts td ht hlen hts (fun i t hi ha => ?_) (fun hq => kd (h1 (by omega)))
  obtain ⟨A, hA, hz⟩ := h2 i t hi ha
  exact hA hz
theorem r_objinit {idx : Nat} {a : Int} {A : zFn} (hw : zL (.methodLink K.1.cls idx objectInit) ∧ zL (.instanceMethod objectInit) ∧ zL (.code objectInit ⟨#[0xb1]⟩ 1 none)) (hR : 1 ≤ R.frames ∧ (S.map fun v => if v.1 == 1 || v.1 == 3 then 2 else 1).sum + 12 ≤ R.locals) (d : decode K.2.1 pc = .ok (.invokespecial idx, 3)) (h : zo (if 0 ≤ a then A else none) Q) (kk : zo A Q → zw g K R (pc + 3) L S σ C D Q) : zw g K R pc L ((4, a) :: S) σ C D Q := by
  intro p e s m args below meth c H locs cells slots ls hC hl hL hS hW hV h1 h2
  obtain ⟨ha, h⟩ := zite_o h
  have hQ := hC.2.2.2.2.2.2.1
  have kk := kk h p e s m args below meth c H locs cells slots ls hC hl hL (zS_t hS) hW hV h1 h2
  have hcs : ((S.map (zv g)).map fun v => v.category).sum + 12 ≤ R.locals := by
    refine Nat.le_trans (Nat.le_of_eq ?_) hR.2
    congr 1
    rw [List.map_map]
    congr 1
    apply List.map_congr_left
    intro v _
    have h := zcat g v
    show (zv g v).category = _
    rcases lv_cat (zv g v) with e | e <;> rw [e] at h ⊢
    · rw [if_neg]; rw [← h]; decide
    · rw [if_pos]; rw [← h]; rfl
  rw [List.map_cons, z_ref ha]
  exact W.objInit hC.1 hC.2.1 hC.2.2.2.2.2.1 (hQ.2.2.1 _ hw.1 _) (hQ.2.2.1 _ hw.2.1 _) (hQ.2.2.1 _ hw.2.2 _) rfl (hl.1.trans hC.2.2.1.symm) rfl d hR.1 (by show 2 * 0 + _ + 12 ≤ _; omega) kk
end ZR5
