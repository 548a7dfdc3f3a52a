/-! ROWS J: text methods of the JDK, bytes, clone, digits -/
def zFpB (K : zY) (idx ci k : Nat) (tag : Nat) : Prop := ∃ (r : vw_C) (ty0 : Nat → FieldType), vwCl[ci]? = some r ∧ (∀ j, j < r.2.2 → parseFieldDescriptor (r.2.1 j).2.2.1 = some (ty0 j)) ∧ (∀ a, a < r.2.2 → ∀ b, b < r.2.2 → a ≠ b → (r.2.1 a).2.1 ≠ (r.2.1 b).2.1) ∧ zfe ci k = tag ∧ ty0 k = .byte ∧ ((r.2.1 k).2.2.2 = false ∨ ((r.2.1 k).2.2.2 = true ∧ K.1.name = "<init>" ∧ (r.2.1 k).1 = K.1.cls ∧ zL (.fieldLink K.1.cls idx (r.2.1 k).1 (r.2.1 k).2.1 (r.2.1 k).2.2.1)))
section ZRJ
variable {g : zF} {K : zY} {R : Room} {L : List (Nat × zV)} {S : List zV} {σ : zS} {C D : Nat} {Q : zR × zS → Prop} {pc : Nat}
theorem r_callP {K' : zY} {R' : Room} {idx n : Nat} {b : Int} {as rest : List zV} {F : zFn} {k : Int → zS → zFn} {C' D' : Nat} {cn : Nat} (hh : K.2.2.2.2 = []) (h0 : zk0 K' n) {CN : String} (hV9 : zL (.instanceMethod K'.1) ∧ zL (.selects CN K'.1 K'.1)) (hl : zkL K.1.cls idx K') (hR : zkR R R' K') (d : decode K.2.1 pc = .ok (.invokevirtual idx, 3)) (hn : as.length = n) (hS' : S = (as.reverse ++ (4, b) :: rest)) (hcat : ((rest.map fun v => if v.1 == 1 || v.1 == 3 then 2 else 1).sum) ≤ 8) (hC' : C' + R'.cells ≤ C) (hD' : D' + R'.slots ≤ D) (hcl : zcn cn = CN) (h : zo (zob cn b σ (zbn F k)) Q)
    (hm : ∀ r, F = some r → zm g K' R' ((4, b) :: as) σ (fun x => F = some x)) (kk : ∀ v τ, F = some (.inl v, τ) → zo (k v τ) Q → zw g K R (pc + 3) L (zpu K'.2.2.2.1 v rest) τ C' D' Q) : zw g K R pc L S σ C D Q := by
  intro p e s m args below meth c H locs cells slots ls hC hl9 hL hS hW hV h1 h2
  subst hS'

  obtain ⟨hobj, h⟩ := zob_o h
  obtain ⟨r, hF, hkv, hkx⟩ := zbn_o h
  have hQ := hC.2.2.2.2.2.2.1
  obtain ⟨w0, w1, ⟨n1, n2, n3⟩, w2⟩ := h0
  have hSr : ∀ v ∈ rest, zn v := fun v hv => hS v (List.mem_append_right _ (List.mem_cons_of_mem _ hv))
  have hSa : ∀ v ∈ ((4, b) :: as), zn v := fun v hv => (List.mem_cons.mp hv).elim (fun e => by rw [e]; trivial) (fun hv => hS v (List.mem_append_left _ (List.mem_reverse.mpr hv)))
  have hM := hm r hF hSa
  have hcode : (Cond.code K'.1 K'.2.1 K'.2.2.1 K'.2.2.2.1).before args s = true := by rw [← zcw_nil w2]; exact hQ.2.2.1 _ w0 _
  have hmem : Cond.code K'.1 K'.2.1 K'.2.2.1 K'.2.2.2.1 ∈ [zcw K'] := by rw [zcw_nil w2]; exact List.mem_cons_self
  have hfix : CallFix p m c K.2.1 K.2.2.1 s args [] K.1.cls := ⟨hC.1, hC.2.1, hC.2.2.1, hC.2.2.2.2.2.1, fun w hw => by cases hw⟩
  have hpre : ∀ U : State, U.heap = H → s.WarmedH U.vm → va_Pc (((4, b) :: as).map (zv g)) (fun U => zW g σ U.heap ∧ zQ g U) (((4, b) :: as).map (zv g)).toArray U := fun U hU hw => z_pc hW hQ hV hU hw
  obtain ⟨gb, rr, hrr, cell, q1, q2, q3, q4⟩ := hW.1 b _ hobj
  have hb0 : (0 : Int) ≤ b := by omega
  have hrr : vwCl[cn]? = some rr := hrr
  have hrecv : ∃ cellB : Cell, H[b.toNat]? = some cellB ∧ cellB.vm.isStatics = false ∧ s.vm.findClass CN = some cellB.cls := ⟨cell, q1, by rw [q3]; rfl, by rw [← hcl, zcn_of hrr, q2]; exact (hQ.1 cn rr hrr).2.1⟩
  have eb : zv g (4, b) = .ref b.toNat := z_ref hb0
  have est : (as.reverse ++ (4, b) :: rest).map (zv g) = (as.map (zv g)).reverse ++ .ref b.toNat :: rest.map (zv g) := by rw [List.map_append, List.map_reverse, List.map_cons, eb]
  have eal : ((4, b) :: as).map (zv g) = .ref b.toNat :: as.map (zv g) := by rw [List.map_cons, eb]
  rw [eal] at hpre hM
  have hcat' : ((rest.map (zv g)).map fun v => v.category).sum ≤ 8 := by
    rw [List.map_map]
    refine Nat.le_trans (Nat.le_of_eq ?_) hcat
    congr 1
    apply List.map_congr_left
    intro v _
    have h := zcat g v
    show (zv g v).category = _
    rcases lv_cat (zv g v) with e | e <;> rw [e] at h ⊢
    · rw [if_neg]; rw [← h]; decide
    · rw [if_pos]; rw [← h]; rfl
  rw [est]
  have hfb : FrameBlind (va_Pc (.ref b.toNat :: as.map (zv g)) (fun U => zW g σ U.heap ∧ zQ g U)) := zm_FrameBlind
  rcases hl with hl | ⟨host, hl⟩
  all_goals
    refine z_run (a := (Value.ref b.toNat :: as.map (zv g)).toArray) (K' := K') (R' := R') (Q' := fun x => F = some x) (st0 := _) (rest := rest.map (zv g)) ?_ hV (fun ex τ nn H1 locs1 q ce hq hnn hW1 hV1 g1 g2 g3 => z_out (pc := pc) hC hh (hkx ex τ (Option.some.inj (hF.symm.trans hq))) hnn hW1 hV1 g1 g2 g3 (by omega) (by omega)) (fun v τ H1 locs1 hq hz hW1 hV1 => by rw [zpu_map]; exact kk v τ hq (hkv v τ (Option.some.inj (hF.symm.trans hq))) p e s m args below meth c H1 locs1 _ _ ls hC hl9 hL (zpu_n hz hSr) hW1 hV1 (by omega) (by omega))
  · exact vx_runV (maxL := K'.2.2.1) (bytes := K'.2.1) (ret := K'.2.2.2.1) (n := n) (As := as.map (zv g)) (rest := rest.map (zv g)) hfix hM ⟨⟨rfl, rfl, hR.1, hR.2, z_words hQ w0, hmem, hcode, hQ.2.2.1 _ w1 _, ⟨n1, n2⟩, z_len n3, hQ.2.2.1 _ hl _⟩, hQ.2.2.1 _ hV9.1 _, hQ.2.2.1 _ hV9.2 _⟩ ⟨hfb, hrecv, hpre⟩ rfl (by rw [List.length_map]; exact hn) hl9.1 rfl (lv_room hcat') d ⟨by omega, by omega⟩
  · exact vx_runVN (maxL := K'.2.2.1) (bytes := K'.2.1) (ret := K'.2.2.2.1) (n := n) (As := as.map (zv g)) (rest := rest.map (zv g)) hfix hM ⟨⟨⟨rfl, rfl, hR.1, hR.2, z_words hQ w0, hmem⟩, hcode, hQ.2.2.1 _ w1 _, ⟨n1, n2⟩, z_len n3, hQ.2.2.1 _ hl _⟩, hQ.2.2.1 _ hV9.1 _, hQ.2.2.1 _ hV9.2 _⟩ ⟨hfb, hrecv, hpre⟩ rfl (by rw [List.length_map]; exact hn) hl9.1 rfl (lv_room hcat') d ⟨by omega, by omega⟩
theorem r_callU {K' : zY} {R' : Room} {idx n : Nat} {b : Int} {as rest : List zV} {F : zFn} {k : Int → zS → zFn} {C' D' : Nat} {cn : Nat} (hh : K.2.2.2.2 = []) (h0 : zk0 K' n) {CN ow : String} {xn : MethodName} (hV9 : zL (.sameMethod xn.cls ow xn.name xn.desc) ∧ (∃ b0 m0 r0, zL (.instanceMethod ⟨ow, xn.name, xn.desc⟩) ∧ zL (.code ⟨ow, xn.name, xn.desc⟩ b0 m0 r0)) ∧ zL (.selects CN xn K'.1) ∧ zL (.instanceMethod K'.1) ∧ (ow ≠ "java/lang/invoke/MethodHandle" ∧ ow ≠ "java/lang/invoke/VarHandle") ∧ (parseMethodDescriptor xn.desc).map (fun d => d.parameters.length) = some n) (hl : zL (.methodLink K.1.cls idx xn)) (hR : zkR R R' K') (d : decode K.2.1 pc = .ok (.invokevirtual idx, 3)) (hn : as.length = n) (hS' : S = (as.reverse ++ (4, b) :: rest)) (hcat : ((rest.map fun v => if v.1 == 1 || v.1 == 3 then 2 else 1).sum) ≤ 8) (hC' : C' + R'.cells ≤ C) (hD' : D' + R'.slots ≤ D) (hcl : zcn cn = CN) (h : zo (zob cn b σ (zbn F k)) Q)
    (hm : ∀ r, F = some r → zm g K' R' ((4, b) :: as) σ (fun x => F = some x)) (kk : ∀ v τ, F = some (.inl v, τ) → zo (k v τ) Q → zw g K R (pc + 3) L (zpu K'.2.2.2.1 v rest) τ C' D' Q) : zw g K R pc L S σ C D Q := by
  intro p e s m args below meth c H locs cells slots ls hC hl9 hL hS hW hV h1 h2
  subst hS'

  obtain ⟨hobj, h⟩ := zob_o h
  obtain ⟨r, hF, hkv, hkx⟩ := zbn_o h
  have hQ := hC.2.2.2.2.2.2.1
  obtain ⟨w0, w1, ⟨n1, n2, n3⟩, w2⟩ := h0
  have hSr : ∀ v ∈ rest, zn v := fun v hv => hS v (List.mem_append_right _ (List.mem_cons_of_mem _ hv))
  have hSa : ∀ v ∈ ((4, b) :: as), zn v := fun v hv => (List.mem_cons.mp hv).elim (fun e => by rw [e]; trivial) (fun hv => hS v (List.mem_append_left _ (List.mem_reverse.mpr hv)))
  have hM := hm r hF hSa
  have hcode : (Cond.code K'.1 K'.2.1 K'.2.2.1 K'.2.2.2.1).before args s = true := by rw [← zcw_nil w2]; exact hQ.2.2.1 _ w0 _
  have hmem : Cond.code K'.1 K'.2.1 K'.2.2.1 K'.2.2.2.1 ∈ [zcw K'] := by rw [zcw_nil w2]; exact List.mem_cons_self
  have hfix : CallFix p m c K.2.1 K.2.2.1 s args [] K.1.cls := ⟨hC.1, hC.2.1, hC.2.2.1, hC.2.2.2.2.2.1, fun w hw => by cases hw⟩
  have hpre : ∀ U : State, U.heap = H → s.WarmedH U.vm → va_Pc (((4, b) :: as).map (zv g)) (fun U => zW g σ U.heap ∧ zQ g U) (((4, b) :: as).map (zv g)).toArray U := fun U hU hw => z_pc hW hQ hV hU hw
  obtain ⟨gb, rr, hrr, cell, q1, q2, q3, q4⟩ := hW.1 b _ hobj
  have hb0 : (0 : Int) ≤ b := by omega
  have hrr : vwCl[cn]? = some rr := hrr
  have hrecv : ∃ cellB : Cell, H[b.toNat]? = some cellB ∧ cellB.vm.isStatics = false ∧ s.vm.findClass CN = some cellB.cls := ⟨cell, q1, by rw [q3]; rfl, by rw [← hcl, zcn_of hrr, q2]; exact (hQ.1 cn rr hrr).2.1⟩
  have eb : zv g (4, b) = .ref b.toNat := z_ref hb0
  have est : (as.reverse ++ (4, b) :: rest).map (zv g) = (as.map (zv g)).reverse ++ .ref b.toNat :: rest.map (zv g) := by rw [List.map_append, List.map_reverse, List.map_cons, eb]
  have eal : ((4, b) :: as).map (zv g) = .ref b.toNat :: as.map (zv g) := by rw [List.map_cons, eb]
  rw [eal] at hpre hM
  have hcat' : ((rest.map (zv g)).map fun v => v.category).sum ≤ 8 := by
    rw [List.map_map]
    refine Nat.le_trans (Nat.le_of_eq ?_) hcat
    congr 1
    apply List.map_congr_left
    intro v _
    have h := zcat g v
    show (zv g v).category = _
    rcases lv_cat (zv g v) with e | e <;> rw [e] at h ⊢
    · rw [if_neg]; rw [← h]; decide
    · rw [if_pos]; rw [← h]; rfl
  rw [est]
  have hfb : FrameBlind (va_Pc (.ref b.toNat :: as.map (zv g)) (fun U => zW g σ U.heap ∧ zQ g U)) := zm_FrameBlind
  obtain ⟨v1, ⟨b0, m0, r0, v2, v3⟩, v4, v5, v6, v7⟩ := hV9
  refine z_run (a := (Value.ref b.toNat :: as.map (zv g)).toArray) (K' := K') (R' := R') (Q' := fun x => F = some x) (st0 := _) (rest := rest.map (zv g)) ?_ hV (fun ex τ nn H1 locs1 q ce hq hnn hW1 hV1 g1 g2 g3 => z_out (pc := pc) hC hh (hkx ex τ (Option.some.inj (hF.symm.trans hq))) hnn hW1 hV1 g1 g2 g3 (by omega) (by omega)) (fun v τ H1 locs1 hq hz hW1 hV1 => by rw [zpu_map]; exact kk v τ hq (hkv v τ (Option.some.inj (hF.symm.trans hq))) p e s m args below meth c H1 locs1 _ _ ls hC hl9 hL (zpu_n hz hSr) hW1 hV1 (by omega) (by omega))
  exact vx_runU (x := xn) (owner := ow) (C := CN) (maxL := K'.2.2.1) (bytes := K'.2.1) (ret := K'.2.2.2.1) (n := n) (As := as.map (zv g)) (rest := rest.map (zv g)) hfix hM ⟨⟨rfl, rfl, hR.1, hR.2, z_words hQ w0, hmem⟩, hcode, hQ.2.2.1 _ w1 _, v6, z_len v7, hQ.2.2.1 _ hl _, hQ.2.2.1 _ v1 _, va_Decl.of (hQ.2.2.1 _ v2 args) (hQ.2.2.1 _ v3 args), hQ.2.2.1 _ v4 _, hQ.2.2.1 _ v5 _⟩ ⟨hfb, hrecv, hpre⟩ rfl (by rw [List.length_map]; exact hn) hl9.1 rfl (lv_room hcat') d ⟨by omega, by omega⟩
theorem r_callSU {K' : zY} {R' : Room} {idx n : Nat} {b : Int} {as rest : List zV} {F : zFn} {k : Int → zS → zFn} {C' D' : Nat} {cn : Nat} (hh : K.2.2.2.2 = []) (h0 : zk0 K' n) {CN : String} (hV9 : zL (.sameMethod K'.1.cls K'.1.cls K'.1.name K'.1.desc) ∧ zL (.superclass K.1.cls K'.1.cls) ∧ zL (.instanceMethod K'.1) ∧ K'.1.name ≠ "<init>") (hl : zL (.methodLink K.1.cls idx K'.1)) (hR : zkR R R' K') (d : decode K.2.1 pc = .ok (.invokespecial idx, 3)) (hn : as.length = n) (hS' : S = (as.reverse ++ (4, b) :: rest)) (hcat : ((rest.map fun v => if v.1 == 1 || v.1 == 3 then 2 else 1).sum) ≤ 8) (hC' : C' + R'.cells ≤ C) (hD' : D' + R'.slots ≤ D) (hcl : zcn cn = CN) (h : zo (zob cn b σ (zbn F k)) Q)
    (hm : ∀ r, F = some r → zm g K' R' ((4, b) :: as) σ (fun x => F = some x)) (kk : ∀ v τ, F = some (.inl v, τ) → zo (k v τ) Q → zw g K R (pc + 3) L (zpu K'.2.2.2.1 v rest) τ C' D' Q) : zw g K R pc L S σ C D Q := by
  intro p e s m args below meth c H locs cells slots ls hC hl9 hL hS hW hV h1 h2
  subst hS'

  obtain ⟨hobj, h⟩ := zob_o h
  obtain ⟨r, hF, hkv, hkx⟩ := zbn_o h
  have hQ := hC.2.2.2.2.2.2.1
  obtain ⟨w0, w1, ⟨n1, n2, n3⟩, w2⟩ := h0
  have hSr : ∀ v ∈ rest, zn v := fun v hv => hS v (List.mem_append_right _ (List.mem_cons_of_mem _ hv))
  have hSa : ∀ v ∈ ((4, b) :: as), zn v := fun v hv => (List.mem_cons.mp hv).elim (fun e => by rw [e]; trivial) (fun hv => hS v (List.mem_append_left _ (List.mem_reverse.mpr hv)))
  have hM := hm r hF hSa
  have hcode : (Cond.code K'.1 K'.2.1 K'.2.2.1 K'.2.2.2.1).before args s = true := by rw [← zcw_nil w2]; exact hQ.2.2.1 _ w0 _
  have hmem : Cond.code K'.1 K'.2.1 K'.2.2.1 K'.2.2.2.1 ∈ [zcw K'] := by rw [zcw_nil w2]; exact List.mem_cons_self
  have hfix : CallFix p m c K.2.1 K.2.2.1 s args [] K.1.cls := ⟨hC.1, hC.2.1, hC.2.2.1, hC.2.2.2.2.2.1, fun w hw => by cases hw⟩
  have hpre : ∀ U : State, U.heap = H → s.WarmedH U.vm → va_Pc (((4, b) :: as).map (zv g)) (fun U => zW g σ U.heap ∧ zQ g U) (((4, b) :: as).map (zv g)).toArray U := fun U hU hw => z_pc hW hQ hV hU hw
  obtain ⟨gb, rr, hrr, cell, q1, q2, q3, q4⟩ := hW.1 b _ hobj
  have hb0 : (0 : Int) ≤ b := by omega
  have hrr : vwCl[cn]? = some rr := hrr
  have hrecv : ∃ cellB : Cell, H[b.toNat]? = some cellB ∧ cellB.vm.isStatics = false ∧ s.vm.findClass CN = some cellB.cls := ⟨cell, q1, by rw [q3]; rfl, by rw [← hcl, zcn_of hrr, q2]; exact (hQ.1 cn rr hrr).2.1⟩
  have eb : zv g (4, b) = .ref b.toNat := z_ref hb0
  have est : (as.reverse ++ (4, b) :: rest).map (zv g) = (as.map (zv g)).reverse ++ .ref b.toNat :: rest.map (zv g) := by rw [List.map_append, List.map_reverse, List.map_cons, eb]
  have eal : ((4, b) :: as).map (zv g) = .ref b.toNat :: as.map (zv g) := by rw [List.map_cons, eb]
  rw [eal] at hpre hM
  have hcat' : ((rest.map (zv g)).map fun v => v.category).sum ≤ 8 := by
    rw [List.map_map]
    refine Nat.le_trans (Nat.le_of_eq ?_) hcat
    congr 1
    apply List.map_congr_left
    intro v _
    have h := zcat g v
    show (zv g v).category = _
    rcases lv_cat (zv g v) with e | e <;> rw [e] at h ⊢
    · rw [if_neg]; rw [← h]; decide
    · rw [if_pos]; rw [← h]; rfl
  rw [est]
  have hfb : FrameBlind (va_Pc (.ref b.toNat :: as.map (zv g)) (fun U => zW g σ U.heap ∧ zQ g U)) := zm_FrameBlind
  obtain ⟨v1, v2, v3, v4⟩ := hV9
  have hat : ClassAt s CN (g.1.1 cn) := by rw [← hcl, zcn_of hrr]; exact (hQ.1 cn rr hrr).2
  refine z_run (a := (Value.ref b.toNat :: as.map (zv g)).toArray) (K' := K') (R' := R') (Q' := fun x => F = some x) (st0 := _) (rest := rest.map (zv g)) ?_ hV (fun ex τ nn H1 locs1 q ce hq hnn hW1 hV1 g1 g2 g3 => z_out (pc := pc) hC hh (hkx ex τ (Option.some.inj (hF.symm.trans hq))) hnn hW1 hV1 g1 g2 g3 (by omega) (by omega)) (fun v τ H1 locs1 hq hz hW1 hV1 => by rw [zpu_map]; exact kk v τ hq (hkv v τ (Option.some.inj (hF.symm.trans hq))) p e s m args below meth c H1 locs1 _ _ ls hC hl9 hL (zpu_n hz hSr) hW1 hV1 (by omega) (by omega))
  exact vx_runSU hat (maxL := K'.2.2.1) (bytes := K'.2.1) (ret := K'.2.2.2.1) (n := n) (As := as.map (zv g)) (rest := rest.map (zv g)) hfix hM ⟨⟨rfl, rfl, hR.1, hR.2, z_words hQ w0, hmem⟩, hQ.2.2.1 _ hl _, hQ.2.2.1 _ v1 _, hQ.2.2.1 _ v2 _, hQ.2.2.1 _ v3 _, hQ.2.2.1 _ w1 _, hcode, v4, z_len n3⟩ ⟨hfb, hrecv, hpre⟩ rfl (by rw [List.length_map]; exact hn) hl9.1 rfl (lv_room hcat') d ⟨by omega, by omega⟩
theorem r_ineg {a : Int} (d : decode K.2.1 pc = .ok (.ineg, 1)) (kk : zw g K R (pc + 1) L ((0, w32 (-a)) :: S) σ C D Q) : zw g K R pc L ((0, a) :: S) σ C D Q := by
  intro p e s m args below meth c H locs cells slots ls hC hl hL hS hW hV h1 h2
  have kk := kk p e s m args below meth c H locs cells slots ls hC hl hL (zS_c (zI_w _) (zS_t hS)) hW hV h1 h2
  have e0 : zv g (0, w32 (-a)) = .int (-(Int32.ofInt a)) := by show Value.int (Int32.ofInt (w32 (-a))) = _; rw [z_of, Int32.ofInt_neg]
  rw [List.map_cons, e0] at kk
  exact lv_ineg hC.1 hC.2.1 d kk
theorem r_dup_x1 {v u : zV} (d : decode K.2.1 pc = .ok (.dup_x1, 1)) (hv : (v.1 == 1 || v.1 == 3) = false) (hu : (u.1 == 1 || u.1 == 3) = false) (kk : zw g K R (pc + 1) L (v :: u :: v :: S) σ C D Q) : zw g K R pc L (v :: u :: S) σ C D Q := by
  intro p e s m args below meth c H locs cells slots ls hC hl hL hS hW hV h1 h2
  exact lv_dup_x1 hC.1 hC.2.1 d (zcat1 g v hv) (zcat1 g u hu) (kk p e s m args below meth c H locs cells slots ls hC hl hL (zS_c (zS_1 hS) (zS_c (zS_1 (zS_t hS)) (zS_c (zS_1 hS) (zS_t (zS_t hS))))) hW hV h1 h2)
theorem z_c256 : ∀ n, n < 256 → ((Int32.ofInt ((n : Nat) : Int)).toUInt32 % 65536).toInt32 = Int32.ofInt ((n : Nat) : Int) := by decide +kernel
/-- a letter: 0 to 255 -/
theorem r_i2cJ {a : Int} {A : zFn} (d : decode K.2.1 pc = .ok (.i2c, 1)) (h : zo (if 0 ≤ a ∧ a < 256 then A else none) Q) (kk : zo A Q → zw g K R (pc + 1) L ((0, a) :: S) σ C D Q) : zw g K R pc L ((0, a) :: S) σ C D Q := by
  intro p e s m args below meth c H locs cells slots ls hC hl hL hS hW hV h1 h2
  obtain ⟨h0, h⟩ := zite_o h
  have e2 := z_c256 a.toNat (by omega)
  rw [Int.toNat_of_nonneg h0.1] at e2
  exact lv_i2c hC.1 hC.2.1 d e2 (kk h p e s m args below meth c H locs cells slots ls hC hl hL hS hW hV h1 h2)
theorem r_nretJ {a : Int} {ty : FieldType} (hr : K.2.2.2.1 = some ty) (hz : zrt (some ty) = some 0) (d : decode K.2.1 pc = .ok (.ireturn, 1)) (hnr : narrow ty (.int (Int32.ofInt a)) = .int (Int32.ofInt a)) (h : zo (some (.inl a, σ)) Q) : zw g K R pc L [(0, a)] σ C D Q := by
  intro p e s m args below meth c H locs cells slots ls hC hl hL hS hW hV h1 h2
  obtain ⟨r, e0, hq⟩ := h
  cases e0
  refine W.widen (k := R.cells) (n := R.slots) (by omega) (by omega) (vx_ret ?_)
  refine W.zret hC.1 hC.2.1 (hC.2.2.2.1.trans hr) hnr (fun t ht hW' => ⟨a, σ, hq, by rw [hr]; show _ = Outcome.returned ((zrt (some ty)).map _); rw [hz]; rfl, by rw [hr]; intro k hk; rw [hz] at hk; cases hk; exact zS_1 hS, zW_heap ht hW, hV.F ht⟩) (fun q hq => hV.2.2 q hq) d (hlocks := hC.2.2.2.2.1)
theorem z_ncharJ {a : Int} (h : 0 ≤ a ∧ a < 256) : narrow .char (.int (Int32.ofInt a)) = .int (Int32.ofInt a) := by
  have e2 := z_c256 a.toNat (by omega)
  rw [Int.toNat_of_nonneg h.1] at e2
  show Value.int _ = _
  congr 1
theorem r_cret {a : Int} (hr : K.2.2.2.1 = some .char) (d : decode K.2.1 pc = .ok (.ireturn, 1)) (h : zo (if 0 ≤ a ∧ a < 256 then some (.inl a, σ) else none) Q) : zw g K R pc L [(0, a)] σ C D Q := by
  obtain ⟨h0, h⟩ := zite_o h
  exact r_nretJ hr rfl d (z_ncharJ h0) h
theorem z_b128 : ∀ n, n < 128 → narrow .byte (.int (Int32.ofInt ((n : Nat) : Int))) = .int (Int32.ofInt ((n : Nat) : Int)) ∧ fits .byte (.int (Int32.ofInt ((n : Nat) : Int))) = true := by decide +kernel
theorem z_nbyte {a : Int} (h : 0 ≤ a ∧ a < 128) : narrow .byte (.int (Int32.ofInt a)) = .int (Int32.ofInt a) ∧ fits .byte (.int (Int32.ofInt a)) = true := by
  have e2 := z_b128 a.toNat (by omega)
  rw [Int.toNat_of_nonneg h.1] at e2
  exact e2
theorem r_yret {a : Int} (hr : K.2.2.2.1 = some .byte) (d : decode K.2.1 pc = .ok (.ireturn, 1)) (h : zo (if 0 ≤ a ∧ a < 128 then some (.inl a, σ) else none) Q) : zw g K R pc L [(0, a)] σ C D Q := by
  obtain ⟨h0, h⟩ := zite_o h
  exact r_nretJ hr rfl d (z_nbyte h0).1 h
theorem r_aretA {a : Int} {n : FieldType} (hr : K.2.2.2.1 = some (.array n)) (d : decode K.2.1 pc = .ok (.areturn, 1)) (h : zo (some (.inl a, σ)) Q) : zw g K R pc L [(4, a)] σ C D Q := by
  intro p e s m args below meth c H locs cells slots ls hC hl hL hS hW hV h1 h2
  obtain ⟨r, e0, hq⟩ := h
  cases e0
  refine W.widen (k := R.cells) (n := R.slots) (by omega) (by omega) (vx_ret ?_)
  refine W.aret (v := zv g (4, a)) hC.1 hC.2.1 (hC.2.2.2.1.trans hr) (Or.inr ⟨n, rfl⟩) ?_ (fun t ht hW' => ⟨a, σ, hq, by rw [hr]; rfl, by rw [hr]; intro k hk; cases hk; trivial, zW_heap ht hW, hV.F ht⟩) (fun q hq => hV.2.2 q hq) d (hlocks := hC.2.2.2.2.1)
  rw [zv_4]; split
  · exact Or.inl rfl
  · exact Or.inr ⟨_, rfl⟩
theorem r_putb0 {ci k idx tag : Nat} {a v : Int} {τ : zS} (hf : zFd K.1.cls idx ci k) (hp : zFpB K idx ci k tag) (hvb : 0 ≤ v ∧ v < 128) (ht0 : tag = 0) (d : decode K.2.1 pc = .ok (.putfield idx, 3)) (hs : σ.1.1 a = some (0, (ci : Int))) (ht : tag = 0 ∨ tag = 4)
    (hτ : τ = if tag = 0 then (σ.1, zup σ.2 a k v) else ((σ.1.1, zup σ.1.2.1 a k v, σ.1.2.2), σ.2)) (kk : zw g K R (pc + 3) L S τ C D Q) : zw g K R pc L ((tag, v) :: (4, a) :: S) σ C D Q := by
  intro p e s m args below meth c H locs cells slots ls hC hl hL hS hW hV h1 h2
  obtain ⟨r, hc, hk, hu, hlink⟩ := hf
  obtain ⟨r', ty0, hc', hty, hnm, htag, htyk, hfin⟩ := hp
  cases Option.some.inj (hc'.symm.trans hc)
  have hC0 := hC
  obtain ⟨hx, hb, -, -, -, hown, hQ, hmn, -⟩ := hC
  have hts : ∀ w ∈ u_ws r.1 r.2.1 r.2.2, w.before args s = true := fun w hw => hQ.2.2.1 w (hu w hw) args
  have hvn : zn (tag, v) := zS_1 hS
  obtain ⟨gb, r'', hr', hob⟩ := hW.1 a _ hs
  have ea : ((0, (ci : Int)) : zK).2.toNat = ci := rfl
  rw [ea] at hr' hob
  cases Option.some.inj (hr'.symm.trans hc)
  obtain ⟨cell, q1, q2, q3, q4⟩ := hob
  obtain ⟨hSl, hfc, kC, hkC, hkind⟩ := hQ.1 ci _ hc
  obtain ⟨cf, kf, fi, f, hi, hsl⟩ := hSl k hk
  have hi0 := hi
  have hst := (u_facts hfc hkC (u_lays hts (fun w h => h) hk) hi0).1
  have hap : ∀ x y, x < r.2.2 → y < r.2.2 → x ≠ y → (g.1.2 ci) x ≠ (g.1.2 ci) y := by
    intro x y hx hy hne
    obtain ⟨_, _, _, fa, hia, ea⟩ := hSl x hx
    obtain ⟨_, _, _, fb, hib, eb⟩ := hSl y hy
    rw [← ea, ← eb]
    refine u_apart (u_lays hts (fun w h => h) hx) (u_lays hts (fun w h => h) hy) hia hib ?_
    rw [(State.fieldFound?_type hia (hty x hx)).1, (State.fieldFound?_type hib (hty y hy)).1]
    exact hnm x hx y hy hne
  have e0 : zv g (4, a) = .ref a.toNat := z_ref (by omega)
  have hvv : narrow (ty0 k) (zv g (tag, v)) = zv g (tag, v) ∧ fits (ty0 k) (zv g (tag, v)) = true := by
    subst ht0
    rw [htyk]
    exact z_nbyte hvb
  have hd : parseFieldDescriptor (r.2.1 k).2.2.1 = some (ty0 k) := hty k hk
  -- the world behind the write
  have hnew : ∀ H' : Heap, H'[a.toNat]? = some (cell.setSlot (g.1.2 ci k) (zv g (tag, v))) → H'.size = H.size → (∀ q, q ≠ a.toNat → H'[q]? = H[q]?) → zW g τ H' ∧ va_S (zA g) s.heap H' (locs ++ [⟨a.toNat, g.1.2 ci k⟩]) := by
    intro H' e1 e2 e3
    refine ⟨zW_put hW hs e2 e3 (by rw [hτ]; rcases ht with rfl | rfl <;> rfl) (by rw [hτ]; rcases ht with rfl | rfl <;> rfl) (fun b j hb => ?_) (fun b j hb => ?_) ⟨r, hc, ?_⟩ ?_, hV.put e2 e3 (by show g.2.2.1 ≤ a.toNat; omega)⟩
    · rw [hτ]; rcases ht with rfl | rfl
      · rfl
      · exact zup_ne hb
    · rw [hτ]; rcases ht with rfl | rfl
      · exact zup_ne hb
      · rfl
    · refine t_OB.to (V := updV (fun j => zv g (ze σ a (zfe ci j) j)) k (zv g (tag, v))) ⟨_, e1, q2, q3, t_set q4 hap hk _⟩ (fun j hj => ?_)
      unfold updV
      by_cases ej : j = k
      · subst ej
        rw [if_pos rfl, hτ]
        show _ = zv g (ze _ a (zfe ci j) j)
        rw [htag]
        rcases ht with rfl | rfl
        · show _ = zv g (0, zup σ.2 a j v a j)
          unfold zup; rw [if_pos ⟨rfl, rfl⟩]
        · show _ = zv g (4, zup σ.1.2.1 a j v a j)
          unfold zup; rw [if_pos ⟨rfl, rfl⟩]
      · rw [if_neg ej, hτ]
        have ej' : (j : Int) ≠ (k : Int) := fun z => ej (by omega)
        show zv g (ze σ a (zfe ci j) j) = zv g (ze _ a (zfe ci j) j)
        unfold ze
        rcases ht with rfl | rfl
        · show _ = zv g (zfe ci j, if zfe ci j = 4 then σ.1.2.1 a j else zup σ.2 a k v a j)
          rw [zup_nj ej']
        · show _ = zv g (zfe ci j, if zfe ci j = 4 then zup σ.1.2.1 a k v a j else σ.2 a j)
          rw [zup_nj ej']
    · rw [hτ]; rcases ht with rfl | rfl
      · exact zNM_put hW.2.1 (fun _ => hvn)
      · exact hW.2.1
  have kk := fun H' locs' hW' hV' => kk p e s m args below meth c H' locs' cells slots ls hC0 hl hL (zS_t (zS_t hS)) hW' hV' h1 h2
  rw [List.map_cons, List.map_cons, e0]
  rcases hfin with hfin | ⟨hfin, hin2, hdecl, hlk⟩
  · have hlay := hts _ (u_in_lay (C := r.1) (T := r.2.1) (N := r.2.2) hk)
    unfold u_lay at hlay
    rw [if_neg (by rw [hfin]; decide)] at hlay
    have h6 := u_store hfc hkC hkind hlay hi0 hd hvv.1 hvv.2
    rcases hlink with hlink | ⟨host, hlink⟩
    · refine W.putK hx hb (f := f) ⟨hown, hQ.2.2.1 _ hlink _, ⟨_, _, _, hi⟩, hst⟩ (by rw [q2]; exact h6) q1 q3 (by rw [hsl]; exact k2_hasslot (q4 k hk)) rfl rfl d fun H' e1 e2 e3 => ?_
      rw [hsl] at e1 ⊢
      obtain ⟨w1, w2⟩ := hnew H' e1 e2 e3
      exact kk _ _ w1 w2
    · refine va_WputK hx hb (f := f) hown (hQ.2.2.1 _ hlink _) hi hst (by rw [q2]; exact h6) q1 q3 (by rw [hsl]; exact k2_hasslot (q4 k hk)) rfl rfl d fun H' e1 e2 e3 => ?_
      rw [hsl] at e1 ⊢
      obtain ⟨w1, w2⟩ := hnew H' e1 e2 e3
      exact kk _ _ w1 w2
  · have hlay := hts _ (u_in_lay (C := r.1) (T := r.2.1) (N := r.2.2) hk)
    unfold u_lay at hlay
    rw [if_pos hfin] at hlay
    have hcf : m.cls = cf := by
      obtain ⟨_, _, c', _, _, _, -, -, hf', -, -, -, hown2, -⟩ := Cond.laysFinal_spec hlay
      have e1 : c' = cf := by have := hi0.symm.trans hf'; simp at this; exact this.1.symm
      rw [hdecl] at hown2
      rw [← e1]; exact Option.some.inj (hown.symm.trans hown2)
    have h6 := u_fits hfc hkC hkind (Or.inr hlay) hi0 hd hvv.1 hvv.2
    refine W.putFinK hx hb hown (hQ.2.2.1 _ hlk _) hi hst hcf (hmn.trans hin2) (by rw [q2]; exact h6) q1 q3 (by rw [hsl]; exact k2_hasslot (q4 k hk)) rfl rfl d fun H' e1 e2 e3 => ?_
    rw [hsl] at e1 ⊢
    obtain ⟨w1, w2⟩ := hnew H' e1 e2 e3
    exact kk _ _ w1 w2
theorem r_putB {ci k idx : Nat} {a v : Int} {F : zS → zFn} (hf : zFd K.1.cls idx ci k) (hp : zFpB K idx ci k 0) (d : decode K.2.1 pc = .ok (.putfield idx, 3)) (h : zo (if 0 ≤ v ∧ v < 128 then zpf ci k a v σ F else none) Q) (kk : ∀ τ, zo (F τ) Q → zw g K R (pc + 3) L S τ C D Q) : zw g K R pc L ((0, v) :: (4, a) :: S) σ C D Q := by
  obtain ⟨hvb, h⟩ := zite_o h
  obtain ⟨hs, h⟩ := zpf_o h
  exact r_putb0 hf hp hvb rfl d hs (Or.inl rfl) rfl (kk _ h)
end ZRJ
theorem z_b256 : ∀ n, n < 256 → fits .byte (.int (Int32.ofInt (((n : Nat) : Int) - 128))) = true := by decide +kernel
theorem z_fitB {a : Int} (h : -128 ≤ a ∧ a < 128) : fits .byte (.int (Int32.ofInt a)) = true := by
  have e := z_b256 (a + 128).toNat (by omega)
  rw [show (((a + 128).toNat : Nat) : Int) - 128 = a by omega] at e
  exact e
/-- these places of a byte array hold bytes -/
def zyB (σ : zS) (a s n : Int) : Prop := ∀ i : Int, s ≤ i → i < s + n → -128 ≤ σ.2 a i ∧ σ.2 a i < 128
section ZRK
variable {g : zF} {K : zY} {R : Room} {L : List (Nat × zV)} {S : List zV} {σ : zS} {C D : Nat} {Q : zR × zS → Prop} {pc : Nat}
def zakB (σ : zS) (a0 sp a dp n : Int) : Prop := match σ.1.1 a0, σ.1.1 a with
  | some k0, some k1 => k0.1 = 2 ∧ k1.1 = 2 ∧ 0 ≤ sp ∧ 0 ≤ dp ∧ 0 ≤ n ∧ sp + n ≤ k0.2 ∧ dp + n ≤ k1.2 ∧ zyB σ a0 sp n
  | _, _ => False
noncomputable def zakBD (σ : zS) (a0 sp a dp n : Int) : Decidable (zakB σ a0 sp a dp n) := Classical.propDecidable _
noncomputable def zacB (a0 sp a dp n : Int) (σ : zS) (F : zS → zFn) : zFn := @ite _ (zakB σ a0 sp a dp n) (zakBD σ a0 sp a dp n) (F (σ.1, zcp σ.2 a0 sp a dp n)) none
theorem zakB_k {a0 sp a dp n : Int} (h : zakB σ a0 sp a dp n) : ∃ n0 n1 : Int, σ.1.1 a0 = some (2, n0) ∧ σ.1.1 a = some (2, n1) ∧ 0 ≤ sp ∧ 0 ≤ dp ∧ 0 ≤ n ∧ sp + n ≤ n0 ∧ dp + n ≤ n1 ∧ zyB σ a0 sp n := by
  unfold zakB at h
  split at h
  · rename_i k0 k1 h0 h1
    obtain ⟨x0, y0⟩ := k0
    obtain ⟨x1, y1⟩ := k1
    obtain ⟨rfl, rfl, h⟩ := h
    exact ⟨y0, y1, h0, h1, h⟩
  · exact h.elim
theorem r_acopyB {idx : Nat} {a0 sp a dp n : Int} {F : zS → zFn} (hw : zL (.methodLink K.1.cls idx arraycopyName) ∧ zL (.native arraycopyName) ∧ zL (.static arraycopyName) ∧ zL (.initialized "java/lang/System")) (hR : 1 ≤ R.frames ∧ (S.map fun v => if v.1 == 1 || v.1 == 3 then 2 else 1).sum + (nativeFrameWords "java/lang/System" "arraycopy" 5 + 11) ≤ R.locals) (d : decode K.2.1 pc = .ok (.invokestatic idx, 3)) (h : zo (zacB a0 sp a dp n σ F) Q) (kk : ∀ τ, zo (F τ) Q → zw g K R (pc + 3) L S τ C D Q) : zw g K R pc L ((0, n) :: (0, dp) :: (4, a) :: (0, sp) :: (4, a0) :: S) σ C D Q := by
  intro p e s m args below meth c H locs cells slots ls hC hl hL hS hW hV h1 h2
  obtain ⟨hin, h⟩ := zite_o h
  obtain ⟨n0, n1, hk0, hk1, p1, p2, p3, p4, p5, p6⟩ := zakB_k hin
  have hQ := hC.2.2.2.2.2.2.1
  obtain ⟨gb0, -, ⟨m0, m1⟩, hc0⟩ := hW.1 a0 _ hk0
  obtain ⟨gb1, -, ⟨m2, m3⟩, hc1⟩ := hW.1 a _ hk1
  have hzn : zI n := zS_1 hS
  have hzd : zI dp := zS_1 (zS_t hS)
  have hzs : zI sp := zS_1 (zS_t (zS_t (zS_t hS)))
  have e0 : zv g (4, a) = .ref a.toNat := z_ref (by omega)
  have e1 : zv g (4, a0) = .ref a0.toNat := z_ref (by omega)
  have tn : ∀ z : Int, zI z → 0 ≤ z → (Int32.ofInt z).toNatClampNeg = z.toNat ∧ ¬ Int32.ofInt z < 0 := fun z hz z0 => ⟨by unfold zI at hz; exact Int32.toNatClampNeg_ofInt_of_le (by omega) (by omega), fun q => by have := (z_lt hz zI_0).mp q; omega⟩
  obtain ⟨tn1, tn2⟩ := tn n hzn p3
  obtain ⟨td1, td2⟩ := tn dp hzd p2
  obtain ⟨ts1, ts2⟩ := tn sp hzs p1
  obtain ⟨-, k0, hkk0, cm0, hkd0⟩ := (hQ.2.1 2 (by decide) (by decide)).1 n0.toNat (fun j => zv g (ze σ a0 0 j))
  obtain ⟨-, k1, hkk1, cm1, hkd1⟩ := (hQ.2.1 2 (by decide) (by decide)).1 n1.toNat (fun j => zv g (ze σ a 0 j))
  rw [List.map_cons, List.map_cons, List.map_cons, List.map_cons, List.map_cons, e0, e1]
  have hcs : ((S.map (zv g)).map fun v => v.category).sum + (nativeFrameWords "java/lang/System" "arraycopy" 5 + 11) ≤ R.locals := by
    refine Nat.le_trans (Nat.le_of_eq ?_) hR.2
    congr 1
    rw [List.map_map]
    congr 1
    apply List.map_congr_left
    intro v _
    have h := zcat g v
    show (zv g v).category = _
    rcases lv_cat (zv g v) with e | e <;> rw [e] at h ⊢
    · rw [if_neg]; rw [← h]; decide
    · rw [if_pos]; rw [← h]; rfl
  intro T hT X
  obtain ⟨vm', X', step⟩ := X.arraycopy hC.1 hC.2.2.2.2.2.1 (hQ.2.2.1 _ hw.1 _) (hQ.2.2.1 _ hw.2.1 _) (hQ.2.2.1 _ hw.2.2.1 _) (hQ.2.2.1 _ hw.2.2.2 _) (src := a0.toNat) (dst := a.toNat) (cs := arrV (g.2.1 2) n0.toNat (fun j => zv g (ze σ a0 0 j))) (cd := arrV (g.2.1 2) n1.toNat (fun j => zv g (ze σ a 0 j))) (srcPos := Int32.ofInt sp) (destPos := Int32.ofInt dp) (n := Int32.ofInt n) (by rw [hT]; exact hc0) (by rw [hT]; exact hc1)
    (fun _ h => by cases h) (fun _ h => by cases h) (fun h => by cases h) (fun h => by cases h) hkk0 hkk1 hkd0 hkd1 (by decide) ts2 td2 tn2
    (by rw [z_to hzs, z_to hzn, arrV_size]; omega)
    (by rw [z_to hzd, z_to hzn, arrV_size]; omega)
    (fun vm₁ _ i hi => by
      rw [tn1] at hi
      have e : (arrV (g.2.1 2) n0.toNat (fun j => zv g (ze σ a0 0 j))).slots.getD ((Int32.ofInt sp).toNatClampNeg + i) .null = .int (Int32.ofInt (σ.2 a0 ((sp.toNat + i : Nat) : Int))) := by
        rw [ts1, Array.getD_eq_getD_getElem?, arrV_read _ _ (by omega)]
        rfl
      refine ⟨?_, ?_⟩
      · rw [e]; exact z_fitB (by have := p6 ((sp.toNat + i : Nat) : Int) (by omega) (by omega); omega)
      · rw [e]
        exact trivial)
    (g := F0 m pc ls (.int (Int32.ofInt n) :: .int (Int32.ofInt dp) :: .ref a.toNat :: .int (Int32.ofInt sp) :: .ref a0.toNat :: S.map (zv g))) rfl (by rw [hC.2.2.1]; exact hl.1) (rest := S.map (zv g)) rfl (by rw [hC.2.1]; exact d) hR.1 (by show 2 * 0 + _ + _ ≤ _; omega)
  have e9 : copied (arrV (g.2.1 2) n0.toNat (fun j => zv g (ze σ a0 0 j))) (arrV (g.2.1 2) n1.toNat (fun j => zv g (ze σ a 0 j))) (Int32.ofInt sp) (Int32.ofInt dp) (Int32.ofInt n) = arrV (g.2.1 2) n1.toNat (fun j => zv g (ze (σ.1, zcp σ.2 a0 sp a dp n) a 0 j)) := by
    have h9 := va_copied (fun z : Value => z) (g.2.1 2) (g.2.1 2) (n0 := n0.toNat) (n1 := n1.toNat) (sp := sp.toNat) (dp := dp.toNat) (n := n.toNat) (fun j => zv g (ze σ a0 0 j)) (fun j => zv g (ze σ a 0 j)) (by omega)
    unfold copied
    rw [ts1, td1, tn1]
    refine h9.trans ?_
    congr 1
    funext j
    unfold va_cpy
    show (if dp.toNat ≤ j ∧ j < dp.toNat + n.toNat then zv g (0, σ.2 a0 ((sp.toNat + (j - dp.toNat) : Nat) : Int)) else zv g (0, σ.2 a j)) = zv g (0, zcp σ.2 a0 sp a dp n a j)
    unfold zcp
    by_cases hj : dp.toNat ≤ j ∧ j < dp.toNat + n.toNat
    · rw [if_pos hj, if_pos ⟨rfl, by omega, by omega⟩]
      rw [show (((sp.toNat + (j - dp.toNat) : Nat) : Int)) = sp + ((j : Int) - dp) by omega]
    · rw [if_neg hj, if_neg (fun z => hj ⟨by omega, by omega⟩)]
  rw [e9] at X' step
  have hlt : a.toNat < H.size := (Array.getElem?_eq_some_iff.mp hc1).1
  obtain ⟨H', hH'⟩ : ∃ H' : Heap, H' = H.setIfInBounds a.toNat (arrV (g.2.1 2) n1.toNat (fun j => zv g (ze (σ.1, zcp σ.2 a0 sp a dp n) a 0 j))) := ⟨_, rfl⟩
  have q1 : H'.size = H.size := by rw [hH']; simp
  have q2 : ∀ q : Nat, q ≠ a.toNat → H'[q]? = H[q]? := fun q hq => by rw [hH']; simp [Array.getElem?_setIfInBounds, Ne.symm hq]
  have q3 : H'[a.toNat]? = some (arrV (g.2.1 2) n1.toNat (fun j => zv g (ze (σ.1, zcp σ.2 a0 sp a dp n) a 0 j))) := by rw [hH']; simp [Array.getElem?_setIfInBounds, hlt]
  have hN : zNM (σ.1, zcp σ.2 a0 sp a dp n) := by
    intro b j hb
    show zI (zcp σ.2 a0 sp a dp n b j)
    unfold zcp
    split
    · exact hW.2.1 a0 _ (fun z => by rw [hk0]; intro h; cases h)
    · exact hW.2.1 b j hb
  have hW' : zW g (σ.1, zcp σ.2 a0 sp a dp n) H' := zW_put hW hk1 q1 q2 rfl rfl (fun b j hb => rfl) (fun b j hb => by show zcp _ _ _ _ _ _ _ _ = _; unfold zcp; rw [if_neg (fun z => hb z.1)]) ⟨by decide, ⟨m2, m3⟩, q3⟩ hN
  have hT' : ((T.setVm vm').setCell a.toNat (arrV (g.2.1 2) n1.toNat (fun j => zv g (ze (σ.1, zcp σ.2 a0 sp a dp n) a 0 j)))).heap = H' := by rw [hH', ← hT]; rfl
  obtain ⟨t, a1, b1⟩ := kk _ h p e s m args below meth c H' _ cells slots ls hC hl hL (zS_t (zS_t (zS_t (zS_t (zS_t hS))))) hW' ⟨by rw [q1]; exact hV.1, fun q g1 g2 => (q2 q (fun e => g2 (by show g.2.2.1 ≤ q; omega))).trans (hV.2.1 q g1 g2), fun q hq => (List.mem_append.mp hq).elim (fun h => hV.2.2 q h) (fun h => by obtain ⟨z, -, hz⟩ := List.mem_map.mp h; rw [← hz]; show g.2.2.1 ≤ a.toNat; omega)⟩ h1 h2 _ hT' X'
  exact ⟨t, step t a1, b1⟩
end ZRK
