/-! ROWS 7: the law's own rows -/
def zbu (τ : zS) (n : Int) : zS := ((τ.1.1, τ.1.2.1, n), τ.2)
theorem zcw_cons {K' : zY} (h : K'.2.2.2.2 ≠ []) : zcw K' = Cond.codeWith K'.1 K'.2.1 K'.2.2.1 K'.2.2.2.1 K'.2.2.2.2 := by
  unfold zcw
  cases e : K'.2.2.2.2 with
  | nil => exact absurd e h
  | cons a b => rfl
/-- what is asked of a method with handlers -/
def zk0H (K' : zY) (n : Nat) : Prop := zL (zcw K') ∧ zL (.initialized K'.1.cls) ∧ (K'.1.cls ≠ "java/lang/invoke/MethodHandle" ∧ K'.1.cls ≠ "java/lang/invoke/VarHandle" ∧ (parseMethodDescriptor K'.1.desc).map (fun d => d.parameters.length) = some n) ∧ K'.2.2.2.2 ≠ []
/-- where an exception is caught -/
def zhd (K : zY) (pc ex hp : Nat) : Prop := ∃ (pre : List ExceptionTableEntry) (x : ExceptionTableEntry) (suf : List ExceptionTableEntry), tableOf K.2.2.2.2 = pre ++ x :: suf ∧ covers x pc = true ∧ x.catchType ≠ 0 ∧ x.handlerPc = hp ∧ zL (.classLink K.1.cls x.catchType (zex ex)) ∧ zL (.castable (zex ex) (zex ex)) ∧ ∀ z ∈ pre, z.catchType ≠ 0 ∧ ∃ e2, zL (.classLink K.1.cls z.catchType (zex e2)) ∧ (ex, e2) ∈ znc
theorem zscr_I (g : zF) (j : Nat) : zI (zscr g j) := ⟨Int32.le_toInt _, Int32.toInt_lt _⟩
section ZR8
variable {g : zF} {K : zY} {R : Room} {L : List (Nat × zV)} {S : List zV} {σ : zS} {C D : Nat} {Q : zR × zS → Prop} {pc : Nat}
theorem zm_ofH {as : List zV} (hy : plainName K.1.cls = true) (hh : K.2.2.2.2 ≠ []) (hn : zsz as ≤ K.2.2.1) (body : zw g K R 0 (zar 0 as) [] σ R.cells R.slots Q) : zm g K R as σ Q := by
  intro hz
  have ew : [zcw K] = Cond.codeWith K.1 K.2.1 K.2.2.1 K.2.2.2.1 K.2.2.2.2 :: [] := by rw [zcw_cons hh]
  refine vx_ofWH (cc := K.2.1) (maxL := K.2.2.1) (ret := K.2.2.2.1) (hh := K.2.2.2.2) hy ew ?_
  intro p e s m args below meth c s₁ B hml hv
  obtain ⟨rfl, hW, hQ⟩ := hv
  have hown : s.vm.findClass K.1.cls = some m.cls := findClass_of_methodNamed B.named
  have hl := lv_entry (as.map (zv g)) (n := K.2.2.1) (by rw [zsz_sl]; exact hn)
  have hE : c.exceptionTable.toList = tableOf K.2.2.2.2 := vx_table (x := K.1) B (atoms_spec (ws := [zcw K]) B.pre _ (by rw [ew]; exact List.mem_cons_self))
  rw [lg_entry_eq]
  generalize (lg_sl (as.map (zv g)) ++ List.replicate (K.2.2.1 - (lg_sl (as.map (zv g))).length) Slot.unset).toArray = ls at hl ⊢
  rw [zar_map] at hl
  exact body p e s m _ below meth c s.heap [] 0 0 ls ⟨B.exec, B.bytes, hml, B.returns, B.notSynchronized, hown, hQ, (name_of_methodNamed B.named B.method).1, hE⟩ hl (zar_n hz 0) (fun v hv => by cases hv) hW va_S.rf (by omega) (by omega)
theorem r_scrlen (hL9 : (zsl9 g : Int) < 2147483648) (d : decode K.2.1 pc = .ok (.arraylength, 1)) (kk : zw g K R (pc + 1) L ((0, (zsl9 g : Int)) :: S) σ C D Q) : zw g K R pc L ((6, 200) :: S) σ C D Q := by
  intro p e s m args below meth c H locs cells slots ls hC hl hL hS hW hV h1 h2
  obtain ⟨⟨hb, hX⟩, -⟩ := hC.2.2.2.2.2.2.1.2.2.2.2.1.2.2
  have hbl : g.2.2.2.2.2 200 < s.heap.size := by
    obtain ⟨scr, e1, -⟩ := hX
    exact (Array.getElem?_eq_some_iff.mp e1).1
  have kk := kk p e s m args below meth c H locs cells slots ls hC hl hL (zS_c (by show zI _; unfold zI; omega) (zS_t hS)) hW hV h1 h2
  refine va_slen hC.1 hC.2.1 hX hbl (fun h9 => absurd hb (Nat.not_lt.mpr h9)) hV d ?_
  have e9 : zv g (0, (zsl9 g : Int)) = .int (Int32.ofNat (zsl9 g)) := by show Value.int (Int32.ofInt _) = _; rw [Int32.ofInt_eq_ofNat]
  rw [List.map_cons, e9] at kk
  exact kk
theorem r_scrld {i : Int} {F : Int → zFn} (hL9 : (zsl9 g : Int) < 2147483648) (d : decode K.2.1 pc = .ok (.iaload, 1)) (h : zo (if 0 ≤ i ∧ i < (zsl9 g : Int) then F (zscr g i.toNat) else none) Q) (kk : ∀ x, zo (F x) Q → zw g K R (pc + 1) L ((0, x) :: S) σ C D Q) : zw g K R pc L ((0, i) :: (6, 200) :: S) σ C D Q := by
  intro p e s m args below meth c H locs cells slots ls hC hl hL hS hW hV h1 h2
  obtain ⟨⟨i0, i1⟩, h⟩ := zite_o h
  obtain ⟨⟨hb, hX⟩, -⟩ := hC.2.2.2.2.2.2.1.2.2.2.2.1.2.2
  have hbl : g.2.2.2.2.2 200 < s.heap.size := by
    obtain ⟨scr, e1, -⟩ := hX
    exact (Array.getElem?_eq_some_iff.mp e1).1
  have kk := kk _ h p e s m args below meth c H locs cells slots ls hC hl hL (zS_c (zscr_I g i.toNat) (zS_t (zS_t hS))) hW hV h1 h2
  have e1 : (Int32.ofInt i).toNatClampNeg = i.toNat := by
    unfold Int32.toNatClampNeg
    rw [Int32.toInt_ofInt_of_le (by omega) (by omega)]
  refine va_sld (i := Int32.ofInt i) hC.1 hC.2.1 hX hbl (fun h9 => absurd hb (Nat.not_lt.mpr h9)) hV ?_ d ?_
  · intro hc
    rcases hc with hc | hc
    · have := Int32.lt_iff_toInt_lt.mp hc
      rw [Int32.toInt_ofInt_of_le (by omega) (by omega)] at this
      have h0 : (0 : Int32).toInt = 0 := rfl
      omega
    · rw [e1] at hc; omega
  · rw [e1]; exact kk
theorem r_callVC {K' : zY} {R' : Room} {idx n : Nat} {b : Int} {as rest : List zV} {F : zFn} {C' D' : Nat} {cn : Nat} (h0 : zk0 K' n) (hV9 : zkV K') (hl : zkL K.1.cls idx K') (hR : zkR R R' K') (d : decode K.2.1 pc = .ok (.invokevirtual idx, 3)) (hn : as.length = n) (hS' : S = (as.reverse ++ (4, b) :: rest)) (hcat : ((rest.map fun v => if v.1 == 1 || v.1 == 3 then 2 else 1).sum) ≤ 8) (hC' : C' + R'.cells ≤ C) (hD' : D' + R'.slots ≤ D) (hcl : zcn cn = K'.1.cls) (hobj : σ.1.1 b = some (0, (cn : Int))) (hF0 : ∃ r, F = some r)
    (hm : ∀ r, F = some r → zm g K' R' ((4, b) :: as) σ (fun x => F = some x)) (kx : ∀ ex τ n (q : Nat), F = some (.inr ex, τ) → τ.1.2.2 ≤ n → ∃ hp, zhd K pc ex hp ∧ zw g K R hp L [(4, (q : Int))] (zbu τ n) C' D' Q) (kk : ∀ v τ, F = some (.inl v, τ) → zw g K R (pc + 3) L (zpu K'.2.2.2.1 v rest) τ C' D' Q) : zw g K R pc L S σ C D Q := by
  intro p e s m args below meth c H locs cells slots ls hC hl9 hL hS hW hV h1 h2
  subst hS'

  obtain ⟨r, hF⟩ := hF0
  have hQ := hC.2.2.2.2.2.2.1
  obtain ⟨w0, w1, ⟨n1, n2, n3⟩, w2⟩ := h0
  have hSr : ∀ v ∈ rest, zn v := fun v hv => hS v (List.mem_append_right _ (List.mem_cons_of_mem _ hv))
  have hSa : ∀ v ∈ ((4, b) :: as), zn v := fun v hv => (List.mem_cons.mp hv).elim (fun e => by rw [e]; trivial) (fun hv => hS v (List.mem_append_left _ (List.mem_reverse.mpr hv)))
  have hM := hm r hF hSa
  have hcode : (Cond.code K'.1 K'.2.1 K'.2.2.1 K'.2.2.2.1).before args s = true := by rw [← zcw_nil w2]; exact hQ.2.2.1 _ w0 _
  have hmem : Cond.code K'.1 K'.2.1 K'.2.2.1 K'.2.2.2.1 ∈ [zcw K'] := by rw [zcw_nil w2]; exact List.mem_cons_self
  have hfix : CallFix p m c K.2.1 K.2.2.1 s args [] K.1.cls := ⟨hC.1, hC.2.1, hC.2.2.1, hC.2.2.2.2.2.1, fun w hw => by cases hw⟩
  have hpre : ∀ U : State, U.heap = H → s.WarmedH U.vm → va_Pc (((4, b) :: as).map (zv g)) (fun U => zW g σ U.heap ∧ zQ g U) (((4, b) :: as).map (zv g)).toArray U := fun U hU hw => z_pc hW hQ hV hU hw
  obtain ⟨gb, rr, hrr, cell, q1, q2, q3, q4⟩ := hW.1 b _ hobj
  have hb0 : (0 : Int) ≤ b := by omega
  have hrr : vwCl[cn]? = some rr := hrr
  have hrecv : ∃ cellB : Cell, H[b.toNat]? = some cellB ∧ cellB.vm.isStatics = false ∧ s.vm.findClass K'.1.cls = some cellB.cls := ⟨cell, q1, by rw [q3]; rfl, by rw [← hcl, zcn_of hrr, q2]; exact (hQ.1 cn rr hrr).2.1⟩
  have eb : zv g (4, b) = .ref b.toNat := z_ref hb0
  have est : (as.reverse ++ (4, b) :: rest).map (zv g) = (as.map (zv g)).reverse ++ .ref b.toNat :: rest.map (zv g) := by rw [List.map_append, List.map_reverse, List.map_cons, eb]
  have eal : ((4, b) :: as).map (zv g) = .ref b.toNat :: as.map (zv g) := by rw [List.map_cons, eb]
  rw [eal] at hpre hM
  have hcat' : ((rest.map (zv g)).map fun v => v.category).sum ≤ 8 := by
    rw [List.map_map]
    refine Nat.le_trans (Nat.le_of_eq ?_) hcat
    congr 1
    apply List.map_congr_left
    intro v _
    have h := zcat g v
    show (zv g v).category = _
    rcases lv_cat (zv g v) with e | e <;> rw [e] at h ⊢
    · rw [if_neg]; rw [← h]; decide
    · rw [if_pos]; rw [← h]; rfl
  rw [est]
  have hfb : FrameBlind (va_Pc (.ref b.toNat :: as.map (zv g)) (fun U => zW g σ U.heap ∧ zQ g U)) := zm_FrameBlind
  rcases hl with hl | ⟨host, hl⟩
  all_goals
    refine z_run (a := (Value.ref b.toNat :: as.map (zv g)).toArray) (K' := K') (R' := R') (Q' := fun x => F = some x) (st0 := _) (rest := rest.map (zv g)) ?_ hV (fun ex τ nn H1 locs1 q ce hq hnn hW1 hV1 g1 g2 g3 => by
      obtain ⟨hp, ⟨pre, x, suf, y1, y2, y3, y4, y5, y6, y7⟩, kz⟩ := kx ex τ nn q hq hnn
      have kz := kz p e s m args below meth c H1 locs1 (cells + R'.cells) (slots + R'.slots) ls hC hl9 hL (fun v hv => by cases List.mem_singleton.mp hv; trivial) hW1 hV1 (by omega) (by omega)
      rw [← y4] at kz
      exact vx_catch hC.2.2.2.2.2.1 pre x suf (hC.2.2.2.2.2.2.2.2.trans y1) (fun z hz => Or.inr ⟨(y7 z hz).1, zex (y7 z hz).2.choose, hQ.2.2.1 _ (y7 z hz).2.choose_spec.1 _, hQ.2.2.2.2.1.2.2.2 _ (y7 z hz).2.choose_spec.2⟩) y2 y3 (hQ.2.2.1 _ y5 _) (hQ.2.2.1 _ y6 _) g1 g2 g3 kz) (fun v τ H1 locs1 hq hz hW1 hV1 => by rw [zpu_map]; exact kk v τ hq p e s m args below meth c H1 locs1 _ _ ls hC hl9 hL (zpu_n hz hSr) hW1 hV1 (by omega) (by omega))
  · exact vx_runV (maxL := K'.2.2.1) (bytes := K'.2.1) (ret := K'.2.2.2.1) (n := n) (As := as.map (zv g)) (rest := rest.map (zv g)) hfix hM ⟨⟨rfl, rfl, hR.1, hR.2, z_words hQ w0, hmem, hcode, hQ.2.2.1 _ w1 _, ⟨n1, n2⟩, z_len n3, hQ.2.2.1 _ hl _⟩, hQ.2.2.1 _ hV9.1 _, hQ.2.2.1 _ hV9.2 _⟩ ⟨hfb, hrecv, hpre⟩ rfl (by rw [List.length_map]; exact hn) hl9.1 rfl (lv_room hcat') d ⟨by omega, by omega⟩
  · exact vx_runVN (maxL := K'.2.2.1) (bytes := K'.2.1) (ret := K'.2.2.2.1) (n := n) (As := as.map (zv g)) (rest := rest.map (zv g)) hfix hM ⟨⟨⟨rfl, rfl, hR.1, hR.2, z_words hQ w0, hmem⟩, hcode, hQ.2.2.1 _ w1 _, ⟨n1, n2⟩, z_len n3, hQ.2.2.1 _ hl _⟩, hQ.2.2.1 _ hV9.1 _, hQ.2.2.1 _ hV9.2 _⟩ ⟨hfb, hrecv, hpre⟩ rfl (by rw [List.length_map]; exact hn) hl9.1 rfl (lv_room hcat') d ⟨by omega, by omega⟩
theorem r_callSH {K' : zY} {R' : Room} {idx n : Nat} {as rest : List zV} {Q' : zR × zS → Prop} {C' D' : Nat} (h0 : zk0H K' n) (hV9 : zL (.static K'.1)) (hl : zL (.methodLink K.1.cls idx K'.1)) (hR : zkR R R' K') (d : decode K.2.1 pc = .ok (.invokestatic idx, 3)) (hn : as.length = n) (hS' : S = (as.reverse ++ rest)) (hcat : ((rest.map fun v => if v.1 == 1 || v.1 == 3 then 2 else 1).sum) ≤ 8) (hC' : C' + R'.cells ≤ C) (hD' : D' + R'.slots ≤ D) 
    (hm : zm g K' R' as σ Q') (hx : ∀ e τ, ¬ Q' (.inr e, τ)) (kk : ∀ v τ, Q' (.inl v, τ) → zw g K R (pc + 3) L (zpu K'.2.2.2.1 v rest) τ C' D' Q) : zw g K R pc L S σ C D Q := by
  intro p e s m args below meth c H locs cells slots ls hC hl9 hL hS hW hV h1 h2
  subst hS'

  have hQ := hC.2.2.2.2.2.2.1
  obtain ⟨w0, w1, ⟨n1, n2, n3⟩, w2⟩ := h0
  have hSr : ∀ v ∈ rest, zn v := fun v hv => hS v (List.mem_append_right _ hv)
  have hSa : ∀ v ∈ as, zn v := fun v hv => hS v (List.mem_append_left _ (List.mem_reverse.mpr hv))
  have hM := hm hSa
  have hcode : (Cond.codeWith K'.1 K'.2.1 K'.2.2.1 K'.2.2.2.1 K'.2.2.2.2).before args s = true := by rw [← zcw_cons w2]; exact hQ.2.2.1 _ w0 _
  have hmem : Cond.codeWith K'.1 K'.2.1 K'.2.2.1 K'.2.2.2.1 K'.2.2.2.2 ∈ [zcw K'] := by rw [zcw_cons w2]; exact List.mem_cons_self
  have hfix : CallFix p m c K.2.1 K.2.2.1 s args [] K.1.cls := ⟨hC.1, hC.2.1, hC.2.2.1, hC.2.2.2.2.2.1, fun w hw => by cases hw⟩
  have hpre : ∀ U : State, U.heap = H → s.WarmedH U.vm → va_Pc (as.map (zv g)) (fun U => zW g σ U.heap ∧ zQ g U) (as.map (zv g)).toArray U := fun U hU hw => z_pc hW hQ hV hU hw
  have est : (as.reverse ++ rest).map (zv g) = (as.map (zv g)).reverse ++ rest.map (zv g) := by rw [List.map_append, List.map_reverse]
  have hcat' : ((rest.map (zv g)).map fun v => v.category).sum ≤ 8 := by
    rw [List.map_map]
    refine Nat.le_trans (Nat.le_of_eq ?_) hcat
    congr 1
    apply List.map_congr_left
    intro v _
    have h := zcat g v
    show (zv g v).category = _
    rcases lv_cat (zv g v) with e | e <;> rw [e] at h ⊢
    · rw [if_neg]; rw [← h]; decide
    · rw [if_pos]; rw [← h]; rfl
  rw [est]
  have hfb : FrameBlind (va_Pc (as.map (zv g)) (fun U => zW g σ U.heap ∧ zQ g U)) := zm_FrameBlind
  refine z_run (a := (as.map (zv g)).toArray) (K' := K') (R' := R') (Q' := Q') (st0 := _) (rest := rest.map (zv g)) ?_ hV (fun ex τ nn H1 locs1 q ce hq hnn hW1 hV1 g1 g2 g3 => absurd hq (hx ex τ)) (fun v τ H1 locs1 hq hz hW1 hV1 => by rw [zpu_map]; exact kk v τ hq p e s m args below meth c H1 locs1 _ _ ls hC hl9 hL (zpu_n hz hSr) hW1 hV1 (by omega) (by omega))
  exact vx_runSX (hh := K'.2.2.2.2) (maxL := K'.2.2.1) (bytes := K'.2.1) (ret := K'.2.2.2.1) (n := n) (As := as.map (zv g)) (rest := rest.map (zv g)) hfix hM ⟨⟨rfl, rfl, hR.1, hR.2, z_words hQ w0, hmem⟩, hcode, hQ.2.2.1 _ w1 _, ⟨n1, n2⟩, z_len n3, hQ.2.2.1 _ hl _, hQ.2.2.1 _ hV9 _⟩ ⟨hfb, hpre⟩ rfl (by rw [List.length_map]; exact hn) hl9.1 rfl (lv_room hcat') d ⟨by omega, by omega⟩
end ZR8
