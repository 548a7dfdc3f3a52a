/-! THE CLAIM OUT OF ONE WALK OF THE LAW'S BODY. Your part is whole_start (and what it stands on); all else here is the same for every law, but numbers. -/
def R_law : String := "PathTrustLaw"
def lw_P (b : Addr) (xs : List Int32) (args : Array Value) (s : State) : Prop := args = #[.ref b] ∧ s.IntsAt b xs ∧ xs.length ≤ 3072 ∧ (Jvm.Cond.and given_1 narrow_1).before args s = true
/-- what a walk over the start with the record d0 says of its end, said of the start itself -/
theorem lw_closed {s t : State} {o : Outcome} {d0 : Drawn} {L : List Loc} {k n : Nat} (hd0 : s.drawn.sameBut d0 lw_cs) (hv : ∃ v, o = .returned v) (hW : (s.setDrawn d0).WarmedH t.vm) (hs : (s.setDrawn d0).sameButNew ({ t with vm := s.vm } : State) L k n) : State.butDraws s t lw_cs (fun t1 => Framed s o t1 L k n) := by
  have h2 : t.drawn = d0 := congrArg State.drawn hs.1
  refine ⟨⟨hv, hW, State.sameButNew.setDrawn hs s.drawn⟩, ?_, by decide⟩
  rw [h2]
  exact hd0
def lw_Q (_ : Array Value) (s : State) (o : Outcome) (t : State) : Prop := o = .returned (some (.int 1)) ∧ State.butDraws s t lw_cs (fun t1 => Framed s o t1 [] 164820 8601644)
def lw_Z (below : List Frame) (a : Array Value) (s : State) : State → Prop := fun t => ∃ o, t.status = .running ∧ Ended t below o ∧ lw_Q a s o t
/-- what holds at the law's entry: the machine, the code, the tables' words (any of lw_tbl by 'hts w (by decide +kernel)'), the script of L ints xs at the cell b, what the Statement gives of the start (any of its parts by flat_of_before) -/
def lw_At (p : Program) (s : State) (m : MethodId) (meth : Method) (c : Code) (b L : Nat) (xs : Nat → Int32) : Prop :=
  p.tables.exec = Jvm.exec ∧ c.code = code ∧ meth.sig.returnType = ret ∧ c.maxLocals = 8 ∧ s.vm.findClass R_law = some m.cls ∧ (∀ w ∈ lw_tbl, w.before #[Value.ref b] s = true) ∧ va_X b L xs s s.heap ∧ b < s.heap.size ∧ meth.locks = false ∧ (Jvm.Cond.and given_1 narrow_1).before #[Value.ref b] s = true ∧ meth.name = x.name ∧ c.exceptionTable.toList = []
/-! what the start says -/
abbrev ns_F : List Cond := flatC (Jvm.Cond.and given_1 narrow_1)
def ns_k : Nat → Nat := fun i => match i with
  | 0 => 77
  | 1 => 82
  | 2 => 88
  | 3 => 90
  | 4 => 92
  | 5 => 94
  | 6 => 44
  | 7 => 58
  | 8 => 63
  | 9 => 148
  | _ => 68
def ns_t (i : Nat) : Term := .string "PathTrust$Parser" (ns_k i)
abbrev ns_v (i : Nat) : Term := .field (ns_t i) "java/lang/String" "value" "[B"
abbrev ns_l : List Nat := (List.range 11).map fun i => (zsb i).length
abbrev ns_b : List (List Int32) := (List.range 11).map zsb
set_option maxRecDepth 100000 in
theorem nr_1 : ∀ i, i < 11 → Cond.exactly (ns_t i) "java/lang/String" ∈ ns_F := by decide +kernel
set_option maxRecDepth 100000 in
theorem nr_2 : ∀ i, i < 11 → Cond.eq (.field (ns_t i) "java/lang/String" "coder" "B") (.int 0) ∈ ns_F := by decide +kernel
set_option maxRecDepth 100000 in
theorem nr_3 : ∀ i, i < 11 → Cond.arrayOf (ns_v i) .byte ∈ ns_F := by decide +kernel
set_option maxRecDepth 100000 in
theorem nr_4 : ∀ i, i < 11 → Cond.eq (.length (ns_v i)) (.int (Int32.ofNat (ns_l.getD i 0))) ∈ ns_F := by decide +kernel
set_option maxRecDepth 100000 in
theorem nr_5 : ∀ i, i < 11 → ∀ j, j < ns_l.getD i 0 → Cond.eq (.elem (ns_v i) (.int (Int32.ofNat j))) (.int ((ns_b.getD i []).getD j 0)) ∈ ns_F := by decide +kernel
set_option maxRecDepth 100000 in
theorem nr_6 : ∀ i, i < 11 → Cond.eq (ns_t i) (.string "PathTrustModel" (280 + 2 * i)) ∈ ns_F := by decide +kernel
set_option maxRecDepth 100000 in
theorem nr_7 : ∀ q ∈ zsm, Cond.exactly (.string q.1 q.2.1) "java/lang/String" ∈ ns_F := by decide +kernel
set_option maxRecDepth 100000 in
theorem nr_8 : ∀ q ∈ znc, Cond.not (.castable (zex q.1) (zex q.2)) ∈ ns_F := by decide +kernel
set_option maxRecDepth 100000 in
theorem nr_9 : ∀ q ∈ zsm, Cond.stringRef q.1 q.2.1 q.2.2 ∈ lw_tbl := by decide +kernel
set_option maxRecDepth 100000 in
theorem nr_10 : ∀ q ∈ zsr, Cond.stringRef q.1 q.2.1 q.2.2.1 ∈ lw_tbl := by decide +kernel
theorem nr_11 : ∀ q ∈ zsr, q.2.2.2 < 11 ∧ ((q.1 = "PathTrust$Parser" ∧ q.2.1 = ns_k q.2.2.2) ∨ (q.1 = "PathTrustModel" ∧ q.2.1 = 280 + 2 * q.2.2.2)) := by decide +kernel
theorem nr_12 : ∀ i, i < 11 → ∀ j, j < 11 → ns_l.getD i 0 = ns_l.getD j 0 → (∀ k, k < ns_l.getD i 0 → (ns_b.getD i []).getD k 0 = (ns_b.getD j []).getD k 0) → i = j := by decide +kernel
theorem nr_13 : ∀ i, i < 11 → ns_l.getD i 0 < 100 := by decide +kernel
set_option maxRecDepth 100000 in
theorem nr_14 : ∀ k, k < 3 → Cond.arrayOf (.static "PathTrust" (zsn k) "[I") .int ∈ ns_F := by decide +kernel
set_option maxRecDepth 100000 in
theorem nr_15 : ∀ k, k < 3 → Cond.eq (.length (.static "PathTrust" (zsn k) "[I")) (.int (Int32.ofNat 5)) ∈ ns_F := by decide +kernel
set_option maxRecDepth 100000 in
theorem nr_16 : ∀ k, k < 3 → ∀ j : Nat, j < 5 → Cond.eq (.elem (.static "PathTrust" (zsn k) "[I") (.int (Int32.ofNat j))) (.int (Int32.ofInt (zsv k (j : Int)))) ∈ ns_F := by decide +kernel
set_option maxRecDepth 100000 in
theorem nr_17 : ∀ k, k < 3 → Cond.laysStatic "PathTrust" (zsn k) "[I" ∈ lw_tbl := by decide +kernel
theorem nr_n {i j : Nat} (hi : i < 100) (hj : j < 100) (h : Int32.ofNat i = Int32.ofNat j) : i = j := by
  have e := congrArg Int32.toNatClampNeg h
  rw [Int32.toNatClampNeg_ofNat_of_lt (by omega), Int32.toNatClampNeg_ofNat_of_lt (by omega)] at e
  exact e
section NS
variable {s : State} {b : Nat}
/-- the words of the language as they stand -/
theorem ns_S {A : Nat → Prop} (hg : ∀ w ∈ ns_F, w.before #[Value.ref b] s = true) (hA : ∀ a : Nat, a < s.heap.size → ¬ A a) : ∃ adK adV : Nat → Nat, vk_S 11 ns_l ns_b adK adV A s s.heap ∧ ∀ i : Nat, i < 11 → (ns_t i).eval #[Value.ref b] s none [] s = some (.ref (adK i)) := by
  have h0 : ∀ i : Nat, ∃ q : Nat × Nat, i < 11 → (ns_t i).eval #[Value.ref b] s none [] s = some (.ref q.1) ∧ va_O "java/lang/String" q.1 A s s.heap ∧ va_OF "java/lang/String" "coder" "B" (.int 0) q.1 A s s.heap ∧ va_OF "java/lang/String" "value" "[B" (.ref q.2) q.1 A s s.heap ∧ va_T .byte q.2 (ns_l.getD i 0) (fun j => .int ((ns_b.getD i []).getD j 0)) A s s.heap := by
    intro i
    by_cases hi : i < 11
    · obtain ⟨a, c, cA, kA, q1, q2, q3, q4, q5, q6, -⟩ := Cond.exactly_spec (args := #[Value.ref b]) (first := s) (o := none) (s := s) (idx := []) (t := ns_t i) (cls := "java/lang/String") (hg _ (nr_1 i hi))
      have h13 := nr_13 i hi
      obtain ⟨t, ht, hT⟩ := va_Tof (f := fun j => .int ((ns_b.getD i []).getD j 0)) (A := A) (by omega) (hg _ (nr_3 i hi)) (va_eqt (hg _ (nr_4 i hi))) (fun j hj => va_eqt (hg _ (nr_5 i hi j hj))) hA
      exact ⟨(a, t), fun _ => ⟨q1, ⟨cA, q3, q5, by rw [q6]; exact q2, hA a (Array.getElem?_eq_some_iff.mp q3).1⟩, vk_OFof q1 (va_eqt (hg _ (nr_2 i hi))) hA, vk_OFof q1 ht hA, hT⟩⟩
    · exact ⟨(0, 0), fun h => absurd h hi⟩
  obtain ⟨ad, had⟩ := Classical.axiomOfChoice h0
  refine ⟨fun i => (ad i).1, fun i => (ad i).2, ⟨fun i hi => (had i hi).2, fun i j hi hj e => ?_⟩, fun i hi => (had i hi).1⟩
  have e : (ad i).1 = (ad j).1 := e
  obtain ⟨-, -, -, o1, t1⟩ := had i hi
  obtain ⟨-, -, -, o2, t2⟩ := had j hj
  rw [e] at o1
  obtain ⟨cf, k, fi, f, cell, a1, -, a3, -, a5, -⟩ := o1
  obtain ⟨cf2, k2, fi2, f2, cell2, b1, -, b3, -, b5, -⟩ := o2
  have ef : f = f2 := by
    have := Option.some.inj (a1.symm.trans b1)
    exact congrArg (fun z => z.2.2.2) this
  have ec : cell = cell2 := Option.some.inj (a3.symm.trans b3)
  rw [ef, ec] at a5
  have ev : (ad i).2 = (ad j).2 := Value.ref.inj (Option.some.inj (a5.symm.trans b5))
  rw [ev] at t1
  obtain ⟨c1, u1, -, -, -, u5, u6, -⟩ := t1
  obtain ⟨c2, v1, -, -, -, v5, v6, -⟩ := t2
  have ec : c1 = c2 := Option.some.inj (u1.symm.trans v1)
  subst ec
  have el := nr_n (nr_13 i hi) (nr_13 j hj) (u5.symm.trans v5)
  refine nr_12 i hi j hj el (fun k hk => ?_)
  exact Value.int.inj (Option.some.inj ((u6 k hk).symm.trans (v6 k (by rw [← el]; exact hk))))
theorem ns_ar {ty : FieldType} (h : (Cond.arrayClass ty).before #[Value.ref b] s = true) : ∃ cA : ClassId, ArrOfT s cA ty ∧ s.vm.findClass ("[" ++ ty.toString) = some cA := by
  obtain ⟨c, k, comp, h1, h2, h3⟩ := Cond.arrayClass_spec h
  exact ⟨c, fun n z => ⟨fun k h => (by cases h), k, h2, comp, h3⟩, h1⟩
theorem ns_ao {C : String} (h : (Cond.arrayOver (.object C)).before #[Value.ref b] s = true) : ∃ cA : ClassId, ArrOfT s cA (.object C) ∧ va_RA s cA (.object C) := by
  obtain ⟨comp, c, k, f1, f2, f3, f4, f5⟩ := Cond.arrayOver_spec h
  exact ⟨c, fun n z => ⟨fun k h => (by cases h), k, f3, comp, f4⟩, k, comp, f3, f4, f1, f5⟩
theorem ns_T {A : Nat → Prop} (hg : ∀ w ∈ ns_F, w.before #[Value.ref b] s = true) (hts : ∀ w ∈ lw_tbl, w.before #[Value.ref b] s = true) (hA : ∀ a : Nat, a < s.heap.size → ¬ A a) {k : Nat} (hk : k < 3) : ∃ t : Nat, va_Z "PathTrust" (zsn k) "[I" (.ref t) A s s.heap ∧ va_T .int t 5 (fun j => .int (Int32.ofInt (zsv k j))) A s s.heap := by
  obtain ⟨t, ht, hT⟩ := va_Tof (f := fun j => .int (Int32.ofInt (zsv k (j : Int)))) (A := A) (N := 5) (by decide) (hg _ (nr_14 k hk)) (va_eqt (hg _ (nr_15 k hk))) (fun j hj => va_eqt (hg _ (nr_16 k hk j hj))) hA
  exact ⟨t, va_Zref (hts _ (nr_17 k hk)) (hts _ (List.mem_of_getElem? (i := 177) (by decide +kernel))) ht hA, hT⟩
/-- the classes -/
theorem ns_C (hts : ∀ w ∈ lw_tbl, w.before #[Value.ref b] s = true) : ∃ D : va_G, ∀ (c : Nat) (q : vw_C), vwCl[c]? = some q → u_Kn s q.1 q.2.1 q.2.2 (D.1 c) (D.2 c) := by
  obtain ⟨c0, i0, k0⟩ := u_known (C := RX0) (T := TX0) (N := 2) (n := 2) hts (fun w hw => (zu_X0 w hw).1) (hts (.instantiable RX0 2) (List.mem_of_getElem? (i := 210) (by decide +kernel)))
  obtain ⟨c1, i1, k1⟩ := u_known (C := RX1) (T := TX1) (N := 9) (n := 9) hts (fun w hw => (zu_X1 w hw).1) (hts (.instantiable RX1 9) (List.mem_of_getElem? (i := 263) (by decide +kernel)))
  obtain ⟨c2, i2, k2⟩ := u_known (C := RX2) (T := TX2) (N := 2) (n := 2) hts (fun w hw => (zu_X2 w hw).1) (hts (.instantiable RX2 2) (List.mem_of_getElem? (i := 386) (by decide +kernel)))
  obtain ⟨c3, i3, k3⟩ := u_known (C := RX3) (T := TX3) (N := 2) (n := 2) hts (fun w hw => (zu_X3 w hw).1) (hts (.instantiable RX3 2) (List.mem_of_getElem? (i := 269) (by decide +kernel)))
  obtain ⟨c4, i4, k4⟩ := u_known (C := RX4) (T := TX4) (N := 8) (n := 8) hts (fun w hw => (zu_X4 w hw).1) (hts (.instantiable RX4 8) (List.mem_of_getElem? (i := 353) (by decide +kernel)))
  obtain ⟨c5, i5, k5⟩ := u_known (C := RX5) (T := TX5) (N := 2) (n := 2) hts (fun w hw => (zu_X5 w hw).1) (hts (.instantiable RX5 2) (List.mem_of_getElem? (i := 286) (by decide +kernel)))
  obtain ⟨c6, i6, k6⟩ := u_known (C := RX6) (T := TX6) (N := 9) (n := 9) hts (fun w hw => (zu_X6 w hw).1) (hts (.instantiable RX6 9) (List.mem_of_getElem? (i := 226) (by decide +kernel)))
  obtain ⟨c7, i7, k7⟩ := u_known (C := RX7) (T := TX7) (N := 8) (n := 8) hts (fun w hw => (zu_X7 w hw).1) (hts (.instantiable RX7 8) (List.mem_of_getElem? (i := 202) (by decide +kernel)))
  obtain ⟨c8, i8, k8⟩ := u_known (C := RX8) (T := TX8) (N := 28) (n := 28) hts (fun w hw => (zu_X8 w hw).1) (hts (.instantiable RX8 28) (List.mem_of_getElem? (i := 1447) (by decide +kernel)))
  refine ⟨(fun k => if k = 0 then c0 else if k = 1 then c1 else if k = 2 then c2 else if k = 3 then c3 else if k = 4 then c4 else if k = 5 then c5 else if k = 6 then c6 else if k = 7 then c7 else c8, fun k => if k = 0 then i0 else if k = 1 then i1 else if k = 2 then i2 else if k = 3 then i3 else if k = 4 then i4 else if k = 5 then i5 else if k = 6 then i6 else if k = 7 then i7 else i8), fun c q hq => ?_⟩
  match c, hq with
  | 0, hq => cases hq; exact k0
  | 1, hq => cases hq; exact k1
  | 2, hq => cases hq; exact k2
  | 3, hq => cases hq; exact k3
  | 4, hq => cases hq; exact k4
  | 5, hq => cases hq; exact k5
  | 6, hq => cases hq; exact k6
  | 7, hq => cases hq; exact k7
  | 8, hq => cases hq; exact k8
  | c + 9, hq => simp [vwCl] at hq
/-- the arrays' classes -/
theorem ns_A (hts : ∀ w ∈ lw_tbl, w.before #[Value.ref b] s = true) : ∃ ar : Nat → ClassId, ∀ t, 0 < t → t < 8 → ArrOfT s (ar t) (zty t) ∧ va_RA s (ar t) (zty t) := by
  obtain ⟨c1, a1, b1⟩ := ns_ar (hts (.arrayClass .int) (List.mem_of_getElem? (i := 261) (by decide +kernel)))
  obtain ⟨c2, a2, b2⟩ := ns_ar (hts (.arrayClass .byte) (List.mem_of_getElem? (i := 224) (by decide +kernel)))
  obtain ⟨c3, a3, b3⟩ := ns_ar (hts (.arrayClass .boolean) (List.mem_of_getElem? (i := 1540) (by decide +kernel)))
  obtain ⟨c4, a4, b4⟩ := ns_ar (hts (.arrayClass .long) (List.mem_of_getElem? (i := 2189) (by decide +kernel)))
  obtain ⟨c5, a5, b5⟩ := ns_ar (hts (.arrayClass .double) (List.mem_of_getElem? (i := 2190) (by decide +kernel)))
  obtain ⟨c6, a6, b6⟩ := ns_ao (hts (.arrayOver (.object "PathTrust$Reports")) (List.mem_of_getElem? (i := 285) (by decide +kernel)))
  obtain ⟨c7, a7, b7⟩ := ns_ao (hts (.arrayOver (.object "PathTrust$Desk")) (List.mem_of_getElem? (i := 392) (by decide +kernel)))
  refine ⟨fun t => if t = 1 then c1 else if t = 2 then c2 else if t = 3 then c3 else if t = 4 then c4 else if t = 5 then c5 else if t = 6 then c6 else c7, fun t h0 h8 => ?_⟩
  have hc : t = 1 ∨ t = 2 ∨ t = 3 ∨ t = 4 ∨ t = 5 ∨ t = 6 ∨ t = 7 := by omega
  rcases hc with e | e | e | e | e | e | e <;> subst e
  · exact ⟨a1, b1⟩
  · exact ⟨a2, b2⟩
  · exact ⟨a3, b3⟩
  · exact ⟨a4, b4⟩
  · exact ⟨a5, b5⟩
  · exact ⟨a6, b6⟩
  · exact ⟨a7, b7⟩
theorem ns_u (v : Int32) : Int32.ofNat v.toBitVec.toNat = v := by
  refine Int32.toBitVec.inj (BitVec.eq_of_toNat_eq ?_)
  show (BitVec.ofNat 32 v.toBitVec.toNat).toNat = v.toBitVec.toNat
  rw [BitVec.toNat_ofNat]
  exact Nat.mod_eq_of_lt v.toBitVec.isLt
/-- all that is said of the start -/
theorem ns_Q {l : Launch} {L : Nat} {xs : Nat → Int32} (hg : ∀ w ∈ ns_F, w.before #[Value.ref b] s = true) (hts : ∀ w ∈ lw_tbl, w.before #[Value.ref b] s = true) (hX : va_X b L xs s s.heap) (hbl : b < s.heap.size) : ∃ g : zF, g.2.2.2.1 = l ∧ g.2.2.1 = s.heap.size ∧ zsl9 g = L ∧ g.2.2.2.2.2 200 = b ∧ zQ g s := by
  have hA : ∀ a : Nat, a < s.heap.size → ¬ (fun q : Nat => s.heap.size ≤ q) a := fun a h => Nat.not_le.mpr h
  obtain ⟨D, hD⟩ := ns_C hts
  obtain ⟨ar, har⟩ := ns_A hts
  obtain ⟨t0, z0, y0⟩ := ns_T hg hts hA (k := 0) (by decide)
  obtain ⟨t1, z1, y1⟩ := ns_T hg hts hA (k := 1) (by decide)
  obtain ⟨t2, z2, y2⟩ := ns_T hg hts hA (k := 2) (by decide)
  obtain ⟨adK, adV, hS, hE⟩ := ns_S hg hA
  obtain ⟨st, s0, s1, s2, s9, sj⟩ : ∃ st : Nat → Nat, st 0 = t0 ∧ st 1 = t1 ∧ st 2 = t2 ∧ st 999 = L ∧ ∀ j, st (1000 + j) = (xs j).toBitVec.toNat := by
    refine ⟨fun k => if k = 0 then t0 else if k = 1 then t1 else if k = 2 then t2 else if k = 999 then L else (xs (k - 1000)).toBitVec.toNat, rfl, rfl, rfl, rfl, fun j => ?_⟩
    dsimp only
    rw [if_neg (by omega), if_neg (by omega), if_neg (by omega), if_neg (by omega), show 1000 + j - 1000 = j by omega]
  obtain ⟨sa, a0, a1, a2⟩ : ∃ sa : Nat → Nat, (∀ i, i < 11 → sa i = adK i) ∧ (∀ i, i < 11 → sa (100 + i) = adV i) ∧ sa 200 = b := by
    refine ⟨fun k => if k < 11 then adK k else if k = 200 then b else adV (k - 100), fun i hi => if_pos hi, fun i hi => ?_, rfl⟩
    dsimp only
    rw [if_neg (by omega), if_neg (by omega), show 100 + i - 100 = i by omega]
  refine ⟨(D, ar, s.heap.size, l, st, sa), rfl, rfl, s9, a2, hD, har, fun w hw a => zok_keep hw.2 (State.WarmedH.refl s) (hts w hw.1) a, ?_⟩
  refine ⟨fun k hk => ?_, ⟨va_Zof (hts _ (List.mem_of_getElem? (i := 468) (by decide +kernel))) (hts _ (List.mem_of_getElem? (i := 192) (by decide +kernel))) (va_eqt (hg (Cond.eq (.static "java/lang/String" "COMPACT_STRINGS" "Z") (.int 1)) (by decide +kernel))) hA, va_Zqof (hts _ (List.mem_of_getElem? (i := 484) (by decide +kernel))) (hts _ (List.mem_of_getElem? (i := 194) (by decide +kernel))) (hg (Cond.isRef (.static "jdk/internal/util/Preconditions" "SIOOBE_FORMATTER" "Ljava/util/function/BiFunction;")) (by decide +kernel)) hA, ⟨?_, ?_⟩, fun q hq => va_Nc.of (hg _ (nr_8 q hq))⟩, fun q hq => ?_, ?_, fun q hq => ?_, vx_Zqof (hts _ (List.mem_of_getElem? (i := 743) (by decide +kernel))) (hts _ (List.mem_of_getElem? (i := 187) (by decide +kernel))) (hg (Cond.isRef (.static Bundle.tN "UNASSIGNED_STACK" Bundle.steD)) (by decide +kernel)) hA, vx_Zqof (hts _ (List.mem_of_getElem? (i := 745) (by decide +kernel))) (hts _ (List.mem_of_getElem? (i := 187) (by decide +kernel))) (hg (Cond.isRef (.static Bundle.tN "SUPPRESSED_SENTINEL" Bundle.listD)) (by decide +kernel)) hA⟩
  · have hc : k = 0 ∨ k = 1 ∨ k = 2 := by omega
    show va_Z "PathTrust" (zsn k) "[I" (.ref (st k)) _ s s.heap ∧ va_T .int (st k) 5 (fun j => .int (Int32.ofInt (zsv k j))) _ s s.heap
    rcases hc with e | e | e <;> subst e
    · rw [s0]; exact ⟨z0, y0⟩
    · rw [s1]; exact ⟨z1, y1⟩
    · rw [s2]; exact ⟨z2, y2⟩
  · show sa 200 < s.heap.size
    rw [a2]; exact hbl
  · show va_X (sa 200) (st 999) (fun j => Int32.ofInt (Int32.ofNat (st (1000 + j))).toInt) s s.heap
    rw [a2, s9]
    have e : (fun j => Int32.ofInt (Int32.ofNat (st (1000 + j))).toInt) = xs := by
      funext j
      rw [sj j, ns_u, Int32.ofInt_toInt]
    rw [e]
    exact hX
  · obtain ⟨hi, hc⟩ := nr_11 q hq
    have h1 := hts _ (nr_10 q hq)
    show vk_R q.1 q.2.1 q.2.2.1 (sa q.2.2.2) s
    rw [a0 _ hi]
    refine vk_R.of h1 ?_
    rcases hc with ⟨e1, e2⟩ | ⟨e1, e2⟩
    · rw [e1, e2]; exact hE _ hi
    · rw [e1, e2]; exact va_eqR (hg _ (nr_6 _ hi)) (hE _ hi)
  · refine ⟨fun i hi => ?_, fun i j hi hj e => ?_⟩
    · show va_O "java/lang/String" (sa i) _ s s.heap ∧ va_OF "java/lang/String" "coder" "B" (.int 0) (sa i) _ s s.heap ∧ va_OF "java/lang/String" "value" "[B" (.ref (sa (100 + i))) (sa i) _ s s.heap ∧ va_T .byte (sa (100 + i)) (ns_l.getD i 0) (fun j => .int ((ns_b.getD i []).getD j 0)) _ s s.heap
      rw [a0 i hi, a1 i hi]
      exact hS.1 i hi
    · have e : sa i = sa j := e
      rw [a0 i hi, a0 j hj] at e
      exact hS.2 i j hi hj e
  · obtain ⟨a, c, cA, kA, q1, -⟩ := Cond.exactly_spec (args := #[Value.ref b]) (first := s) (o := none) (s := s) (idx := []) (t := .string q.1 q.2.1) (cls := "java/lang/String") (hg _ (nr_7 q hq))
    exact ⟨a, vk_R.of (hts _ (nr_9 q hq)) q1⟩
end NS
theorem lw_forget {s t : State} {L : List Loc} {k n : Nat} (h : s.sameButNew t L k n) (hL : ∀ q ∈ L, s.heap.size ≤ q.base) : s.sameButNew t [] k n := by
  obtain ⟨h1, h2, h3, h4, h5, h6⟩ := h
  refine ⟨h1, h2, h3, h4, h5, fun a c hc => ?_⟩
  obtain ⟨c', g1, g2, g3, g4⟩ := h6 a c hc
  refine ⟨c', g1, g2, g3, fun i _ => g4 i (fun hm => ?_)⟩
  have h9 : a < s.heap.size := (Array.getElem?_eq_some_iff.mp hc).1
  exact absurd (hL _ hm) (Nat.not_le.mpr h9)
/-- from the entry, for every script of at most 3072 ints, the law comes to its end with true -/
theorem whole_start {p : Program} {e : Env} {s : State} {m : MethodId} {below : List Frame} {meth : Method} {c : Code} (l : Launch) (hflags : l.flags = flags0) {b L : Nat} {xs : Nat → Int32} (hL : L ≤ 3072) (C0 : lw_At p s m meth c b L xs) : W p l e room_1 s m #[Value.ref b] below meth c s.heap [] 0 0 (lw_Z below #[Value.ref b] s) (entryFrame m ([Value.ref b] : List Value).toArray 8) := by
  obtain ⟨hx, hb, hr, hml, hown, hts, hX, hbl, hlocks, hgv, hnm, hE⟩ := C0
  have hl0 : l.stackTraces = false := by unfold Launch.stackTraces; rw [hflags]; decide +kernel
  obtain ⟨g, g1, g2, g3, g4, hQ⟩ := ns_Q (l := l) (flat_of_before _ hgv) hts hX hbl
  have hl := lv_entry ([.ref b]) (n := 8) (Nat.le_of_ble_eq_true rfl)
  rw [lg_entry_eq]
  generalize (lg_sl ([.ref b]) ++ List.replicate (8 - (lg_sl ([.ref b])).length) Slot.unset).toArray = ls at hl ⊢
  have hl : lv_has ls 8 [(0, .ref b)] := hl
  have hl2 : lv_has ls 8 ([(0, ((6, 200) : zV))].map fun q => (q.1, zv g q.2)) := by
    show lv_has ls 8 [(0, .ref (g.2.2.2.2.2 200))]
    rw [g4]
    exact hl
  have hi := lw_init (g := g) (by omega) (x := (s.heap.size : Int)) (by omega) (σ := ((fun _ => none, fun _ _ => -1, (s.heap.size : Int)), fun _ _ => 0)) rfl
  have hW := t_L_start (g := g) (by rw [g1]; exact hl0) (by omega) hi p e s m #[Value.ref b] below meth c s.heap [] 0 0 ls ⟨hx, hb, hml, hr, hlocks, hown, hQ, hnm, hE⟩ hl2 (fun q hq => by rw [List.mem_singleton.mp hq]; exact True.intro) (fun v hv => by cases hv) ⟨fun a k h => absurd (show (none : Option zK) = some k from h) (by simp), fun a i _ => by show zI 0; unfold zI; decide, rfl, by rw [g2]; exact Nat.le_refl _⟩ va_S.rf (Nat.le_of_ble_eq_true rfl) (Nat.le_of_ble_eq_true rfl)
  rw [g1] at hW
  intro T hT X
  obtain ⟨t, st, o, h1, h2, h3⟩ := hW T hT X
  refine ⟨t, st, o, h1, h2, ?_⟩
  rcases h3 with ⟨⟨v, σ, hv, ho, -⟩, L9, hF, hL9⟩ | ⟨q, ho, hx9⟩
  · have ev : v = 1 := by
      have : (Sum.inl v : zR) = .inl 1 := hv
      exact Sum.inl.inj this
    subst ev
    have hone : zrv g (some .boolean) 1 = some (.int 1) := by
      show some (Value.int (Int32.ofInt 1)) = some (.int 1)
      rw [show Int32.ofInt 1 = 1 from by decide +kernel]
    have ho : o = .returned (some (.int 1)) := ho.trans (congrArg Outcome.returned hone)
    refine ⟨ho, lw_closed (d0 := s.drawn) (Drawn.sameBut.refl s.drawn lw_cs) ⟨_, ho⟩ hF.2.1 (lw_forget hF.2.2 (fun q hq => ?_))⟩
    have h9 := hL9 q hq
    have h9 : g.2.2.1 ≤ q.base := h9
    rw [g2] at h9
    exact h9
  · obtain ⟨E, ce, L9, ⟨e9, σ, n9, hv, -⟩, -⟩ := hx9
    exact absurd (show (Sum.inr e9 : zR) = .inl 1 from hv) (by simp)
set_option maxHeartbeats 4000000 in
theorem lw_walk (l : Launch) (hflags : l.flags = flags0) (b : Addr) (xs : List Int32) : MetFree l x (headSpec (Jvm.Cond.code x code maxLocals ret :: tables_1) room_1) (lw_P b xs) (fun _ _ _ _ _ => True) lw_Q := by
  refine MetFree.of_bodyS (code := code) (maxLocals := maxLocals) (ret := ret) (by decide) ?_ ?_
  · intro args s m h hn
    obtain ⟨meth, c, h1, h2, h3, h4, h5, h6, -, -⟩ := Cond.code_spec hn (atoms_spec (ws := Jvm.Cond.code x code maxLocals ret :: tables_1) h _ List.mem_cons_self)
    exact ⟨meth, c, h1, h2, h3, h4, h5, h6⟩
  · intro p e s m args below meth c s₁ B hml0 hP _
    obtain ⟨rfl, hx, hbd, hgv⟩ := hP
    obtain ⟨scr, harrAt, hlist, hof, hsmall⟩ := hx
    obtain ⟨hcb, hkn, -, -⟩ := State.arrayAt?_spec harrAt
    have hown : s.vm.findClass R_law = some m.cls := findClass_of_methodNamed B.named
    have ht9 : ∀ z ∈ c.exceptionTable.toList, False := by
      obtain ⟨meth9, c9, h1, h2, -, -, -, -, h7, -⟩ := Cond.code_spec B.named (atoms_spec (ws := Jvm.Cond.code x code maxLocals ret :: tables_1) B.pre _ List.mem_cons_self)
      cases Option.some.inj (h1.symm.trans B.method)
      cases Option.some.inj (h2.symm.trans (Stand.of_body B).code)
      intro z hz
      rw [Array.isEmpty_iff.mp h7] at hz
      cases hz
    have hts0 : ∀ c ∈ (Jvm.Cond.code x code maxLocals ret :: tables_1), c.before #[Value.ref b] s = true := atoms_spec (ws := Jvm.Cond.code x code maxLocals ret :: tables_1) B.pre
    have hts : ∀ w ∈ lw_tbl, w.before #[Value.ref b] s = true := k2_hts_sels lw_privs (fun w hw => hts0 w (List.mem_cons_of_mem _ hw)) lw_privs_ok
    have hml : c.maxLocals = 8 := B.maxLocals_eq (hts0 _ List.mem_cons_self)
    have X₀ : Stand p l e room_1 s m #[Value.ref b] below meth c s₁ [] 0 0 := Stand.of_body B
    have hh0 : s₁.heap = s.heap := by rw [B.state]; rfl
    have hsz : scr.slots.size = xs.length := by rw [← Array.length_toList, hlist, List.length_map]
    have hval : ∀ j : Nat, j < xs.length → scr.slots[j]? = some (.int (xs.getD j 0)) := fun j hj => by
      rw [← Array.getElem?_toList, hlist]
      simp [hj]
    have hbl : b < s.heap.size := (Array.getElem?_eq_some_iff.mp hcb).1
    have hX : va_X b xs.length (fun j => xs.getD j 0) s s.heap := ⟨scr, hcb, hof, hkn, hsz, hval⟩
    have K : W p l e room_1 s m #[Value.ref b] below meth c s₁.heap [] 0 0 (lw_Z below #[Value.ref b] s) (entryFrame m ([Value.ref b] : List Value).toArray 8) := by
      rw [hh0]
      exact whole_start l hflags hbd ⟨B.exec, B.bytes, B.returns, hml, hown, hts, hX, hbl, B.notSynchronized, hgv, (name_of_methodNamed B.named B.method).1, List.eq_nil_iff_forall_not_mem.mpr ht9⟩
    obtain ⟨t, a1, o, b1, b2, b3⟩ := K s₁ rfl X₀
    exact ⟨t, o, a1, b1, b2, b3⟩
theorem lw_pre_spec {args : Array Value} {s : State} (h : (Jvm.Cond.and given_1 narrow_1).before args s = true) (hr : rest_1_c.before args s = true) : ∃ (b : Addr) (xs : List Int32), lw_P b xs args s := by
  have hs := flat_of_before _ h
  have hq := flat_of_before _ hr
  have hc : (Cond.count 1).before args s = true := hs _ (by decide +kernel)
  have harr : (Cond.arrayOf (.arg 0) .int).before args s = true := hs _ (by decide +kernel)
  have hle : (Cond.le (.length (.arg 0)) (.int 3072)).before args s = true := hs _ (by decide +kernel)
  have hlen : (Cond.isInt (.length (.arg 0))).before args s = true := hq _ (by decide +kernel)
  have hall : (Cond.all (.arg 0) (.isInt (.elem (.arg 0) (.index 0)))).before args s = true := hq _ (by decide +kernel)
  obtain ⟨b, xs, hb, hx⟩ := State.ints_of_pre rfl harr hlen hall
  have hsm : xs.length < 2 ^ 31 := hx.choose_spec.2.2.2
  have hev : (Term.length (.arg 0)).eval args s none [] s = some (.int xs.length.toInt32) := hx.length_eval hb
  have hv := Cond.le_ints hev (show (Term.int 3072).eval args s none [] s = some (.int 3072) from rfl)
  have hd : xs.length.toInt32 ≤ 3072 := by
    simpa [Cond.before, Cond.holds, hv] using hle
  have hN : xs.length ≤ 3072 := (Int32.ofNat_le_ofNat hsm (by decide)).mp (show Int32.ofNat xs.length ≤ Int32.ofNat 3072 from hd)
  exact ⟨b, xs, Cond.one_arg hc (show args[0]? = some (.ref b) from hb), hx, hN, h⟩
theorem lw_comes (l : Launch) (hflags : l.flags = flags0) : Comes l x (Jvm.Cond.code x code maxLocals ret :: tables_1) room_1 (fun tb e args s => Calls_1 tb e args s ∧ rest_1 tb e args s ∧ Pre_1 tb e args s)
    (fun _ _ args s o t => lw_Q args s o t) := by
  intro p e ha hc hk s m args below hf hfit hheap happ hpre
  obtain ⟨b, xs, hP⟩ := lw_pre_spec hpre.2.2 hpre.2.1
  obtain ⟨k, o, h1, h2, h3, hQ⟩ := lw_walk l hflags b xs p e ha hc hk s m args below hf ((Spec.applies_iff_loose hf).mp happ).1 hP trivial
  exact ⟨k, o, h1, h2, h3, hQ⟩
theorem lw_frame {s t : State} {o : Outcome} {args : Array Value} (h : State.butDraws s t lw_cs (fun t1 => Framed s o t1 [] 164820 8601644)) :
    State.butDraws s t [Jvm.Choice.named "NaN.bits"] (fun t1 => Framed s o t1 (fieldLocs frame_1_writes args s ++ arrayLocs frame_1_arrays args s ++ staticLocs frame_1_statics s) 164820 8601644) := h
theorem lw_limb (L : Cond) (hL : ∀ (args : Array Value) (s t : State), L.after args s (.returned (some (.int 1))) t = true) :
    ArmFor flags0 classFile x code maxLocals ret World_1 tables_1 room_1 Calls_1 rest_1 Pre_1
      (fun tb e a s o t => postC L tb e a s o t ∧ State.butDraws s t [Jvm.Choice.named "NaN.bits"] (fun t1 => Framed s o t1 (fieldLocs frame_1_writes a s ++ arrayLocs frame_1_arrays a s ++ staticLocs frame_1_statics s) 164820 8601644)) := by
  intro l hflags _ _ p e ha hc hk s m args below hf hfit hheap happ hpre
  obtain ⟨k, o, h1, h2, h3, rfl, hF⟩ := lw_comes l hflags p e ha hc hk s m args below hf hfit hheap happ hpre
  exact ⟨k, _, h1, h2, h3, hL args s _, lw_frame hF⟩
theorem i_vc : Claimed_1_1 ∧ Claimed_1_2 := ⟨lw_limb limb_1_1 (fun args s t => by simp [limb_1_1, Cond.after, Cond.holds, Cond.value]), lw_limb limb_1_2 (fun args s t => Cond.after_iff.mpr (by
  first | (rw [show limb_1_2 = Cond.eq .result (.int 1) from rfl, Cond.eq_ints (x := 1) (y := 1) rfl rfl]; simp; done) | (simp [limb_1_2, Cond.value, Term.eval]; done)))⟩
