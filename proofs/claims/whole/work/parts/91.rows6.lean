/-! ROWS 6 -/
/-- the chain of constructors of the class with a constructor of its own index -/
def zNS : String := "java/util/NoSuchElementException"
def zRT : String := "java/lang/RuntimeException"
def zxL : List Cond := Bundle.throwableAtoms ++ Bundle.throwableSAtoms ++ (Bundle.passSAtoms zNS zRT 13 prog_29_method_4_code ++ Bundle.chainSAtoms zRT ["java/lang/Exception"]) ++ (Bundle.ownAtoms RX7 223 zNS []).filter (fun w => decide (w ∉ Bundle.chainSAtoms zNS []))
def zxW : List Cond := zxL.filter vx_no
section ZX1
variable {p : Program} {l : Launch} {e : Env} {R : Room} {s : State} {m₀ : MethodId} {args : Array Value} {below : List Frame} {meth : Method} {c : Code} {W : State} {locs : List Loc} {cells slots : Nat}
theorem zxin {w : Cond} (h : zxL.elem w = true := by decide +kernel) : w ∈ zxL := List.elem_iff.mp h
set_option maxHeartbeats 1000000 in
theorem zx_ctor (X : Stand p l e R s m₀ args below meth c W locs cells slots) (hexec : p.tables.exec = Jvm.exec) (htr : e.platform.stackTraces = false)
    (hown : s.vm.findClass RX7 = some m₀.cls) (h : ∀ a ∈ zxL, a.before args s = true) (hlocs : ∀ x ∈ locs, ∀ cell, s.heap[x.base]? = some cell → cell.vm.isStatics = false)
    {a : Addr} {cX : ClassId} {kX : Class} (hfoundX : s.vm.findClass zNS = some cX) (hkX : s.vm.classes[cX]? = some kX) (hcell : W.heap[a]? = some (freshCell cX kX)) (hnew : s.heap.size ≤ a)
    {msg : Value} (hmsg : msg.isRef = true) {g : JFrame} (hg : g.method = m₀) (hsize : g.locals.size = c.maxLocals) (hlocked : g.locked = none) (hentered : g.entered = []) {rest : List Value} (hstack : g.stack = msg :: .ref a :: .ref a :: rest)
    (hd6 : decode c.code g.pc = .ok (.invokespecial 223, 3)) (hd9 : decode c.code (g.pc + 3) = .ok (.athrow, 1)) (hout : ∀ x ∈ c.exceptionTable.toList, covers x (g.pc + 3) = false)
    (hRframes : 5 < R.frames) (hRlocals : 2 * g.monitorRoom + ((Value.ref a :: rest).map fun v => v.category).sum + 81 ≤ R.locals) (hlocks : meth.locks = false) :
    ∃ U : State, Steps p.tables e below (W.setTop g) U ∧ U.status = .running ∧ Ended U below (.threw a) ∧ s.WarmedH U.vm ∧ s.sameButNew ({ U with vm := s.vm } : State) locs cells slots ∧ ∃ ce, U.heap[a]? = some ce ∧ s.vm.findClass zNS = some ce.cls ∧ ce.vm = .none := by
  have howns : e.platform.frameOwnsMonitors = true := by rw [X.admits.platform]
  have hfin : e.platform.finalization = false := by rw [X.admits.platform]
  have hpl : e.platform.magicAccessors = ({} : Platform).magicAccessors := by rw [X.admits.platform]
  have hcls : Bundle.fit zNS = true := by decide +kernel
  have m1 : ∀ w, w ∈ Bundle.throwableAtoms → w ∈ zxL := fun w hw => List.mem_append_left _ (List.mem_append_left _ (List.mem_append_left _ hw))
  have m2 : ∀ w, w ∈ Bundle.throwableSAtoms → w ∈ zxL := fun w hw => List.mem_append_left _ (List.mem_append_left _ (List.mem_append_right _ hw))
  have m3 : ∀ w, w ∈ Bundle.passSAtoms zNS zRT 13 prog_29_method_4_code → w ∈ zxL := fun w hw => List.mem_append_left _ (List.mem_append_right _ (List.mem_append_left _ hw))
  have m4 : ∀ w, w ∈ Bundle.chainSAtoms zRT ["java/lang/Exception"] → w ∈ zxL := fun w hw => List.mem_append_left _ (List.mem_append_right _ (List.mem_append_right _ hw))
  obtain ⟨T, Z0, L, -, Y⟩ := ThrowableC.of_atoms (args := args) howns hfin hpl (fun x hx => h x (m1 x hx))
  obtain ⟨Z, M, LZ, LM, hnZ⟩ := Init0T.ofS_atoms (args := args) hpl L Y (fun x hx => h x (m2 x hx))
  obtain ⟨P1, L1, hP1m, hs1⟩ := PassC.ofS_atoms (args := args) (s := s) hpl (X := zNS) (Y := zRT) (index := 13) (bytes := prog_29_method_4_code) (by decide +kernel) (by decide) (by decide +kernel) (by decide +kernel) (by decide +kernel) (by decide +kernel) (fun x hx => h x (m3 x hx))
  obtain ⟨P2, Ps, hlen, L2, hL, hP2m, hlink1, hlink⟩ := Bundle.chainS (args := args) hpl hnZ ["java/lang/Exception"] zRT (by decide +kernel) (by intro n hn; cases List.mem_singleton.mp hn; decide +kernel) (fun x hx => h x (m4 x hx))
  have hfound : s.vm.findClass zNS = some P1.m.cls := findClass_of_methodNamed hP1m
  cases Option.some.inj (hfoundX.symm.trans hfound)
  obtain ⟨c1, kX', hc1, hk, hord, -, -, hn6⟩ := Cond.instantiable_spec (h (.instantiable zNS 6) zxin)
  cases Option.some.inj (hc1.symm.trans hfound)
  cases Option.some.inj (hkX.symm.trans hk)
  have hsel0 : selectMethod e.platform s.vm P1.m.cls T.fill0 = .method T.fill0 := by
    obtain ⟨c2, r2, m2, q1, q2, q3, q4, -⟩ := Cond.selects_spec (h (.selects zNS Bundle.tFill0 Bundle.tFill0) zxin)
    cases Option.some.inj (q1.symm.trans hfound)
    cases Option.some.inj (q2.symm.trans (State.methodFound?_of_named Y.fill0 (by decide)))
    cases Option.some.inj (q3.symm.trans Y.fill0)
    rw [Launch.admits_selectMethod X.admits]; exact q4
  have hselF : selectMethod e.platform s.vm P1.m.cls T.fill = .method T.fill := by
    obtain ⟨c2, r2, m2, q1, q2, q3, q4, -⟩ := Cond.selects_spec (h (.selects zNS Bundle.tFill Bundle.tFill) zxin)
    cases Option.some.inj (q1.symm.trans hfound)
    cases Option.some.inj (q2.symm.trans (State.methodFound?_of_named Y.fill (by decide)))
    cases Option.some.inj (q3.symm.trans Y.fill)
    rw [Launch.admits_selectMethod X.admits]; exact q4
  obtain ⟨cellS0, hcS0, hiss⟩ := Y.statics
  obtain ⟨u0, hu0⟩ := Cond.staticRefV Y.unassigned L.unassignedStatic L.statics hcS0 hiss (h (.isRef (.static Bundle.tN "UNASSIGNED_STACK" Bundle.steD)) zxin)
  obtain ⟨sen, hsen⟩ := Cond.staticRefV Y.sentinel L.sentinelStatic L.statics hcS0 hiss (h (.isRef (.static Bundle.tN "SUPPRESSED_SENTINEL" Bundle.listD)) zxin)
  obtain ⟨ci198, i198, fB, hk198, hg198, ha198, hsB, -, hnB, htB, hffB⟩ := Cond.ownField (t := .object "java/lang/Object") Y.found L.cls (by decide +kernel) (h (.fieldLink Bundle.tN 198 Bundle.tN "backtrace" "Ljava/lang/Object;") zxin) (h (.lays Bundle.tN Bundle.tN "backtrace" "Ljava/lang/Object;") zxin) e.platform hpl
  obtain ⟨cellS, hcS', heS, -, hkeep⟩ := X.same.2.2.2.2.2 T.aS cellS0 hcS0
  have hcellS : W.heap[T.aS]? = some cellS := hcS'
  have hout' : ∀ i, (⟨T.aS, i⟩ : Loc) ∉ locs := fun i hmem => by
    have := hlocs _ hmem cellS0 hcS0
    rw [hiss] at this; cases this
  have hknownS : cellS.vm ≠ .unknown := by
    rw [heS]; intro hu
    rw [show cellS0.vm = .unknown from hu] at hiss
    cases hiss
  have hneS : T.aS ≠ a := Nat.ne_of_lt (Nat.lt_of_lt_of_le (Array.getElem?_eq_some_iff.mp hcS0).1 hnew)
  obtain ⟨iM, hffM⟩ := Y.msg
  obtain ⟨tyC, dC, hdC, hdnC⟩ := Cond.laysAt hfound hk Y.cause (h (.lays zNS Bundle.tN "cause" "Ljava/lang/Throwable;") zxin)
  obtain ⟨tyS, dS, hdS, hdnS⟩ := Cond.laysAt hfound hk Y.stack (h (.lays zNS Bundle.tN "stackTrace" Bundle.steD) zxin)
  obtain ⟨tyP, dP, hdP, hdnP⟩ := Cond.laysAt hfound hk Y.supp (h (.lays zNS Bundle.tN "suppressedExceptions" Bundle.listD) zxin)
  obtain ⟨tyM, dM, hdM, hdnM⟩ := Cond.laysAt hfound hk hffM (h (.lays zNS Bundle.tN "detailMessage" "Ljava/lang/String;") zxin)
  obtain ⟨tyB, dB, hdB, hdnB⟩ := Cond.laysAt hfound hk hffB (h (.lays zNS Bundle.tN "backtrace" "Ljava/lang/Object;") zxin)
  have bC := Cond.laysApart hdB hdC hdnB hdnC (by rw [hnB, Y.causeName]; decide)
  have bS := Cond.laysApart hdB hdS hdnB hdnS (by rw [hnB, Y.stackName]; decide)
  have bP := Cond.laysApart hdB hdP hdnB hdnP (by rw [hnB, Y.suppName]; decide)
  have hskip : SkipFacts T e.platform s (fun u => u) u0 ((preparedCellV T.toThrowableT (freshCell P1.m.cls kX) a u0 sen).withEntry W.cur) :=
    ⟨{ ci198 := ci198, i198 := i198, fBack := fB }, ⟨hk198, hg198, ha198, hsB⟩, by
      have := fresh_default (c := P1.m.cls) tyB
      rw [htB] at this
      simpa [preparedCellV, Cell.setSlot, Cell.withEntry, Array.getElem?_setIfInBounds, bC, bS, bP, bC.symm, bS.symm, bP.symm, defaultValue] using this, fun _ _ => rfl⟩
  obtain ⟨tm, methC, cdC, kC, vm₁, hnC, -, -, -, -, -, -, -, hW₁, st1⟩ := Steps.initColdS (tb := p.tables) (e := e) (below := below) (s := s) (U := W) X.here hexec X.warmed hpl hown (t := Bundle.initS zNS) rfl rfl (Bundle.fit_spec hcls).2
    (h (.methodLink RX7 223 (Bundle.initS zNS)) zxin) (h (.instanceMethod (Bundle.initS zNS)) (m3 _ (by simp [Bundle.passSAtoms]))) (bytes := prog_29_method_4_code) (maxL := 2) (h (.code (Bundle.initS zNS) prog_29_method_4_code 2 none) (m3 _ (by simp [Bundle.passSAtoms])))
    (f := g) hg (a := a) (msg := msg) (rest := .ref a :: rest) hstack hd6
  cases Option.some.inj (hnC.symm.trans hP1m)
  have X₁ := X.noted hW₁
  have hlen' : Ps.length = 1 := hlen
  obtain ⟨vm₂, X₂, st2⟩ := X₁.ctorMessageOffV hexec (g := { g with stack := .ref a :: rest }) hg hsize T L Z LZ M LM (P1 :: P2 :: Ps)
    (fun P hP => by rcases List.mem_cons.mp hP with rfl | hP; exact L1; rcases List.mem_cons.mp hP with rfl | hP; exact L2; exact hL P hP) ⟨Option.some.inj (hs1.symm.trans hP2m), ⟨hlink1, hlink⟩⟩ (u0 := u0) (sen := sen) (self := a) hmsg (cell := freshCell P1.m.cls kX) (cellS := cellS)
    hcell (fun _ => by simp) (by simp) rfl rfl hsel0 hselF hcellS hneS hknownS (by rw [hkeep _ (hout' _)]; exact hu0) (by rw [hkeep _ (hout' _)]; exact hsen)
    (Takes.of_laid hk hord tyC (by rw [Y.causeType]; rfl)) (Takes.of_laid hk hord tyS (by rw [Y.stackType]; exact fits_refV_array _ u0)) (Takes.of_laid hk hord tyP (by rw [Y.suppType]; exact fits_refV_object _ sen))
    (Takes.of_laid hk hord tyM (by rw [Y.msgType]; exact fits_refV_object _ ⟨msg, hmsg⟩)) Y.objLocals hskip htr [] hd6
    (by simp only [List.length_cons, hlen']; omega) (by simp only [List.length_cons, hlen']; exact hRlocals)
  obtain ⟨hwalk, hrun, hended, hWU, hsame⟩ := X₂.athrowLeaves hexec (g := { g with stack := .ref a :: rest, pc := g.pc + 3 }) hg hlocked hentered hout (a := a) (rest := rest) rfl hd9
  have hlt : a < ((W.setVm vm₁).setVm vm₂).heap.size := (Array.getElem?_eq_some_iff.mp hcell).1
  have hU := heapAt_setCell_self (s := (W.setVm vm₁).setVm vm₂) (plainBareV T.toThrowableT (freshCell P1.m.cls kX) a u0 sen msg) hlt
  refine ⟨_, st1 _ (fun acts => ?_), hrun, hended, hWU, hsame.weaken (fun y hy hlt' => ?_) (Nat.le_refl _) (Nat.le_refl _), _, hU, hfound, rfl⟩
  · rw [doInvoke_state]
    exact st2 _ hwalk
  · rcases List.mem_append.mp hy with h1 | h1
    · exact h1
    · exfalso
      have hb : y.base = a := by
        simp only [List.mem_cons, List.not_mem_nil, or_false] at h1
        rcases h1 with rfl | rfl | rfl | rfl | rfl <;> rfl
      rw [hb] at hlt'
      exact Nat.not_lt.mpr hnew hlt'
end ZX1
section ZX2
variable {g : zF} {K : zY} {R : Room} {L : List (Nat × zV)} {S : List zV} {σ : zS} {C D : Nat} {Q : zR × zS → Prop} {pc : Nat}
theorem r_slenI {idx : Nat} {j : Int} {F : Int → zFn} (hw : zsl K.1.cls idx) (hh : K.2.2.2.2 = []) (hR : 2 ≤ R.frames ∧ 40 ≤ R.locals) (hcat : ((S.map fun v => if v.1 == 1 || v.1 == 3 then 2 else 1).sum) ≤ 8) (d : decode K.2.1 pc = .ok (.invokevirtual idx, 3)) (h : zo (zslI j F) Q) (kk : ∀ x, zo (F x) Q → zw g K R (pc + 3) L ((0, x) :: S) σ C D Q) : zw g K R pc L ((6, j) :: S) σ C D Q := by
  obtain ⟨h0, h⟩ := zite_o h
  obtain ⟨n, rfl⟩ := Int.eq_ofNat_of_zero_le h0
  exact r_slen hw hh hR hcat d h kk
theorem r_schI {idx : Nat} {j i : Int} {F : Int → zFn} (hw : zsh K.1.cls idx) (hh : K.2.2.2.2 = []) (hR : 4 ≤ R.frames ∧ 100 ≤ R.locals) (hcat : ((S.map fun v => if v.1 == 1 || v.1 == 3 then 2 else 1).sum) ≤ 8) (d : decode K.2.1 pc = .ok (.invokevirtual idx, 3)) (h : zo (zscI j i F) Q) (kk : ∀ x, zo (F x) Q → zw g K R (pc + 3) L ((0, x) :: S) σ C D Q) : zw g K R pc L ((0, i) :: (6, j) :: S) σ C D Q := by
  obtain ⟨h0, h⟩ := zite_o h
  obtain ⟨n, rfl⟩ := Int.eq_ofNat_of_zero_le h0
  exact r_sch hw hh hR hcat d h kk
end ZX2
section ZX3
variable {p : Program} {l : Launch} {e : Env} {R : Room} {s : State} {m : MethodId} {args : Array Value} {below : List Frame} {meth : Method} {c : Code} {H : Heap} {locs : List Loc} {cells slots : Nat}
variable {mc ms : Nat} {free : Addr → Prop} {ls : Array Slot} {rest : List Value} {Qc : Array Value → State → Outcome → State → Prop} {XC : String → State → State → Prop}
set_option maxHeartbeats 1000000 in
theorem zx_throw {cc : ByteArray} {pc : Nat} (hexec : p.tables.exec = Jvm.exec) (hb : c.code = cc) (hl : l.stackTraces = false) {text : String} {ik is sa : Nat} {A : Nat → Prop}
    (hown : s.vm.findClass RX7 = some m.cls) (hk : (Cond.classLink RX7 ik zNS).before args s = true) (hini : (Cond.initialized zNS).before args s = true) (hstr : vk_R RX7 is text sa s) (hat : ∀ w ∈ zxW, w.before args s = true)
    (hgood : ∀ w ∈ Cond.classLink RX7 ik zNS :: Cond.initialized zNS :: zxW, vx_ot w = true)
    (hU : vx_Zq Bundle.tN "UNASSIGNED_STACK" Bundle.steD A s s.heap) (hN : vx_Zq Bundle.tN "SUPPRESSED_SENTINEL" Bundle.listD A s s.heap) (hS : va_S A s.heap H locs) (hsize : ls.size = c.maxLocals)
    (d0 : decode cc pc = .ok (.new ik, 3)) (d3 : decode cc (pc + 3) = .ok (.dup, 1)) (d4 : decode cc (pc + 4) = .ok (.ldc is, 2)) (d6 : decode cc (pc + 6) = .ok (.invokespecial 223, 3)) (d9 : decode cc (pc + 9) = .ok (.athrow, 1))
    (hout : ∀ x ∈ c.exceptionTable.toList, covers x (pc + 9) = false)
    (hRframes : 5 < R.frames) (hRlocals : (rest.map fun v => v.category).sum + 82 ≤ R.locals) (hRcells : cells + 1 ≤ R.cells) (hRslots : slots + 6 ≤ R.slots) (hlocks : meth.locks = false)
    (hx : ∀ t : State, s.vm.Alike t.vm → H.size ≤ t.heap.size → (∀ q : Nat, q < H.size → t.heap[q]? = H[q]?) → XC zNS s t)
    (hf : ∀ z ∈ locs, free z.base) (hc : cells + 1 ≤ mc) (hs : slots + 6 ≤ ms) :
    W p l e R s m args below meth c H locs cells slots (vx_MQ below Qc XC args s mc ms free) (F0 m pc ls rest) := by
  intro T hT X
  have htr : e.platform.stackTraces = false := (show e.platform.stackTraces = l.stackTraces by rw [X.admits.platform]).trans hl
  have Y := vx_rebase X (R' := { frames := R.frames, locals := R.locals, cells := 1, slots := 6 }) (Nat.le_refl _) (Nat.le_refl _) hRcells hRslots
  obtain ⟨s', hA⟩ : ∃ z, z = (T.setVm s.vm).setFrames (.invoking m args :: below) := ⟨_, rfl⟩
  rw [← hA] at Y
  have hvm : s'.vm = s.vm := by rw [hA]; rfl
  have hhp : s'.heap = H := by rw [hA]; exact hT
  have hW0 : s.WarmedH s'.vm := by rw [hvm]; exact State.WarmedH.refl s
  have g1 : vx_ot (.classLink RX7 ik zNS) = true := hgood _ List.mem_cons_self
  have g2 : vx_ot (.initialized zNS) = true := hgood _ (List.mem_cons_of_mem _ List.mem_cons_self)
  have hU' : vx_Zq Bundle.tN "UNASSIGNED_STACK" Bundle.steD A s' s'.heap := by rw [hhp]; exact vx_Zq.moved hW0.alike (hU.kept hS.2.1)
  have hN' : vx_Zq Bundle.tN "SUPPRESSED_SENTINEL" Bundle.listD A s' s'.heap := by rw [hhp]; exact vx_Zq.moved hW0.alike (hN.kept hS.2.1)
  have h : ∀ w ∈ zxL, w.before args s' = true := vx_own (fun w hw => vx_ot_at hW0 hvm.symm (hgood w (List.mem_cons_of_mem _ (List.mem_cons_of_mem _ hw))) (hat w hw)) (vx_isRefq hU'.1) (vx_isRefq hN'.1) hU'.2.word hN'.2.word
  have hown' : s'.vm.findClass RX7 = some m.cls := by rw [hvm]; exact hown
  obtain ⟨vm₁, cX, kX, hfX, hkX, -, -, X₁, st1⟩ := Y.newCold hexec (own := RX7) (C := zNS) (index := ik) (n := 6) hown' (vx_ot_at hW0 hvm.symm g1 hk) (h _ zxin) (vx_ot_at hW0 hvm.symm g2 hini)
    (g := F0 m pc ls rest) rfl (by rw [hb]; exact d0) (Nat.le_refl _) (Nat.le_refl _)
  generalize hT1 : (T.setVm vm₁).pushCell { cls := cX, slots := kX.instanceTypes.map defaultValue, vm := .none } = T1 at X₁ st1
  have hcat : (Value.ref T.heap.size).category = 1 := rfl
  have hcellA : T1.heap[T.heap.size]? = some (freshCell cX kX) := by rw [← hT1]; exact State.heap_pushCell_size _ _
  have d3' : decode c.code (pc + 3) = .ok (.dup, 1) := by rw [hb]; exact d3
  have d4' : decode c.code (pc + 4) = .ok (.ldc is, 2) := by rw [hb]; exact d4
  have hstr' : vk_R RX7 is text sa s' := vk_R.warm hW0 hstr
  obtain ⟨U, hsteps, hrun, hend, hW, hsame, ce, hce, hO, hvmn⟩ := zx_ctor X₁ hexec htr hown' h (fun x hx => nomatch hx) hfX hkX hcellA (by rw [hhp, hT]; exact Nat.le_refl _) (msg := .ref sa) rfl
    (g := { method := m, pc := pc + 6, locals := ls, stack := .ref sa :: .ref T.heap.size :: .ref T.heap.size :: rest, locked := none }) rfl hsize rfl rfl (rest := rest) rfl
    (by rw [hb]; exact d6) (by rw [hb]; exact d9) hout hRframes (by simp only [List.map_cons, List.sum_cons, hcat]; show 2 * 0 + _ + 81 ≤ _; omega) hlocks
  obtain ⟨f1, f2⟩ := vx_frame hsame
  rw [hhp] at f1 f2
  have hWs : s.WarmedH U.vm := State.WarmedH.trans hW0 hW
  have hcl : s.vm.findClass zNS = some ce.cls := by rw [← hvm]; exact hO
  have hall : s.sameButNew ({ U with vm := s.vm } : State) locs mc ms := by
    subst hA
    obtain ⟨e1, e2⟩ := hsame
    rw [State.setFrames_setFrames] at e1
    have h2 : (T.setVm s.vm).sameButNew ({ U with vm := s.vm } : State) [] (0 + 1) (0 + 6) := ⟨e1, e2⟩
    have h3 := X.same.trans h2
    rw [List.append_nil] at h3
    exact h3.mono hc hs
  refine ⟨U, st1 _ ?_, .threw T.heap.size, hrun, hend, Or.inr ⟨T.heap.size, rfl, zNS, ce, locs, hx U hWs.alike f1 (fun q hq => f2 q hq (fun z hz => nomatch hz)), hce, hvmn, hcl, hWs, hall, hf⟩⟩
  show Steps p.tables e below (T1.setTop { method := m, pc := pc + 3, locals := ls, stack := .ref T.heap.size :: rest, locked := none }) _
  jvm_step X₁.here [X₁.here.top, hexec, d3', Value.category]
  exact X₁.ldcString hexec (own := RX7) (text := text) (index := is) (a := sa) hown' hstr'.1 hstr'.2
    (g := { method := m, pc := pc + 4, locals := ls, stack := .ref T.heap.size :: .ref T.heap.size :: rest, locked := none }) rfl d4' _ hsteps
end ZX3
def zthX (K : zY) (ik is ic : Nat) : Prop := K.1.cls = RX7 ∧ zL (.classLink RX7 ik zNS) ∧ zL (.initialized zNS) ∧ (∃ text, (RX7, is, text) ∈ zsm) ∧ (∀ w ∈ zxW, zL w) ∧ (∀ w ∈ Cond.classLink RX7 ik zNS :: Cond.initialized zNS :: zxW, vx_ot w = true) ∧ ic = 223
section ZX4
variable {g : zF} {K : zY} {R : Room} {L : List (Nat × zV)} {S : List zV} {σ : zS} {C D : Nat} {Q : zR × zS → Prop} {pc : Nat}
theorem r_throwX {ik is ic : Nat} (hl0 : g.2.2.2.1.stackTraces = false) (hh : K.2.2.2.2 = []) (ht : zthX K ik is ic) (d0 : decode K.2.1 pc = .ok (.new ik, 3)) (d3 : decode K.2.1 (pc + 3) = .ok (.dup, 1)) (d4 : decode K.2.1 (pc + 4) = .ok (.ldc is, 2)) (d6 : decode K.2.1 (pc + 6) = .ok (.invokespecial ic, 3)) (d9 : decode K.2.1 (pc + 9) = .ok (.athrow, 1)) (hR : 5 < R.frames) (hR2 : (S.map fun v => if v.1 == 1 || v.1 == 3 then 2 else 1).sum + 82 ≤ R.locals) (hc : 1 ≤ C) (hd : 6 ≤ D) (h : zo (some (.inr 3, σ)) Q) : zw g K R pc L S σ C D Q := by
  intro p e s m args below meth c H locs cells slots ls hC hl hL hS hW hV h1 h2
  obtain ⟨r, e0, hq⟩ := h
  cases e0
  obtain ⟨t0, t1, t2, ⟨text, t3⟩, t4, t6, rfl⟩ := ht
  have hQ := hC.2.2.2.2.2.2.1
  obtain ⟨sa, hsa⟩ := hQ.2.2.2.2.2.2.2.1 _ t3
  refine zx_throw hC.1 hC.2.1 hl0 (by rw [← t0]; exact hC.2.2.2.2.2.1) (hQ.2.2.1 _ t1 _) (hQ.2.2.1 _ t2 _) hsa (fun w hw => hQ.2.2.1 _ (t4 w hw) _) t6 hQ.2.2.2.2.2.2.2.2.1 hQ.2.2.2.2.2.2.2.2.2 hV (hl.1.trans hC.2.2.1.symm) d0 d3 d4 d6 d9 (by rw [hC.2.2.2.2.2.2.2.2, hh]; intro x hx; cases hx) hR ?_ (by omega) (by omega) hC.2.2.2.2.1 (fun t hvm hz hk9 => ?_) (fun z hz => hV.2.2 z hz) (by omega) (by omega)
  · refine Nat.le_trans (Nat.le_of_eq ?_) hR2
    show _ + 82 = _ + 82
    congr 1
    rw [List.map_map]
    congr 1
    apply List.map_congr_left
    intro v _
    have h := zcat g v
    show (zv g v).category = _
    rcases lv_cat (zv g v) with e | e <;> rw [e] at h ⊢
    · rw [if_neg]; rw [← h]; decide
    · rw [if_pos]; rw [← h]; rfl
  · refine ⟨3, σ, t.heap.size, hq, rfl, ?_, ?_, ?_, ?_⟩
    · rw [← hW.2.2.1]; omega
    · refine ⟨fun a k hk => ⟨(hW.1 a k hk).1, zat_keep (hW.1 a k hk).2 (hk9 _ (zat_lt (hW.1 a k hk).2)) (fun _ => rfl) (fun _ => rfl)⟩, hW.2.1, rfl, Nat.le_trans hW.2.2.2 hz⟩
    · exact Nat.le_trans hV.1 hz
    · intro q h1' h2'
      rw [hk9 q (Nat.lt_of_lt_of_le h1' hV.1)]
      exact hV.2.1 q h1' h2'
end ZX4
theorem atX : (∀ w ∈ zxW, zL w) ∧ ∀ w ∈ zxW, vx_ot w = true := zat_ok (by decide +kernel)
theorem thX_X7_219_221_223 (K : zY) (hK : K.1.cls = RX7) : zthX K 219 221 223 := ⟨hK, ⟨List.mem_of_getElem? (i := 1137) (by decide +kernel), by decide +kernel⟩, ⟨List.mem_of_getElem? (i := 200) (by decide +kernel), by decide +kernel⟩, ⟨"no such message", by decide +kernel⟩, atX.1, List.forall_mem_cons.mpr ⟨by decide +kernel, List.forall_mem_cons.mpr ⟨by decide +kernel, atX.2⟩⟩, rfl⟩
