/-! ROWS 3: ends, entry, calls, throws, new cells -/
theorem zW_heap {g : zF} {σ : zS} {H H' : Heap} (e : H' = H) (h : zW g σ H) : zW g σ H' := by rw [e]; exact h
theorem zm_FrameBlind {g : zF} {σ : zS} {as : List Value} : FrameBlind (va_Pc as (fun U => zW g σ U.heap ∧ zQ g U)) := by
  intro a U f mk h
  obtain ⟨h1, h2, h3⟩ := h
  exact ⟨h1, h2, h3.keep (s := U) (U := U.calling f mk a) (State.WarmedH.refl U) (fun _ _ _ => rfl)⟩
/-- positions of arguments -/
def zar : Nat → List zV → List (Nat × zV)
  | _, [] => []
  | i, v :: vs => (i, v) :: zar (if v.1 == 1 || v.1 == 3 then i + 2 else i + 1) vs
theorem zar_map (g : zF) : ∀ (vs : List zV) (i : Nat), lv_args i (vs.map (zv g)) = (zar i vs).map fun q => (q.1, zv g q.2)
  | [], _ => rfl
  | v :: vs, i => by
    have e : (if (zv g v).category = 2 then i + 2 else i + 1) = (if (v.1 == 1 || v.1 == 3) = true then i + 2 else i + 1) := by
      have h := zcat g v
      by_cases hc : (zv g v).category = 2
      · rw [if_pos hc, if_pos]
        rw [← h, hc]; rfl
      · rw [if_neg hc, if_neg]
        rw [← h]
        intro z
        exact hc (by simpa using z)
    show (i, zv g v) :: lv_args (if (zv g v).category = 2 then i + 2 else i + 1) (vs.map (zv g)) = _
    rw [e, zar_map g vs]
    rfl
theorem zar_n {vs : List zV} (h : ∀ v ∈ vs, zn v) : ∀ (i : Nat) (q : Nat × zV), q ∈ zar i vs → zn q.2 := by
  induction vs with
  | nil => intro i q hq; cases hq
  | cons v vs ih =>
    intro i q hq
    rcases List.mem_cons.mp hq with e | e
    · rw [e]; exact h v List.mem_cons_self
    · exact ih (fun x hx => h x (List.mem_cons_of_mem _ hx)) _ q e
def zsz (vs : List zV) : Nat := (vs.map fun v => if v.1 == 1 || v.1 == 3 then 2 else 1).sum
theorem zsz_sl (g : zF) : ∀ vs : List zV, (lg_sl (vs.map (zv g))).length = zsz vs
  | [] => rfl
  | v :: vs => by
    have h := zcat g v
    have ih := zsz_sl g vs
    unfold lg_sl zsz at *
    rw [List.map_cons, List.flatMap_cons, List.length_append, ih, List.map_cons, List.sum_cons]
    congr 1
    by_cases hc : (zv g v).category = 2
    · rw [if_pos hc, if_pos]
      · rfl
      · rw [← h, hc]; rfl
    · rw [if_neg hc, if_neg]
      · rfl
      · rw [← h]; intro z; exact hc (by simpa using z)
section ZR3
variable {g : zF} {K : zY} {R : Room} {L : List (Nat × zV)} {S : List zV} {σ : zS} {C D : Nat} {Q : zR × zS → Prop} {pc : Nat}
/-- the method from its entry -/
theorem zm_of {as : List zV} (hy : plainName K.1.cls = true) (hh : K.2.2.2.2 = []) (hn : zsz as ≤ K.2.2.1) (body : zw g K R 0 (zar 0 as) [] σ R.cells R.slots Q) : zm g K R as σ Q := by
  intro hz
  have ew : [zcw K] = Cond.code K.1 K.2.1 K.2.2.1 K.2.2.2.1 :: [] := by unfold zcw; rw [hh]
  refine vx_ofW (cc := K.2.1) (maxL := K.2.2.1) (ret := K.2.2.2.1) hy ew ?_
  intro p e s m args below meth c s₁ B hml ht hv
  obtain ⟨rfl, hW, hQ⟩ := hv
  have hown : s.vm.findClass K.1.cls = some m.cls := findClass_of_methodNamed B.named
  have hl := lv_entry (as.map (zv g)) (n := K.2.2.1) (by rw [zsz_sl]; exact hn)
  rw [lg_entry_eq]
  generalize (lg_sl (as.map (zv g)) ++ List.replicate (K.2.2.1 - (lg_sl (as.map (zv g))).length) Slot.unset).toArray = ls at hl ⊢
  rw [zar_map] at hl
  have hE : c.exceptionTable.toList = tableOf K.2.2.2.2 := by
    rw [hh]
    exact List.eq_nil_iff_forall_not_mem.mpr ht
  exact body p e s m _ below meth c s.heap [] 0 0 ls ⟨B.exec, B.bytes, hml, B.returns, B.notSynchronized, hown, hQ, (name_of_methodNamed B.named B.method).1, hE⟩ hl (zar_n hz 0) (fun v hv => by cases hv) hW va_S.rf (by omega) (by omega)
theorem r_iret {a : Int} (hr : K.2.2.2.1 = some .int) (d : decode K.2.1 pc = .ok (.ireturn, 1)) (h : zo (some (.inl a, σ)) Q) : zw g K R pc L [(0, a)] σ C D Q := by
  intro p e s m args below meth c H locs cells slots ls hC hl hL hS hW hV h1 h2
  obtain ⟨r, e0, hq⟩ := h
  cases e0
  refine W.widen (k := R.cells) (n := R.slots) (by omega) (by omega) (vx_ret ?_)
  refine W.iret hC.1 hC.2.1 (hC.2.2.2.1.trans hr) (fun t ht hW' => ⟨a, σ, hq, by rw [hr]; rfl, by rw [hr]; intro k hk; cases hk; exact zS_1 hS, zW_heap ht hW, hV.F ht⟩) (fun q hq => hV.2.2 q hq) d (hlocks := hC.2.2.2.2.1)
theorem r_zret {a : Int} (hr : K.2.2.2.1 = some .boolean) (d : decode K.2.1 pc = .ok (.ireturn, 1)) (h : zo (if a = 0 ∨ a = 1 then some (.inl a, σ) else none) Q) : zw g K R pc L [(0, a)] σ C D Q := by
  intro p e s m args below meth c H locs cells slots ls hC hl hL hS hW hV h1 h2
  obtain ⟨hc, r, e0, hq⟩ := zite_o h
  cases e0
  refine W.widen (k := R.cells) (n := R.slots) (by omega) (by omega) (vx_ret ?_)
  refine W.zret hC.1 hC.2.1 (hC.2.2.2.1.trans hr) (z_nz hc) (fun t ht hW' => ⟨a, σ, hq, by rw [hr]; rfl, by rw [hr]; intro k hk; cases hk; exact zS_1 hS, zW_heap ht hW, hV.F ht⟩) (fun q hq => hV.2.2 q hq) d (hlocks := hC.2.2.2.2.1)
theorem r_vret (hr : K.2.2.2.1 = none) (d : decode K.2.1 pc = .ok (.return_, 1)) (h : zo (some (.inl 0, σ)) Q) : zw g K R pc L [] σ C D Q := by
  intro p e s m args below meth c H locs cells slots ls hC hl hL hS hW hV h1 h2
  obtain ⟨r, e0, hq⟩ := h
  cases e0
  refine W.widen (k := R.cells) (n := R.slots) (by omega) (by omega) (vx_ret ?_)
  refine W.vret hC.1 hC.2.1 (hC.2.2.2.1.trans hr) (fun t ht hW' => ⟨0, σ, hq, by rw [hr]; rfl, (by rw [hr]; intro k hk; cases hk), zW_heap ht hW, hV.F ht⟩) (fun q hq => hV.2.2 q hq) d (hlocks := hC.2.2.2.2.1)
theorem r_aret {a : Int} {n : String} (hr : K.2.2.2.1 = some (.object n)) (d : decode K.2.1 pc = .ok (.areturn, 1)) (h : zo (some (.inl a, σ)) Q) : zw g K R pc L [(4, a)] σ C D Q := by
  intro p e s m args below meth c H locs cells slots ls hC hl hL hS hW hV h1 h2
  obtain ⟨r, e0, hq⟩ := h
  cases e0
  refine W.widen (k := R.cells) (n := R.slots) (by omega) (by omega) (vx_ret ?_)
  refine W.aret (v := zv g (4, a)) hC.1 hC.2.1 (hC.2.2.2.1.trans hr) (Or.inl ⟨n, rfl⟩) ?_ (fun t ht hW' => ⟨a, σ, hq, by rw [hr]; rfl, by rw [hr]; intro k hk; cases hk; trivial, zW_heap ht hW, hV.F ht⟩) (fun q hq => hV.2.2 q hq) d (hlocks := hC.2.2.2.2.1)
  rw [zv_4]; split
  · exact Or.inl rfl
  · exact Or.inr ⟨_, rfl⟩
theorem r_fret {a : Int} (hr : K.2.2.2.1 = some .float) (d : decode K.2.1 pc = .ok (.freturn, 1)) (h : zo (some (.inl a, σ)) Q) : zw g K R pc L [(2, a)] σ C D Q := by
  intro p e s m args below meth c H locs cells slots ls hC hl hL hS hW hV h1 h2
  obtain ⟨r, e0, hq⟩ := h
  cases e0
  refine W.widen (k := R.cells) (n := R.slots) (by omega) (by omega) (vx_ret ?_)
  refine W.fret hC.1 hC.2.1 (hC.2.2.2.1.trans hr) (fun t ht hW' => ⟨a, σ, hq, by rw [hr]; rfl, by rw [hr]; intro k hk; cases hk; trivial, zW_heap ht hW, hV.F ht⟩) (fun q hq => hV.2.2 q hq) d (hlocks := hC.2.2.2.2.1)
/-- behind a call: returned, or thrown -/
theorem z_run {K' : zY} {R' : Room} {Q' : zR × zS → Prop} {p : Program} {e : Env} {s : State} {m : MethodId} {args a : Array Value} {below : List Frame} {meth : Method} {c : Code} {H : Heap} {locs : List Loc} {cells slots : Nat} {Qf : State → Prop} {ls : Array Slot} {st0 rest : List Value}
    (hr : vx_Run p g.2.2.2.1 e R s m args below meth c H locs cells slots R'.cells R'.slots (F0 m pc ls st0) rest (zQc g K' Q' a) (zXc g Q') (zA g)) (hV : va_S (zA g) s.heap H locs)
    (kx : ∀ (ex : Nat) (τ : zS) (n : Int) (H1 : Heap) (locs1 : List Loc) (q : Addr) (ce : Cell), Q' (.inr ex, τ) → τ.1.2.2 ≤ n → zW g ((τ.1.1, τ.1.2.1, n), τ.2) H1 → va_S (zA g) s.heap H1 locs1 → H1[q]? = some ce → ce.vm = .none → s.vm.findClass (zex ex) = some ce.cls → vx_W p g.2.2.2.1 e R s m args below meth c H1 locs1 (cells + R'.cells) (slots + R'.slots) Qf (F0 m pc ls rest) q)
    (kk : ∀ (v : Int) (τ : zS) (H1 : Heap) (locs1 : List Loc), Q' (.inl v, τ) → zrn K'.2.2.2.1 v → zW g τ H1 → va_S (zA g) s.heap H1 locs1 → W p g.2.2.2.1 e R s m args below meth c H1 locs1 (cells + R'.cells) (slots + R'.slots) Qf (F0 m (pc + 3) ls ((zrv g K'.2.2.2.1 v).toList ++ rest))) :
    W p g.2.2.2.1 e R s m args below meth c H locs cells slots Qf (F0 m pc ls st0) := by
  intro T hT X
  rcases hr T hT X with ⟨v, st₀, t, T', L, h0, X', hL, e1, e2, ⟨v', τ, hq, hv, hz, hW, hF⟩, st⟩ | ⟨q, st₀, t, T', L, E, ce, h0, X', hL, e1, e2, ⟨ex, τ, n, hq, hE, hn, hW, hF⟩, hce, hcv, hcl, st⟩
  · cases hv
    obtain ⟨k1, k2, k3⟩ := vx_keep h0 e1 hV (fun q _ h => h) (fun q h => h) hL hF
    obtain ⟨t2, a1, b1⟩ := kk v' τ T'.heap (locs ++ L) hq hz (zW_heap e1 hW) k3 T' rfl X'
    exact ⟨t2, st t2 a1, b1⟩
  · subst hE
    obtain ⟨k1, k2, k3⟩ := vx_keep h0 e1 hV (fun q _ h => h) (fun q h => h) hL hF
    obtain ⟨t2, a1, b1⟩ := kx ex τ n T'.heap (locs ++ L) q ce hq hn (zW_heap e1 hW) k3 (by rw [e1]; exact hce) hcv hcl T' rfl X'
    exact ⟨t2, st.trans a1, b1⟩
def zbn (F : zFn) (k : Int → zS → zFn) : zFn := match F with
  | none => none
  | some (.inl v, τ) => k v τ
  | some (.inr e, τ) => some (.inr e, τ)
theorem zbn_o {F : zFn} {k : Int → zS → zFn} {Q : zR × zS → Prop} (h : zo (zbn F k) Q) : ∃ r, F = some r ∧ (∀ v τ, r = (.inl v, τ) → zo (k v τ) Q) ∧ ∀ e τ, r = (.inr e, τ) → Q (.inr e, τ) := by
  unfold zbn at h
  split at h
  · obtain ⟨r, h, -⟩ := h; cases h
  · rename_i v τ
    exact ⟨_, rfl, fun v' τ' e => by cases e; exact h, fun e' τ' e => by cases e⟩
  · rename_i e τ
    exact ⟨_, rfl, fun v' τ' e => (by cases e), fun e' τ' e2 => by cases e2; obtain ⟨r, e3, hq⟩ := h; cases e3; exact hq⟩
/-- what every call asks of the callee's words -/
def zk0 (K' : zY) (n : Nat) : Prop := zL (zcw K') ∧ zL (.initialized K'.1.cls) ∧ (K'.1.cls ≠ "java/lang/invoke/MethodHandle" ∧ K'.1.cls ≠ "java/lang/invoke/VarHandle" ∧ (parseMethodDescriptor K'.1.desc).map (fun d => d.parameters.length) = some n) ∧ K'.2.2.2.2 = []
def zkV (K' : zY) : Prop := zL (.instanceMethod K'.1) ∧ zL (.selects K'.1.cls K'.1 K'.1)
def zkL (own : String) (idx : Nat) (K' : zY) : Prop := zL (.methodLink own idx K'.1) ∨ ∃ host, zL (.methodLinkNest own idx K'.1 host)
/-- room for a call -/
def zkR (R R' : Room) (K' : zY) : Prop := R'.frames + 1 ≤ R.frames ∧ 8 + (K'.2.2.1 + 11) + R'.locals ≤ R.locals
/-- the tag of what is left of an answer -/
def zpu (t : Option FieldType) (v : Int) (S : List zV) : List zV := match zrt t with
  | none => S
  | some k => (k, v) :: S
theorem zpu_map (t : Option FieldType) (v : Int) (S : List zV) : (zrv g t v).toList ++ S.map (zv g) = (zpu t v S).map (zv g) := by
  unfold zrv zpu
  cases zrt t <;> rfl
theorem zpu_n {t : Option FieldType} {v : Int} {S : List zV} (hv : zrn t v) (hS : ∀ x ∈ S, zn x) : ∀ x ∈ zpu t v S, zn x := by
  unfold zpu
  cases h : zrt t with
  | none => exact hS
  | some k => exact zS_c (hv k h) hS
theorem z_pc {as : List zV} {s U : State} {H : Heap} {locs : List Loc} (hW : zW g σ H) (hQ : zQ g s) (hV : va_S (zA g) s.heap H locs) (hU : U.heap = H) (hw : s.WarmedH U.vm) : va_Pc (as.map (zv g)) (fun U => zW g σ U.heap ∧ zQ g U) (as.map (zv g)).toArray U :=
  ⟨rfl, zW_heap hU hW, hQ.keep hw (fun a h1 h2 => by rw [hU]; exact hV.2.1 a h1 h2)⟩
theorem z_out {p : Program} {e : Env} {s : State} {m : MethodId} {args : Array Value} {below : List Frame} {meth : Method} {c : Code} {H1 : Heap} {locs1 : List Loc} {cells slots : Nat} {ls : Array Slot} {rest : List Value} {ex : Nat} {τ : zS} {n : Int} {q : Addr} {ce : Cell}
    (hC : zC g K p s m meth c) (hh : K.2.2.2.2 = []) (hq : Q (.inr ex, τ)) (hn : τ.1.2.2 ≤ n) (hW : zW g ((τ.1.1, τ.1.2.1, n), τ.2) H1) (hV : va_S (zA g) s.heap H1 locs1) (hc : H1[q]? = some ce) (hv : ce.vm = .none) (hcl : s.vm.findClass (zex ex) = some ce.cls) (h1 : cells ≤ R.cells) (h2 : slots ≤ R.slots) :
    vx_W p g.2.2.2.1 e R s m args below meth c H1 locs1 cells slots (vx_MQ below (zQc g K Q) (zXc g Q) args s R.cells R.slots (zA g)) (F0 m pc ls rest) q := by
  refine vx_out (E := zex ex) (by rw [hC.2.2.2.2.2.2.2.2, hh]; intro x hx; cases hx) hC.2.2.2.2.1 hc hv hcl (fun t ht _ => ⟨ex, τ, n, hq, rfl, hn, zW_heap ht hW, hV.F ht⟩) (fun z hz => hV.2.2 z hz) h1 h2
theorem z_words {K' : zY} {s : State} (hQ : zQ g s) (h : zL (zcw K')) : ∀ w ∈ [zcw K'], ∀ (a' : Array Value) (U : State), s.WarmedH U.vm → w.before a' U = true := by
  intro w hw a' U hU
  cases List.mem_singleton.mp hw
  exact zok_keep h.2 hU (hQ.2.2.1 _ h #[]) a'
theorem zcw_nil {K' : zY} (h : K'.2.2.2.2 = []) : zcw K' = Cond.code K'.1 K'.2.1 K'.2.2.1 K'.2.2.2.1 := by unfold zcw; rw [h]
theorem z_len {d : String} {n : Nat} (h : (parseMethodDescriptor d).map (fun d => d.parameters.length) = some n) : ∀ sig, parseMethodDescriptor d = some sig → n = sig.parameters.length := by
  intro sig hs
  rw [hs] at h
  exact (Option.some.inj h).symm

def zcn (c : Nat) : String := (vwCl.getD c ("", fun _ => ("", "", "", false), 0)).1
theorem zcn_of {c : Nat} {r : vw_C} (h : vwCl[c]? = some r) : zcn c = r.1 := by
  unfold zcn
  rw [List.getD_eq_getElem?_getD, h]
  rfl
/-- the receiver is an object of class c -/
def zob (c : Nat) (a : Int) (σ : zS) (F : zFn) : zFn := if σ.1.1 a = some (0, (c : Int)) then F else none
theorem zob_o {c : Nat} {a : Int} {σ : zS} {F : zFn} {Q : zR × zS → Prop} (h : zo (zob c a σ F) Q) : σ.1.1 a = some (0, (c : Int)) ∧ zo F Q := zite_o h
theorem r_callV {K' : zY} {R' : Room} {idx n : Nat} {b : Int} {as rest : List zV} {F : zFn} {k : Int → zS → zFn} {C' D' : Nat} {cn : Nat} (hh : K.2.2.2.2 = []) (h0 : zk0 K' n) (hV9 : zkV K') (hl : zkL K.1.cls idx K') (hR : zkR R R' K') (d : decode K.2.1 pc = .ok (.invokevirtual idx, 3)) (hn : as.length = n) (hS' : S = (as.reverse ++ (4, b) :: rest)) (hcat : ((rest.map fun v => if v.1 == 1 || v.1 == 3 then 2 else 1).sum) ≤ 8) (hC' : C' + R'.cells ≤ C) (hD' : D' + R'.slots ≤ D) (hcl : zcn cn = K'.1.cls) (h : zo (zob cn b σ (zbn F k)) Q)
    (hm : ∀ r, F = some r → zm g K' R' ((4, b) :: as) σ (fun x => F = some x)) (kk : ∀ v τ, F = some (.inl v, τ) → zo (k v τ) Q → zw g K R (pc + 3) L (zpu K'.2.2.2.1 v rest) τ C' D' Q) : zw g K R pc L S σ C D Q := by
  intro p e s m args below meth c H locs cells slots ls hC hl9 hL hS hW hV h1 h2
  subst hS'

  obtain ⟨hobj, h⟩ := zob_o h
  obtain ⟨r, hF, hkv, hkx⟩ := zbn_o h
  have hQ := hC.2.2.2.2.2.2.1
  obtain ⟨w0, w1, ⟨n1, n2, n3⟩, w2⟩ := h0
  have hSr : ∀ v ∈ rest, zn v := fun v hv => hS v (List.mem_append_right _ (List.mem_cons_of_mem _ hv))
  have hSa : ∀ v ∈ ((4, b) :: as), zn v := fun v hv => (List.mem_cons.mp hv).elim (fun e => by rw [e]; trivial) (fun hv => hS v (List.mem_append_left _ (List.mem_reverse.mpr hv)))
  have hM := hm r hF hSa
  have hcode : (Cond.code K'.1 K'.2.1 K'.2.2.1 K'.2.2.2.1).before args s = true := by rw [← zcw_nil w2]; exact hQ.2.2.1 _ w0 _
  have hmem : Cond.code K'.1 K'.2.1 K'.2.2.1 K'.2.2.2.1 ∈ [zcw K'] := by rw [zcw_nil w2]; exact List.mem_cons_self
  have hfix : CallFix p m c K.2.1 K.2.2.1 s args [] K.1.cls := ⟨hC.1, hC.2.1, hC.2.2.1, hC.2.2.2.2.2.1, fun w hw => by cases hw⟩
  have hpre : ∀ U : State, U.heap = H → s.WarmedH U.vm → va_Pc (((4, b) :: as).map (zv g)) (fun U => zW g σ U.heap ∧ zQ g U) (((4, b) :: as).map (zv g)).toArray U := fun U hU hw => z_pc hW hQ hV hU hw
  obtain ⟨gb, rr, hrr, cell, q1, q2, q3, q4⟩ := hW.1 b _ hobj
  have hb0 : (0 : Int) ≤ b := by omega
  have hrr : vwCl[cn]? = some rr := hrr
  have hrecv : ∃ cellB : Cell, H[b.toNat]? = some cellB ∧ cellB.vm.isStatics = false ∧ s.vm.findClass K'.1.cls = some cellB.cls := ⟨cell, q1, by rw [q3]; rfl, by rw [← hcl, zcn_of hrr, q2]; exact (hQ.1 cn rr hrr).2.1⟩
  have eb : zv g (4, b) = .ref b.toNat := z_ref hb0
  have est : (as.reverse ++ (4, b) :: rest).map (zv g) = (as.map (zv g)).reverse ++ .ref b.toNat :: rest.map (zv g) := by rw [List.map_append, List.map_reverse, List.map_cons, eb]
  have eal : ((4, b) :: as).map (zv g) = .ref b.toNat :: as.map (zv g) := by rw [List.map_cons, eb]
  rw [eal] at hpre hM
  have hcat' : ((rest.map (zv g)).map fun v => v.category).sum ≤ 8 := by
    rw [List.map_map]
    refine Nat.le_trans (Nat.le_of_eq ?_) hcat
    congr 1
    apply List.map_congr_left
    intro v _
    have h := zcat g v
    show (zv g v).category = _
    rcases lv_cat (zv g v) with e | e <;> rw [e] at h ⊢
    · rw [if_neg]; rw [← h]; decide
    · rw [if_pos]; rw [← h]; rfl
  rw [est]
  have hfb : FrameBlind (va_Pc (.ref b.toNat :: as.map (zv g)) (fun U => zW g σ U.heap ∧ zQ g U)) := zm_FrameBlind
  rcases hl with hl | ⟨host, hl⟩
  all_goals
    refine z_run (a := (Value.ref b.toNat :: as.map (zv g)).toArray) (K' := K') (R' := R') (Q' := fun x => F = some x) (st0 := _) (rest := rest.map (zv g)) ?_ hV (fun ex τ nn H1 locs1 q ce hq hnn hW1 hV1 g1 g2 g3 => z_out (pc := pc) hC hh (hkx ex τ (Option.some.inj (hF.symm.trans hq))) hnn hW1 hV1 g1 g2 g3 (by omega) (by omega)) (fun v τ H1 locs1 hq hz hW1 hV1 => by rw [zpu_map]; exact kk v τ hq (hkv v τ (Option.some.inj (hF.symm.trans hq))) p e s m args below meth c H1 locs1 _ _ ls hC hl9 hL (zpu_n hz hSr) hW1 hV1 (by omega) (by omega))
  · exact vx_runV (maxL := K'.2.2.1) (bytes := K'.2.1) (ret := K'.2.2.2.1) (n := n) (As := as.map (zv g)) (rest := rest.map (zv g)) hfix hM ⟨⟨rfl, rfl, hR.1, hR.2, z_words hQ w0, hmem, hcode, hQ.2.2.1 _ w1 _, ⟨n1, n2⟩, z_len n3, hQ.2.2.1 _ hl _⟩, hQ.2.2.1 _ hV9.1 _, hQ.2.2.1 _ hV9.2 _⟩ ⟨hfb, hrecv, hpre⟩ rfl (by rw [List.length_map]; exact hn) hl9.1 rfl (lv_room hcat') d ⟨by omega, by omega⟩
  · exact vx_runVN (maxL := K'.2.2.1) (bytes := K'.2.1) (ret := K'.2.2.2.1) (n := n) (As := as.map (zv g)) (rest := rest.map (zv g)) hfix hM ⟨⟨⟨rfl, rfl, hR.1, hR.2, z_words hQ w0, hmem⟩, hcode, hQ.2.2.1 _ w1 _, ⟨n1, n2⟩, z_len n3, hQ.2.2.1 _ hl _⟩, hQ.2.2.1 _ hV9.1 _, hQ.2.2.1 _ hV9.2 _⟩ ⟨hfb, hrecv, hpre⟩ rfl (by rw [List.length_map]; exact hn) hl9.1 rfl (lv_room hcat') d ⟨by omega, by omega⟩
theorem r_callT {K' : zY} {R' : Room} {idx n : Nat} {j : Nat} {as rest : List zV} {F : zFn} {k : Int → zS → zFn} {C' D' : Nat} (hj : j < 25) (hh : K.2.2.2.2 = []) (h0 : zk0 K' n) (hV9 : zkV K') (hl : zkL K.1.cls idx K') (hR : zkR R R' K') (d : decode K.2.1 pc = .ok (.invokevirtual idx, 3)) (hn : as.length = n) (hS' : S = (as.reverse ++ (6, (j : Int)) :: rest)) (hcat : ((rest.map fun v => if v.1 == 1 || v.1 == 3 then 2 else 1).sum) ≤ 8) (hC' : C' + R'.cells ≤ C) (hD' : D' + R'.slots ≤ D) (hcl : K'.1.cls = "java/lang/String") (h : zo (zbn F k) Q)
    (hm : ∀ r, F = some r → zm g K' R' ((6, (j : Int)) :: as) σ (fun x => F = some x)) (kk : ∀ v τ, F = some (.inl v, τ) → zo (k v τ) Q → zw g K R (pc + 3) L (zpu K'.2.2.2.1 v rest) τ C' D' Q) : zw g K R pc L S σ C D Q := by
  intro p e s m args below meth c H locs cells slots ls hC hl9 hL hS hW hV h1 h2
  subst hS'

  obtain ⟨r, hF, hkv, hkx⟩ := zbn_o h
  have hQ := hC.2.2.2.2.2.2.1
  obtain ⟨w0, w1, ⟨n1, n2, n3⟩, w2⟩ := h0
  have hSr : ∀ v ∈ rest, zn v := fun v hv => hS v (List.mem_append_right _ (List.mem_cons_of_mem _ hv))
  have hSa : ∀ v ∈ ((6, (j : Int)) :: as), zn v := fun v hv => (List.mem_cons.mp hv).elim (fun e => by rw [e]; trivial) (fun hv => hS v (List.mem_append_left _ (List.mem_reverse.mpr hv)))
  have hM := hm r hF hSa
  have hcode : (Cond.code K'.1 K'.2.1 K'.2.2.1 K'.2.2.2.1).before args s = true := by rw [← zcw_nil w2]; exact hQ.2.2.1 _ w0 _
  have hmem : Cond.code K'.1 K'.2.1 K'.2.2.1 K'.2.2.2.1 ∈ [zcw K'] := by rw [zcw_nil w2]; exact List.mem_cons_self
  have hfix : CallFix p m c K.2.1 K.2.2.1 s args [] K.1.cls := ⟨hC.1, hC.2.1, hC.2.2.1, hC.2.2.2.2.2.1, fun w hw => by cases hw⟩
  have hpre : ∀ U : State, U.heap = H → s.WarmedH U.vm → va_Pc (((6, (j : Int)) :: as).map (zv g)) (fun U => zW g σ U.heap ∧ zQ g U) (((6, (j : Int)) :: as).map (zv g)).toArray U := fun U hU hw => z_pc hW hQ hV hU hw
  have hrecv : ∃ cellB : Cell, H[g.2.2.2.2.2 j]? = some cellB ∧ cellB.vm.isStatics = false ∧ s.vm.findClass K'.1.cls = some cellB.cls := by
    rw [hcl]
    exact vk_recv hQ.2.2.2.2.2.2.1 hj hV
  have eb : zv g (6, (j : Int)) = .ref (g.2.2.2.2.2 j) := rfl
  have est : (as.reverse ++ (6, (j : Int)) :: rest).map (zv g) = (as.map (zv g)).reverse ++ .ref (g.2.2.2.2.2 j) :: rest.map (zv g) := by rw [List.map_append, List.map_reverse, List.map_cons, eb]
  have eal : ((6, (j : Int)) :: as).map (zv g) = .ref (g.2.2.2.2.2 j) :: as.map (zv g) := by rw [List.map_cons, eb]
  rw [eal] at hpre hM
  have hcat' : ((rest.map (zv g)).map fun v => v.category).sum ≤ 8 := by
    rw [List.map_map]
    refine Nat.le_trans (Nat.le_of_eq ?_) hcat
    congr 1
    apply List.map_congr_left
    intro v _
    have h := zcat g v
    show (zv g v).category = _
    rcases lv_cat (zv g v) with e | e <;> rw [e] at h ⊢
    · rw [if_neg]; rw [← h]; decide
    · rw [if_pos]; rw [← h]; rfl
  rw [est]
  have hfb : FrameBlind (va_Pc (.ref (g.2.2.2.2.2 j) :: as.map (zv g)) (fun U => zW g σ U.heap ∧ zQ g U)) := zm_FrameBlind
  rcases hl with hl | ⟨host, hl⟩
  all_goals
    refine z_run (a := (Value.ref (g.2.2.2.2.2 j) :: as.map (zv g)).toArray) (K' := K') (R' := R') (Q' := fun x => F = some x) (st0 := _) (rest := rest.map (zv g)) ?_ hV (fun ex τ nn H1 locs1 q ce hq hnn hW1 hV1 g1 g2 g3 => z_out (pc := pc) hC hh (hkx ex τ (Option.some.inj (hF.symm.trans hq))) hnn hW1 hV1 g1 g2 g3 (by omega) (by omega)) (fun v τ H1 locs1 hq hz hW1 hV1 => by rw [zpu_map]; exact kk v τ hq (hkv v τ (Option.some.inj (hF.symm.trans hq))) p e s m args below meth c H1 locs1 _ _ ls hC hl9 hL (zpu_n hz hSr) hW1 hV1 (by omega) (by omega))
  · exact vx_runV (maxL := K'.2.2.1) (bytes := K'.2.1) (ret := K'.2.2.2.1) (n := n) (As := as.map (zv g)) (rest := rest.map (zv g)) hfix hM ⟨⟨rfl, rfl, hR.1, hR.2, z_words hQ w0, hmem, hcode, hQ.2.2.1 _ w1 _, ⟨n1, n2⟩, z_len n3, hQ.2.2.1 _ hl _⟩, hQ.2.2.1 _ hV9.1 _, hQ.2.2.1 _ hV9.2 _⟩ ⟨hfb, hrecv, hpre⟩ rfl (by rw [List.length_map]; exact hn) hl9.1 rfl (lv_room hcat') d ⟨by omega, by omega⟩
  · exact vx_runVN (maxL := K'.2.2.1) (bytes := K'.2.1) (ret := K'.2.2.2.1) (n := n) (As := as.map (zv g)) (rest := rest.map (zv g)) hfix hM ⟨⟨⟨rfl, rfl, hR.1, hR.2, z_words hQ w0, hmem⟩, hcode, hQ.2.2.1 _ w1 _, ⟨n1, n2⟩, z_len n3, hQ.2.2.1 _ hl _⟩, hQ.2.2.1 _ hV9.1 _, hQ.2.2.1 _ hV9.2 _⟩ ⟨hfb, hrecv, hpre⟩ rfl (by rw [List.length_map]; exact hn) hl9.1 rfl (lv_room hcat') d ⟨by omega, by omega⟩
theorem r_callI {K' : zY} {R' : Room} {idx n : Nat} {b : Int} {as rest : List zV} {F : zFn} {k : Int → zS → zFn} {C' D' : Nat} (hh : K.2.2.2.2 = []) (h0 : zk0 K' n) (hV9 : K'.1.name = "<init>" ∧ zL (.instanceMethod K'.1) ∧ K'.2.2.2.1 = none) (hl : zkL K.1.cls idx K') (hR : zkR R R' K') (d : decode K.2.1 pc = .ok (.invokespecial idx, 3)) (hn : as.length = n) (hS' : S = (as.reverse ++ (4, b) :: rest)) (hcat : ((rest.map fun v => if v.1 == 1 || v.1 == 3 then 2 else 1).sum) ≤ 8) (hC' : C' + R'.cells ≤ C) (hD' : D' + R'.slots ≤ D) (h : zo (zbn F k) Q) (hb0 : 0 ≤ b)
    (hm : ∀ r, F = some r → zm g K' R' ((4, b) :: as) σ (fun x => F = some x)) (kk : ∀ v τ, F = some (.inl v, τ) → zo (k v τ) Q → zw g K R (pc + 3) L (zpu K'.2.2.2.1 v rest) τ C' D' Q) : zw g K R pc L S σ C D Q := by
  intro p e s m args below meth c H locs cells slots ls hC hl9 hL hS hW hV h1 h2
  subst hS'

  obtain ⟨r, hF, hkv, hkx⟩ := zbn_o h
  have hQ := hC.2.2.2.2.2.2.1
  obtain ⟨w0, w1, ⟨n1, n2, n3⟩, w2⟩ := h0
  have hSr : ∀ v ∈ rest, zn v := fun v hv => hS v (List.mem_append_right _ (List.mem_cons_of_mem _ hv))
  have hSa : ∀ v ∈ ((4, b) :: as), zn v := fun v hv => (List.mem_cons.mp hv).elim (fun e => by rw [e]; trivial) (fun hv => hS v (List.mem_append_left _ (List.mem_reverse.mpr hv)))
  have hM := hm r hF hSa
  have hcode : (Cond.code K'.1 K'.2.1 K'.2.2.1 K'.2.2.2.1).before args s = true := by rw [← zcw_nil w2]; exact hQ.2.2.1 _ w0 _
  have hmem : Cond.code K'.1 K'.2.1 K'.2.2.1 K'.2.2.2.1 ∈ [zcw K'] := by rw [zcw_nil w2]; exact List.mem_cons_self
  have hfix : CallFix p m c K.2.1 K.2.2.1 s args [] K.1.cls := ⟨hC.1, hC.2.1, hC.2.2.1, hC.2.2.2.2.2.1, fun w hw => by cases hw⟩
  have hpre : ∀ U : State, U.heap = H → s.WarmedH U.vm → va_Pc (((4, b) :: as).map (zv g)) (fun U => zW g σ U.heap ∧ zQ g U) (((4, b) :: as).map (zv g)).toArray U := fun U hU hw => z_pc hW hQ hV hU hw
  have eb : zv g (4, b) = .ref b.toNat := z_ref hb0
  have est : (as.reverse ++ (4, b) :: rest).map (zv g) = (as.map (zv g)).reverse ++ .ref b.toNat :: rest.map (zv g) := by rw [List.map_append, List.map_reverse, List.map_cons, eb]
  have eal : ((4, b) :: as).map (zv g) = .ref b.toNat :: as.map (zv g) := by rw [List.map_cons, eb]
  rw [eal] at hpre hM
  have hcat' : ((rest.map (zv g)).map fun v => v.category).sum ≤ 8 := by
    rw [List.map_map]
    refine Nat.le_trans (Nat.le_of_eq ?_) hcat
    congr 1
    apply List.map_congr_left
    intro v _
    have h := zcat g v
    show (zv g v).category = _
    rcases lv_cat (zv g v) with e | e <;> rw [e] at h ⊢
    · rw [if_neg]; rw [← h]; decide
    · rw [if_pos]; rw [← h]; rfl
  rw [est]
  have hfb : FrameBlind (va_Pc (.ref b.toNat :: as.map (zv g)) (fun U => zW g σ U.heap ∧ zQ g U)) := zm_FrameBlind
  have hret : K'.2.2.2.1 = none := hV9.2.2
  have hcodeN := hcode
  have hmemN := hmem
  rw [hret] at hcodeN hmemN
  rcases hl with hl | ⟨host, hl⟩
  all_goals
    refine z_run (a := (Value.ref b.toNat :: as.map (zv g)).toArray) (K' := K') (R' := R') (Q' := fun x => F = some x) (st0 := _) (rest := rest.map (zv g)) ?_ hV (fun ex τ nn H1 locs1 q ce hq hnn hW1 hV1 g1 g2 g3 => z_out (pc := pc) hC hh (hkx ex τ (Option.some.inj (hF.symm.trans hq))) hnn hW1 hV1 g1 g2 g3 (by omega) (by omega)) (fun v τ H1 locs1 hq hz hW1 hV1 => by rw [zpu_map]; exact kk v τ hq (hkv v τ (Option.some.inj (hF.symm.trans hq))) p e s m args below meth c H1 locs1 _ _ ls hC hl9 hL (zpu_n hz hSr) hW1 hV1 (by omega) (by omega))
  · exact vx_runI (maxL := K'.2.2.1) (bytes := K'.2.1) (n := n) (As := as.map (zv g)) (rest := rest.map (zv g)) hfix hM ⟨⟨rfl, rfl, hR.1, hR.2, z_words hQ w0, hmemN, hcodeN, hQ.2.2.1 _ w1 _, ⟨n1, n2⟩, z_len n3, hQ.2.2.1 _ hl _⟩, hV9.1, hQ.2.2.1 _ hV9.2.1 _⟩ ⟨hfb, hpre⟩ rfl (by rw [List.length_map]; exact hn) hl9.1 rfl (lv_room hcat') d ⟨by omega, by omega⟩
  · exact vx_runIN (maxL := K'.2.2.1) (bytes := K'.2.1) (n := n) (As := as.map (zv g)) (rest := rest.map (zv g)) hfix hM ⟨⟨⟨rfl, rfl, hR.1, hR.2, z_words hQ w0, hmemN⟩, hcodeN, hQ.2.2.1 _ w1 _, ⟨n1, n2⟩, z_len n3, hQ.2.2.1 _ hl _⟩, hV9.1, hQ.2.2.1 _ hV9.2.1 _⟩ ⟨hfb, hpre⟩ rfl (by rw [List.length_map]; exact hn) hl9.1 rfl (lv_room hcat') d ⟨by omega, by omega⟩
theorem r_callS {K' : zY} {R' : Room} {idx n : Nat} {as rest : List zV} {F : zFn} {k : Int → zS → zFn} {C' D' : Nat} (hh : K.2.2.2.2 = []) (h0 : zk0 K' n) (hV9 : zL (.static K'.1)) (hl : zkL K.1.cls idx K') (hR : zkR R R' K') (d : decode K.2.1 pc = .ok (.invokestatic idx, 3)) (hn : as.length = n) (hS' : S = (as.reverse ++ rest)) (hcat : ((rest.map fun v => if v.1 == 1 || v.1 == 3 then 2 else 1).sum) ≤ 8) (hC' : C' + R'.cells ≤ C) (hD' : D' + R'.slots ≤ D) (h : zo (zbn F k) Q)
    (hm : ∀ r, F = some r → zm g K' R' as σ (fun x => F = some x)) (kk : ∀ v τ, F = some (.inl v, τ) → zo (k v τ) Q → zw g K R (pc + 3) L (zpu K'.2.2.2.1 v rest) τ C' D' Q) : zw g K R pc L S σ C D Q := by
  intro p e s m args below meth c H locs cells slots ls hC hl9 hL hS hW hV h1 h2
  subst hS'

  obtain ⟨r, hF, hkv, hkx⟩ := zbn_o h
  have hQ := hC.2.2.2.2.2.2.1
  obtain ⟨w0, w1, ⟨n1, n2, n3⟩, w2⟩ := h0
  have hSr : ∀ v ∈ rest, zn v := fun v hv => hS v (List.mem_append_right _ hv)
  have hSa : ∀ v ∈ as, zn v := fun v hv => hS v (List.mem_append_left _ (List.mem_reverse.mpr hv))
  have hM := hm r hF hSa
  have hcode : (Cond.code K'.1 K'.2.1 K'.2.2.1 K'.2.2.2.1).before args s = true := by rw [← zcw_nil w2]; exact hQ.2.2.1 _ w0 _
  have hmem : Cond.code K'.1 K'.2.1 K'.2.2.1 K'.2.2.2.1 ∈ [zcw K'] := by rw [zcw_nil w2]; exact List.mem_cons_self
  have hfix : CallFix p m c K.2.1 K.2.2.1 s args [] K.1.cls := ⟨hC.1, hC.2.1, hC.2.2.1, hC.2.2.2.2.2.1, fun w hw => by cases hw⟩
  have hpre : ∀ U : State, U.heap = H → s.WarmedH U.vm → va_Pc (as.map (zv g)) (fun U => zW g σ U.heap ∧ zQ g U) (as.map (zv g)).toArray U := fun U hU hw => z_pc hW hQ hV hU hw
  have est : (as.reverse ++ rest).map (zv g) = (as.map (zv g)).reverse ++ rest.map (zv g) := by rw [List.map_append, List.map_reverse]
  have hcat' : ((rest.map (zv g)).map fun v => v.category).sum ≤ 8 := by
    rw [List.map_map]
    refine Nat.le_trans (Nat.le_of_eq ?_) hcat
    congr 1
    apply List.map_congr_left
    intro v _
    have h := zcat g v
    show (zv g v).category = _
    rcases lv_cat (zv g v) with e | e <;> rw [e] at h ⊢
    · rw [if_neg]; rw [← h]; decide
    · rw [if_pos]; rw [← h]; rfl
  rw [est]
  have hfb : FrameBlind (va_Pc (as.map (zv g)) (fun U => zW g σ U.heap ∧ zQ g U)) := zm_FrameBlind
  rcases hl with hl | ⟨host, hl⟩
  all_goals
    refine z_run (a := (as.map (zv g)).toArray) (K' := K') (R' := R') (Q' := fun x => F = some x) (st0 := _) (rest := rest.map (zv g)) ?_ hV (fun ex τ nn H1 locs1 q ce hq hnn hW1 hV1 g1 g2 g3 => z_out (pc := pc) hC hh (hkx ex τ (Option.some.inj (hF.symm.trans hq))) hnn hW1 hV1 g1 g2 g3 (by omega) (by omega)) (fun v τ H1 locs1 hq hz hW1 hV1 => by rw [zpu_map]; exact kk v τ hq (hkv v τ (Option.some.inj (hF.symm.trans hq))) p e s m args below meth c H1 locs1 _ _ ls hC hl9 hL (zpu_n hz hSr) hW1 hV1 (by omega) (by omega))
  · exact vx_runS (maxL := K'.2.2.1) (bytes := K'.2.1) (ret := K'.2.2.2.1) (n := n) (As := as.map (zv g)) (rest := rest.map (zv g)) hfix hM ⟨⟨rfl, rfl, hR.1, hR.2, z_words hQ w0, hmem, hcode, hQ.2.2.1 _ w1 _, ⟨n1, n2⟩, z_len n3, hQ.2.2.1 _ hl _⟩, hQ.2.2.1 _ hV9 _⟩ ⟨hfb, hpre⟩ rfl (by rw [List.length_map]; exact hn) hl9.1 rfl (lv_room hcat') d ⟨by omega, by omega⟩
  · exact vx_runSN (maxL := K'.2.2.1) (bytes := K'.2.1) (ret := K'.2.2.2.1) (n := n) (As := as.map (zv g)) (rest := rest.map (zv g)) hfix hM ⟨⟨⟨rfl, rfl, hR.1, hR.2, z_words hQ w0, hmem⟩, hcode, hQ.2.2.1 _ w1 _, ⟨n1, n2⟩, z_len n3, hQ.2.2.1 _ hl _⟩, hQ.2.2.1 _ hV9 _, trivial⟩ ⟨hfb, hpre⟩ rfl (by rw [List.length_map]; exact hn) hl9.1 rfl (lv_room hcat') d ⟨by omega, by omega⟩
/-- what a throw asks of the tables -/
def zth (K : zY) (ik is ic ex : Nat) : Prop := zL (.classLink K.1.cls ik (zex ex)) ∧ zL (.initialized (zex ex)) ∧ (∃ text, (K.1.cls, is, text) ∈ zsm) ∧ (∀ w ∈ vx_atS K.1.cls ic (zex ex) ["java/lang/RuntimeException", "java/lang/Exception"], zL w) ∧ Bundle.fit (zex ex) = true ∧ (∀ w ∈ Cond.classLink K.1.cls ik (zex ex) :: Cond.initialized (zex ex) :: vx_atS K.1.cls ic (zex ex) ["java/lang/RuntimeException", "java/lang/Exception"], vx_ot w = true)
theorem r_throw {ik is ic ex : Nat} (hl0 : g.2.2.2.1.stackTraces = false) (hh : K.2.2.2.2 = []) (ht : zth K ik is ic ex) (d0 : decode K.2.1 pc = .ok (.new ik, 3)) (d3 : decode K.2.1 (pc + 3) = .ok (.dup, 1)) (d4 : decode K.2.1 (pc + 4) = .ok (.ldc is, 2)) (d6 : decode K.2.1 (pc + 6) = .ok (.invokespecial ic, 3)) (d9 : decode K.2.1 (pc + 9) = .ok (.athrow, 1)) (hR : 5 < R.frames) (hR2 : (S.map fun v => if v.1 == 1 || v.1 == 3 then 2 else 1).sum + 82 ≤ R.locals) (hc : 1 ≤ C) (hd : 6 ≤ D) (h : zo (some (.inr ex, σ)) Q) : zw g K R pc L S σ C D Q := by
  intro p e s m args below meth c H locs cells slots ls hC hl hL hS hW hV h1 h2
  obtain ⟨r, e0, hq⟩ := h
  cases e0
  obtain ⟨t1, t2, ⟨text, t3⟩, t4, t5, t6⟩ := ht
  have hQ := hC.2.2.2.2.2.2.1
  obtain ⟨sa, hsa⟩ := hQ.2.2.2.2.2.2.2.1 _ t3
  refine vx_throwS hC.1 hC.2.1 hl0 hC.2.2.2.2.2.1 t5 (fun n hn => ?_) (hQ.2.2.1 _ t1 _) (hQ.2.2.1 _ t2 _) hsa (fun w hw => hQ.2.2.1 _ (t4 w hw) _) t6 hQ.2.2.2.2.2.2.2.2.1 hQ.2.2.2.2.2.2.2.2.2 hV (hl.1.trans hC.2.2.1.symm) d0 d3 d4 d6 d9 (by rw [hC.2.2.2.2.2.2.2.2, hh]; intro x hx; cases hx) hR ?_ (by omega) (by omega) hC.2.2.2.2.1 (fun t hvm hz hk9 => ?_) (fun z hz => hV.2.2 z hz) (by omega) (by omega)
  · rcases List.mem_cons.mp hn with e | e
    · rw [e]; decide +kernel
    · cases List.mem_singleton.mp e; decide +kernel
  · refine Nat.le_trans (Nat.le_of_eq ?_) hR2
    show _ + 82 = _ + 82
    congr 1
    rw [List.map_map]
    congr 1
    apply List.map_congr_left
    intro v _
    have h := zcat g v
    show (zv g v).category = _
    rcases lv_cat (zv g v) with e | e <;> rw [e] at h ⊢
    · rw [if_neg]; rw [← h]; decide
    · rw [if_pos]; rw [← h]; rfl
  · refine ⟨ex, σ, t.heap.size, hq, rfl, ?_, ?_, ?_, ?_⟩
    · rw [← hW.2.2.1]; omega
    · refine ⟨fun a k hk => ⟨(hW.1 a k hk).1, zat_keep (hW.1 a k hk).2 (hk9 _ (zat_lt (hW.1 a k hk).2)) (fun _ => rfl) (fun _ => rfl)⟩, hW.2.1, rfl, Nat.le_trans hW.2.2.2 hz⟩
    · exact Nat.le_trans hV.1 hz
    · intro q h1' h2'
      rw [hk9 q (Nat.lt_of_lt_of_le h1' hV.1)]
      exact hV.2.1 q h1' h2'
theorem r_throwW {ik is ic ex : Nat} (hl0 : g.2.2.2.1.stackTraces = false) (hh : K.2.2.2.2 = []) (ht : zth K ik is ic ex) (d0 : decode K.2.1 pc = .ok (.new ik, 3)) (d3 : decode K.2.1 (pc + 3) = .ok (.dup, 1)) (d4 : decode K.2.1 (pc + 4) = .ok (.ldc_w is, 3)) (d6 : decode K.2.1 (pc + 7) = .ok (.invokespecial ic, 3)) (d9 : decode K.2.1 (pc + 10) = .ok (.athrow, 1)) (hR : 5 < R.frames) (hR2 : (S.map fun v => if v.1 == 1 || v.1 == 3 then 2 else 1).sum + 82 ≤ R.locals) (hc : 1 ≤ C) (hd : 6 ≤ D) (h : zo (some (.inr ex, σ)) Q) : zw g K R pc L S σ C D Q := by
  intro p e s m args below meth c H locs cells slots ls hC hl hL hS hW hV h1 h2
  obtain ⟨r, e0, hq⟩ := h
  cases e0
  obtain ⟨t1, t2, ⟨text, t3⟩, t4, t5, t6⟩ := ht
  have hQ := hC.2.2.2.2.2.2.1
  obtain ⟨sa, hsa⟩ := hQ.2.2.2.2.2.2.2.1 _ t3
  refine vx_throwSW hC.1 hC.2.1 hl0 hC.2.2.2.2.2.1 t5 (fun n hn => ?_) (hQ.2.2.1 _ t1 _) (hQ.2.2.1 _ t2 _) hsa (fun w hw => hQ.2.2.1 _ (t4 w hw) _) t6 hQ.2.2.2.2.2.2.2.2.1 hQ.2.2.2.2.2.2.2.2.2 hV (hl.1.trans hC.2.2.1.symm) d0 d3 d4 d6 d9 (by rw [hC.2.2.2.2.2.2.2.2, hh]; intro x hx; cases hx) hR ?_ (by omega) (by omega) hC.2.2.2.2.1 (fun t hvm hz hk9 => ?_) (fun z hz => hV.2.2 z hz) (by omega) (by omega)
  · rcases List.mem_cons.mp hn with e | e
    · rw [e]; decide +kernel
    · cases List.mem_singleton.mp e; decide +kernel
  · refine Nat.le_trans (Nat.le_of_eq ?_) hR2
    show _ + 82 = _ + 82
    congr 1
    rw [List.map_map]
    congr 1
    apply List.map_congr_left
    intro v _
    have h := zcat g v
    show (zv g v).category = _
    rcases lv_cat (zv g v) with e | e <;> rw [e] at h ⊢
    · rw [if_neg]; rw [← h]; decide
    · rw [if_pos]; rw [← h]; rfl
  · refine ⟨ex, σ, t.heap.size, hq, rfl, ?_, ?_, ?_, ?_⟩
    · rw [← hW.2.2.1]; omega
    · refine ⟨fun a k hk => ⟨(hW.1 a k hk).1, zat_keep (hW.1 a k hk).2 (hk9 _ (zat_lt (hW.1 a k hk).2)) (fun _ => rfl) (fun _ => rfl)⟩, hW.2.1, rfl, Nat.le_trans hW.2.2.2 hz⟩
    · exact Nat.le_trans hV.1 hz
    · intro q h1' h2'
      rw [hk9 q (Nat.lt_of_lt_of_le h1' hV.1)]
      exact hV.2.1 q h1' h2'
end ZR3
