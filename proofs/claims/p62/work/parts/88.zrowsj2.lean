/-! ROWS J2 -/
section ZRK
variable {g : zF} {K : zY} {R : Room} {L : List (Nat × zV)} {S : List zV} {σ : zS} {C D : Nat} {Q : zR × zS → Prop} {pc : Nat}
theorem r_acopyS {idx : Nat} {j sp a dp n : Int} {F : zS → zFn} (hw : zL (.methodLink K.1.cls idx arraycopyName) ∧ zL (.native arraycopyName) ∧ zL (.static arraycopyName) ∧ zL (.initialized "java/lang/System")) (hR : 1 ≤ R.frames ∧ (S.map fun v => if v.1 == 1 || v.1 == 3 then 2 else 1).sum + (nativeFrameWords "java/lang/System" "arraycopy" 5 + 11) ≤ R.locals) (d : decode K.2.1 pc = .ok (.invokestatic idx, 3)) (h : zo (zacS j sp a dp n σ F) Q) (kk : ∀ τ, zo (F τ) Q → zw g K R (pc + 3) L S τ C D Q) : zw g K R pc L ((0, n) :: (0, dp) :: (4, a) :: (0, sp) :: (6, 100 + j) :: S) σ C D Q := by
  intro p e s m args below meth c H locs cells slots ls hC hl hL hS hW hV h1 h2
  obtain ⟨hin, h⟩ := zite_o h
  obtain ⟨j0, j1, n1, hk1, p1, p2, p3, p4, p5⟩ := hin
  obtain ⟨jn, rfl⟩ := Int.eq_ofNat_of_zero_le j0
  have p4 : sp + n ≤ ((zsb jn).length : Int) := p4
  have hQ := hC.2.2.2.2.2.2.1
  obtain ⟨e1', e2', e3', e4', e5'⟩ := z_words_all jn (by omega)
  obtain ⟨scr, c1, c2, c3, c4, c5, c6, c7⟩ := (hQ.2.2.2.2.2.2.1.1 jn (by omega)).2.2.2
  rw [e1'] at c4 c6
  have hc0 : H[g.2.2.2.2.2 (100 + jn)]? = some scr := by rw [hV.2.1 _ (Array.getElem?_eq_some_iff.mp c1).1 c7]; exact c1
  obtain ⟨gb1, -, ⟨m2, m3⟩, hc1⟩ := hW.1 a _ hk1
  have hzn : zI n := zS_1 hS
  have hzd : zI dp := zS_1 (zS_t hS)
  have hzs : zI sp := zS_1 (zS_t (zS_t (zS_t hS)))
  have e0 : zv g (4, a) = .ref a.toNat := z_ref (by omega)
  have e1 : zv g (6, 100 + (jn : Int)) = .ref (g.2.2.2.2.2 (100 + jn)) := by show Value.ref (g.2.2.2.2.2 (100 + (jn : Int)).toNat) = _; rw [show (100 + (jn : Int)).toNat = 100 + jn by omega]
  have tn : ∀ z : Int, zI z → 0 ≤ z → (Int32.ofInt z).toNatClampNeg = z.toNat ∧ ¬ Int32.ofInt z < 0 := fun z hz z0 => ⟨by unfold zI at hz; exact Int32.toNatClampNeg_ofInt_of_le (by omega) (by omega), fun q => by have := (z_lt hz zI_0).mp q; omega⟩
  obtain ⟨tn1, tn2⟩ := tn n hzn p3
  obtain ⟨td1, td2⟩ := tn dp hzd p2
  obtain ⟨ts1, ts2⟩ := tn sp hzs p1
  obtain ⟨cs6, k0, hkk0, cm0, hkd0⟩ := c2
  obtain ⟨-, k1, hkk1, cm1, hkd1⟩ := (hQ.2.1 2 (by decide) (by decide)).1 n1.toNat (fun j => zv g (ze σ a 0 j))
  rw [List.map_cons, List.map_cons, List.map_cons, List.map_cons, List.map_cons, e0, e1]
  have hcs : ((S.map (zv g)).map fun v => v.category).sum + (nativeFrameWords "java/lang/System" "arraycopy" 5 + 11) ≤ R.locals := by
    refine Nat.le_trans (Nat.le_of_eq ?_) hR.2
    congr 1
    rw [List.map_map]
    congr 1
    apply List.map_congr_left
    intro v _
    have h := zcat g v
    show (zv g v).category = _
    rcases lv_cat (zv g v) with e | e <;> rw [e] at h ⊢
    · rw [if_neg]; rw [← h]; decide
    · rw [if_pos]; rw [← h]; rfl
  intro T hT X
  have zl : zlen jn = ((zsb jn).length : Int) := rfl
  obtain ⟨vm', X', step⟩ := X.arraycopy hC.1 hC.2.2.2.2.2.1 (hQ.2.2.1 _ hw.1 _) (hQ.2.2.1 _ hw.2.1 _) (hQ.2.2.1 _ hw.2.2.1 _) (hQ.2.2.1 _ hw.2.2.2 _) (src := g.2.2.2.2.2 (100 + jn)) (dst := a.toNat) (cs := scr) (cd := arrV (g.2.1 2) n1.toNat (fun j => zv g (ze σ a 0 j))) (srcPos := Int32.ofInt sp) (destPos := Int32.ofInt dp) (n := Int32.ofInt n) (by rw [hT]; exact hc0) (by rw [hT]; exact hc1)
    cs6 (fun _ h => by cases h) c3 (fun h => by cases h) hkk0 hkk1 hkd0 hkd1 (by decide) ts2 td2 tn2
    (by rw [z_to hzs, z_to hzn]; omega)
    (by rw [z_to hzd, z_to hzn, arrV_size]; omega)
    (fun vm₁ _ i hi => by
      rw [tn1] at hi
      have e : scr.slots.getD ((Int32.ofInt sp).toNatClampNeg + i) .null = .int (Int32.ofInt (zbyt jn ((sp.toNat + i : Nat) : Int))) := by
        rw [ts1, Array.getD_eq_getD_getElem?, c6 _ (by omega), e2']
        show Value.int _ = _
        congr 1
        unfold zbyt
        rw [z_back, Int.toNat_natCast]
      have hb := e5' (sp.toNat + i) (by omega)
      refine ⟨?_, ?_⟩
      · rw [e]; exact z_fitB (by omega)
      · rw [e]
        exact trivial)
    (g := F0 m pc ls (.int (Int32.ofInt n) :: .int (Int32.ofInt dp) :: .ref a.toNat :: .int (Int32.ofInt sp) :: .ref (g.2.2.2.2.2 (100 + jn)) :: S.map (zv g))) rfl (by rw [hC.2.2.1]; exact hl.1) (rest := S.map (zv g)) rfl (by rw [hC.2.1]; exact d) hR.1 (by show 2 * 0 + _ + _ ≤ _; omega)
  have e9 : copied scr (arrV (g.2.1 2) n1.toNat (fun j => zv g (ze σ a 0 j))) (Int32.ofInt sp) (Int32.ofInt dp) (Int32.ofInt n) = arrV (g.2.1 2) n1.toNat (fun j => zv g (ze (σ.1, zcpS σ.2 (jn : Int) sp a dp n) a 0 j)) := by
    have h9 := va_copiedX (fun z : Value => z) scr (g.2.1 2) (n0 := (zsb jn).length) (n1 := n1.toNat) (sp := sp.toNat) (dp := dp.toNat) (n := n.toNat) (fun j => .int ((zsb jn).getD j 0)) (fun j => zv g (ze σ a 0 j)) (fun k hk => by rw [c6 k hk, e2']) (by omega)
    unfold copied
    rw [ts1, td1, tn1]
    refine h9.trans ?_
    congr 1
    funext j
    unfold va_cpy
    show (if dp.toNat ≤ j ∧ j < dp.toNat + n.toNat then Value.int ((zsb jn).getD (sp.toNat + (j - dp.toNat)) 0) else zv g (0, σ.2 a j)) = zv g (0, zcpS σ.2 (jn : Int) sp a dp n a j)
    unfold zcpS
    by_cases hj : dp.toNat ≤ j ∧ j < dp.toNat + n.toNat
    · rw [if_pos hj, if_pos ⟨rfl, by omega, by omega⟩, Int.toNat_natCast]
      show _ = Value.int (Int32.ofInt (zbyt jn _))
      unfold zbyt
      rw [z_back, show (sp + ((j : Int) - dp)).toNat = sp.toNat + (j - dp.toNat) by omega]
    · rw [if_neg hj, if_neg (fun z => hj ⟨by omega, by omega⟩)]
  rw [e9] at X' step
  have hlt : a.toNat < H.size := (Array.getElem?_eq_some_iff.mp hc1).1
  obtain ⟨H', hH'⟩ : ∃ H' : Heap, H' = H.setIfInBounds a.toNat (arrV (g.2.1 2) n1.toNat (fun j => zv g (ze (σ.1, zcpS σ.2 (jn : Int) sp a dp n) a 0 j))) := ⟨_, rfl⟩
  have q1 : H'.size = H.size := by rw [hH']; simp
  have q2 : ∀ q : Nat, q ≠ a.toNat → H'[q]? = H[q]? := fun q hq => by rw [hH']; simp [Array.getElem?_setIfInBounds, Ne.symm hq]
  have q3 : H'[a.toNat]? = some (arrV (g.2.1 2) n1.toNat (fun j => zv g (ze (σ.1, zcpS σ.2 (jn : Int) sp a dp n) a 0 j))) := by rw [hH']; simp [Array.getElem?_setIfInBounds, hlt]
  have hN : zNM (σ.1, zcpS σ.2 (jn : Int) sp a dp n) := by
    intro b j hb
    show zI (zcpS σ.2 (jn : Int) sp a dp n b j)
    unfold zcpS
    split
    · exact z_in _
    · exact hW.2.1 b j hb
  have hW' : zW g (σ.1, zcpS σ.2 (jn : Int) sp a dp n) H' := zW_put hW hk1 q1 q2 rfl rfl (fun b j hb => rfl) (fun b j hb => by show zcpS _ _ _ _ _ _ _ _ = _; unfold zcpS; rw [if_neg (fun z => hb z.1)]) ⟨by decide, ⟨m2, m3⟩, q3⟩ hN
  have hT' : ((T.setVm vm').setCell a.toNat (arrV (g.2.1 2) n1.toNat (fun j => zv g (ze (σ.1, zcpS σ.2 (jn : Int) sp a dp n) a 0 j)))).heap = H' := by rw [hH', ← hT]; rfl
  obtain ⟨t, a1, b1⟩ := kk _ h p e s m args below meth c H' _ cells slots ls hC hl hL (zS_t (zS_t (zS_t (zS_t (zS_t hS))))) hW' ⟨by rw [q1]; exact hV.1, fun q g1 g2 => (q2 q (fun e => g2 (by show g.2.2.1 ≤ q; omega))).trans (hV.2.1 q g1 g2), fun q hq => (List.mem_append.mp hq).elim (fun h => hV.2.2 q h) (fun h => by obtain ⟨z, -, hz⟩ := List.mem_map.mp h; rw [← hz]; show g.2.2.1 ≤ a.toNat; omega)⟩ h1 h2 _ hT' X'
  exact ⟨t, step t a1, b1⟩
end ZRK
/-- a copy of the byte array at a -/
theorem zcl_o {N : Nat} {a : Int} {σ : zS} {F : Int → zS → zFn} {Q : zR × zS → Prop} (h : zo (zcl N a σ F) Q) : ∃ n : Int, σ.1.1 a = some (2, n) ∧ n ≤ (N : Int) ∧ zyB σ a 0 n ∧ zo (F σ.1.2.2 (zmkc σ a n)) Q := by
  unfold zcl at h
  split at h
  · rename_i k hk
    obtain ⟨⟨h1, h2, h3⟩, h⟩ := zite_o h
    obtain ⟨k1, k2⟩ := k
    have h1 : k1 = 2 := h1
    subst h1
    exact ⟨k2, hk, h2, h3, h⟩
  · obtain ⟨r, h, -⟩ := h; cases h
def zk_cl (own : String) (idx : Nat) : Prop := zL (.methodLink own idx ⟨"[B", "clone", "()Ljava/lang/Object;"⟩) ∧ zL (.sameMethod "[B" "java/lang/Object" "clone" "()Ljava/lang/Object;") ∧ zL (.native ⟨"java/lang/Object", "clone", "()Ljava/lang/Object;"⟩) ∧ zL (.instanceMethod ⟨"java/lang/Object", "clone", "()Ljava/lang/Object;"⟩) ∧ zL (.selects "[B" ⟨"[B", "clone", "()Ljava/lang/Object;"⟩ ⟨"java/lang/Object", "clone", "()Ljava/lang/Object;"⟩) ∧ zL (.castable "[B" "java/lang/Cloneable")
section ZRL
variable {g : zF} {K : zY} {R : Room} {L : List (Nat × zV)} {S : List zV} {σ : zS} {C D : Nat} {Q : zR × zS → Prop} {pc : Nat}
theorem r_clone {idx N : Nat} {a : Int} {F : Int → zS → zFn} {C' D' : Nat} (hw : zk_cl K.1.cls idx) (hR : 1 ≤ R.frames ∧ (S.map fun v => if v.1 == 1 || v.1 == 3 then 2 else 1).sum + 14 ≤ R.locals) (d : decode K.2.1 pc = .ok (.invokevirtual idx, 3)) (hN : N < 1000000) (hC' : C' + 1 ≤ C) (hD' : D' + N ≤ D) (h : zo (zcl N a σ F) Q) (kk : ∀ x τ, zo (F x τ) Q → zw g K R (pc + 3) L ((4, x) :: S) τ C' D' Q) : zw g K R pc L ((4, a) :: S) σ C D Q := by
  intro p e s m args below meth c H locs cells slots ls hC hl hL hS hW hV h1 h2
  obtain ⟨n, hk, hn, hb, h⟩ := zcl_o h
  obtain ⟨w1, w2, w3, w4, w5, w6⟩ := hw
  have hQ := hC.2.2.2.2.2.2.1
  obtain ⟨gb, -, ⟨n0, n1⟩, hc⟩ := hW.1 a _ hk
  have hA2 := hQ.2.1 2 (by decide) (by decide)
  have hnm : s.vm.findClass "[B" = some (g.2.1 2) := hA2.2
  obtain ⟨c0, t0', f1, f2, f3⟩ := Cond.castable_spec (hQ.2.2.1 _ w6 args)
  cases hnm.symm.trans f1
  have e0 : zv g (4, a) = .ref a.toNat := z_ref (by omega)
  have hx : zv g (4, σ.1.2.2) = .ref H.size := by rw [← hW.2.2.1]; exact z_ref (by omega)
  have hcs : ((S.map (zv g)).map fun v => v.category).sum + 14 ≤ R.locals := by
    refine Nat.le_trans (Nat.le_of_eq ?_) hR.2
    congr 1
    rw [List.map_map]
    congr 1
    apply List.map_congr_left
    intro v _
    have h := zcat g v
    show (zv g v).category = _
    rcases lv_cat (zv g v) with e | e <;> rw [e] at h ⊢
    · rw [if_neg]; rw [← h]; decide
    · rw [if_pos]; rw [← h]; rfl
  rw [List.map_cons, e0]
  intro T hT X
  have hcT : T.heap[a.toNat]? = some (arrV (g.2.1 2) n.toNat (fun j => zv g (ze σ a 0 j))) := by rw [hT]; exact hc
  obtain ⟨-, kA, hkA, comp, hkind⟩ := State.isArrayOf_alike X.warmed.alike (hA2.1 0 (fun _ => .null))
  obtain ⟨-, kS, hkS, compS, hkindS⟩ := hA2.1 0 (fun _ => .null)
  obtain ⟨vm', X', st⟩ := X.cloneArray hC.1 hC.2.2.2.2.2.1 (hQ.2.2.1 _ w1 _) (hQ.2.2.1 _ w2 _) (hQ.2.2.1 _ w3 _) (hQ.2.2.1 _ w4 _) (hQ.2.2.1 _ w5 _) (a := a.toNat) (cell := arrV (g.2.1 2) n.toNat (fun j => zv g (ze σ a 0 j))) hcT (fun k h => by cases h) (fun h => by cases h) hnm f2 f3
    (fun i v hv => by
      have hk' : T.vm.classes[(g.2.1 2)]? = some kA := hkA
      have hfit : fits (zty 2) v = true := va_fit (ty := .byte) (fun i hi => z_fitB (hb (i : Int) (by omega) (by omega))) i v hv
      simpa [State.fitsSlot, State.slotType?, arrV, hk', hkind] using hfit)
    (g := F0 m pc ls (.ref a.toNat :: S.map (zv g))) rfl (by rw [hC.2.2.1]; exact hl.1) rfl (by rw [hC.2.1]; exact d) hR.1 (by show 2 * 0 + _ + 14 ≤ _; omega) (by omega) (by rw [arrV_size]; omega) (hloader := Vm.clonesLoader_of_array hkS hkindS)
  rw [arrV_size] at X'
  have z1 : (H.push (arrV (g.2.1 2) n.toNat (fun j => zv g (ze σ a 0 j)))).size = H.size + 1 := by rw [Array.size_push]
  have o1 : ∀ q : Nat, q < H.size → (H.push (arrV (g.2.1 2) n.toNat (fun j => zv g (ze σ a 0 j))))[q]? = H[q]? := fun q hq => by rw [Array.getElem?_push, if_neg (Nat.ne_of_lt hq)]
  have hW' : zW g (zmkc σ a n) (H.push (arrV (g.2.1 2) n.toNat (fun j => zv g (ze σ a 0 j)))) := by
    obtain ⟨u1, u2, u3, u4⟩ := hW
    refine ⟨fun b k hbk => ?_, fun b j hbj => ?_, by show ((H.push _).size : Int) = σ.1.2.2 + 1; rw [z1, ← u3]; rfl, by rw [z1]; omega⟩
    · by_cases e : b = σ.1.2.2
      · have hbk' : (if b = σ.1.2.2 then some ((2, n) : zK) else σ.1.1 b) = some k := hbk
        rw [if_pos e] at hbk'
        cases Option.some.inj hbk'
        rw [e, ← u3]
        refine ⟨by omega, by decide, ⟨n0, n1⟩, ?_⟩
        show (H.push _)[((H.size : Nat) : Int).toNat]? = _
        rw [Int.toNat_natCast, Array.getElem?_push_size]
        congr 2
        funext j
        show zv g (0, σ.2 a j) = zv g (0, if ((H.size : Nat) : Int) = σ.1.2.2 then σ.2 a j else σ.2 _ j)
        rw [if_pos u3]
      · have hbk' : (if b = σ.1.2.2 then some ((2, n) : zK) else σ.1.1 b) = some k := hbk
        rw [if_neg e] at hbk'
        obtain ⟨g1, g2⟩ := u1 b k hbk'
        refine ⟨g1, zat_keep g2 (o1 _ (zat_lt g2)) (fun j => ?_) (fun j => ?_)⟩
        · show (if b = σ.1.2.2 then -1 else σ.1.2.1 b j) = _; rw [if_neg e]
        · show (if b = σ.1.2.2 then σ.2 a j else σ.2 b j) = _; rw [if_neg e]
    · show zI (if b = σ.1.2.2 then σ.2 a j else σ.2 b j)
      split
      · exact u2 a j (fun z => by rw [hk]; intro h; cases h)
      · rename_i hne
        refine u2 b j (fun z hz => hbj z ?_)
        show (if b = σ.1.2.2 then some ((2, n) : zK) else σ.1.1 b) = _
        rw [if_neg hne]; exact hz
  have kk := kk σ.1.2.2 (zmkc σ a n) h p e s m args below meth c _ locs (cells + 1) (slots + n.toNat) ls hC hl hL (zS_c (by trivial) (zS_t hS)) hW' (zV_new hV z1 o1) (by omega) (by omega)
  rw [List.map_cons, hx] at kk
  have hTT : ((T.setVm vm').pushCell (arrV (g.2.1 2) n.toNat (fun j => zv g (ze σ a 0 j)))).heap = H.push (arrV (g.2.1 2) n.toNat (fun j => zv g (ze σ a 0 j))) := by rw [← hT]; rfl
  obtain ⟨t, b1, b2⟩ := kk _ hTT X'
  refine ⟨t, st t ?_, b2⟩
  rw [hT]
  exact b1
theorem r_castB {idx : Nat} {a : Int} {A : zFn} (hw : zL (.classLink K.1.cls idx "[B")) (d : decode K.2.1 pc = .ok (.checkcast idx, 3)) (h : zo (zal a σ fun _ => A) Q) (ht : ∃ n, σ.1.1 a = some (2, n)) (kk : zo A Q → zw g K R (pc + 3) L ((4, a) :: S) σ C D Q) : zw g K R pc L ((4, a) :: S) σ C D Q := by
  intro p e s m args below meth c H locs cells slots ls hC hl hL hS hW hV h1 h2
  obtain ⟨n, hk⟩ := ht
  have h : zo A Q := by
    unfold zal at h
    rw [hk] at h
    exact h
  have hQ := hC.2.2.2.2.2.2.1
  obtain ⟨gb, -, ⟨n0, n1⟩, hc⟩ := hW.1 a _ hk
  have hnm : s.vm.findClass "[B" = some (g.2.1 2) := (hQ.2.1 2 (by decide) (by decide)).2
  have e0 : zv g (4, a) = .ref a.toNat := z_ref (by omega)
  have kk := kk h p e s m args below meth c H locs cells slots ls hC hl hL hS hW hV h1 h2
  rw [List.map_cons, e0] at kk ⊢
  intro T hT X
  obtain ⟨vm', X', st⟩ := X.checkcastYes hC.1 hC.2.2.2.2.2.1 (hQ.2.2.1 _ hw _) (by rw [hT]; exact hc) rfl hnm (va_asg _ _) (g := F0 m pc ls (.ref a.toNat :: S.map (zv g))) rfl rfl (by rw [hC.2.1]; exact d)
  obtain ⟨t, a1, b1⟩ := kk (T.setVm vm') hT X'
  exact ⟨t, st t a1, b1⟩
end ZRL
/-! digits -/
section ZRM
variable {g : zF} {K : zY} {R : Room} {L : List (Nat × zV)} {S : List zV} {σ : zS} {C D : Nat} {Q : zR × zS → Prop} {pc : Nat}
theorem r_getsD {idx k : Nat} (hk : 3 ≤ k ∧ k < 5) (hw : zL (.fieldLink K.1.cls idx "java/lang/Integer" (zsn k) "[B")) (d : decode K.2.1 pc = .ok (.getstatic idx, 3)) (kk : zw g K R (pc + 3) L ((5, (k : Int)) :: S) σ C D Q) : zw g K R pc L S σ C D Q := by
  intro p e s m args below meth c H locs cells slots ls hC hl hL hS hW hV h1 h2
  have hQ := hC.2.2.2.2.2.2.1
  have kk := kk p e s m args below meth c H locs cells slots ls hC hl hL (zS_c (by trivial) hS) hW hV h1 h2
  exact va_gets hC.1 hC.2.1 (hQ.2.2.2.2.1.2.2.2 k hk.1 hk.2).1 hV hC.2.2.2.2.2.1 (hQ.2.2.1 _ hw _) (fun x h => h) d kk
theorem zdg_I {k : Nat} {i : Int} (h : 0 ≤ i ∧ i < 100) : zI (zdg1 k i) := by
  unfold zI zdg1
  split <;> omega
theorem r_baldD {k : Nat} {i : Int} {F : Int → zFn} (hk : 3 ≤ k ∧ k < 5) (d : decode K.2.1 pc = .ok (.baload, 1)) (h : zo (zsd k i F) Q) (kk : ∀ x, zo (F x) Q → zw g K R (pc + 1) L ((0, x) :: S) σ C D Q) : zw g K R pc L ((0, i) :: (5, (k : Int)) :: S) σ C D Q := by
  intro p e s m args below meth c H locs cells slots ls hC hl hL hS hW hV h1 h2
  obtain ⟨⟨i0, i1⟩, h⟩ := zite_o h
  have hQ := hC.2.2.2.2.2.2.1
  have hi : zI i := zS_1 hS
  obtain ⟨hv, ev⟩ := zvp (a := 0) (N := 100) i0 (by omega) hi
  obtain ⟨cell, c1, c2, c3, c4, c5, c6, c7⟩ := (hQ.2.2.2.2.1.2.2.2 k hk.1 hk.2).2
  have kk0 := kk (zdg1 k i) h p e s m args below meth c H locs cells slots ls hC hl hL (zS_c (zdg_I ⟨i0, i1⟩) (zS_t (zS_t hS))) hW hV h1 h2
  have hslot : cell.slots[i.toNat]? = some (.int (Int32.ofInt (zdg1 k i))) := by
    have := c6 i.toNat (by omega)
    rw [this]
    show some (Value.int (Int32.ofInt (zdg1 k ((i.toNat : Nat) : Int)))) = _
    rw [Int.toNat_of_nonneg i0]
  refine W.bald (v := .int (Int32.ofInt (zdg1 k i))) hC.1 hC.2.1 (by show H[g.2.2.2.2.1 k]? = _; rw [hV.2.1 _ (Array.getElem?_eq_some_iff.mp c1).1 c7]; exact c1) c2 c3 (fun q => ?_) (by rw [ev]; exact hslot) rfl rfl d kk0
  rcases q with q | q
  · exact hv (Or.inl q)
  · exact hv (Or.inr (Nat.le_trans c4 q))
/-- fields of a constant text, and its bytes' length -/
theorem r_sgetvJ {j : Int} {idx : Nat} {A : zFn} (hw : zL (.fieldLink K.1.cls idx "java/lang/String" "value" "[B")) (d : decode K.2.1 pc = .ok (.getfield idx, 3)) (h : zo (if 0 ≤ j ∧ j < 25 then A else none) Q) (kk : zo A Q → zw g K R (pc + 3) L ((6, 100 + j) :: S) σ C D Q) : zw g K R pc L ((6, j) :: S) σ C D Q := by
  obtain ⟨⟨j0, j1⟩, h9⟩ := zite_o h
  clear h
  obtain ⟨n, rfl⟩ := Int.eq_ofNat_of_zero_le j0
  have h := h9
  refine r_sgetv (by omega) hw d ?_
  have kk := kk h
  rw [show (100 + (n : Int)) = ((100 + n : Nat) : Int) by omega] at kk
  exact kk
theorem r_sblenJ {j : Int} {A : zFn} (d : decode K.2.1 pc = .ok (.arraylength, 1)) (h : zo (if 0 ≤ j ∧ j < 25 then A else none) Q) (kk : zo A Q → zw g K R (pc + 1) L ((0, zlen j.toNat) :: S) σ C D Q) : zw g K R pc L ((6, 100 + j) :: S) σ C D Q := by
  obtain ⟨⟨j0, j1⟩, h9⟩ := zite_o h
  clear h
  obtain ⟨n, rfl⟩ := Int.eq_ofNat_of_zero_le j0
  have h := h9
  rw [show (100 + (n : Int)) = ((100 + n : Nat) : Int) by omega]
  exact r_sblen (by omega) d (kk h)
end ZRM
/-- calls of the JDK's members on constant texts -/
def zkck (own : String) (idx : Nat) : Prop := zL (.methodLink own idx yJ0_checkIndex_df160) ∧ zL (.static yJ0_checkIndex_df160)
def zsc (own : String) (idx : Nat) : Prop := zL (.methodLink own idx yJ0_coder_7d493)
theorem zscr_I (g : zF) (j : Nat) : zI (zscr g j) := ⟨Int32.le_toInt _, Int32.toInt_lt _⟩
section ZRN
variable {g : zF} {K : zY} {R : Room} {L : List (Nat × zV)} {S : List zV} {σ : zS} {C D : Nat} {Q : zR × zS → Prop} {pc : Nat}
theorem r_castC {idx : Nat} {a : Int} {A : zFn} (hw : zL (.classLink K.1.cls idx "[B")) (d : decode K.2.1 pc = .ok (.checkcast idx, 3)) (h : zo (zcb a σ A) Q) (kk : zo A Q → zw g K R (pc + 3) L ((4, a) :: S) σ C D Q) : zw g K R pc L ((4, a) :: S) σ C D Q := by
  unfold zcb at h
  split at h
  · rename_i k hk
    obtain ⟨h1, h⟩ := zite_o h
    obtain ⟨k1, k2⟩ := k
    have h1 : k1 = 2 := h1
    subst h1
    refine r_castB (A := A) hw d ?_ ⟨k2, hk⟩ kk
    unfold zal
    rw [hk]
    exact h
  · obtain ⟨r, h, -⟩ := h; cases h
theorem r_ifnn6 {j off : Int} (tgt : Nat) (d : decode K.2.1 pc = .ok (.ifnonnull off, 3)) (ht : (pc : Int) + off = (tgt : Int)) (kt : zw g K R tgt L S σ C D Q) : zw g K R pc L ((6, j) :: S) σ C D Q := by
  intro p e s m args below meth c H locs cells slots ls hC hl hL hS hW hV h1 h2
  have e0 : zv g (6, j) = .ref (g.2.2.2.2.2 j.toNat) := rfl
  rw [List.map_cons, e0]
  exact lv_ifnonnull hC.1 hC.2.1 d ht (kt p e s m args below meth c H locs cells slots ls hC hl hL (zS_t hS) hW hV h1 h2)
theorem r_ckJ {idx : Nat} {i n : Int} {A : zFn} (hw : zkck K.1.cls idx) (hh : K.2.2.2.2 = []) (hR : 2 ≤ R.frames ∧ 60 ≤ R.locals) (hcat : ((S.map fun v => if v.1 == 1 || v.1 == 3 then 2 else 1).sum) ≤ 8) (d : decode K.2.1 pc = .ok (.invokestatic idx, 3)) (h : zo (if 0 ≤ i ∧ i < n then A else none) Q) (kk : zo A Q → zw g K R (pc + 3) L S σ C D Q) : zw g K R pc L ((0, n) :: (0, i) :: S) σ C D Q := by
  obtain ⟨h0, h⟩ := zite_o h
  refine r_callS (K' := Y_cki) (R' := R_cki) (idx := idx) (n := 2) (as := [(0, i), (0, n)]) (rest := S) (C' := C) (D' := D) (F := some (.inl 0, σ)) (k := fun x τ => A) hh k0_cki hw.2 (Or.inl hw.1) ⟨hR.1, by show 8 + (2 + 11) + 23 ≤ _; omega⟩ d rfl rfl hcat (Nat.le_refl _) (Nat.le_refl _) h (fun r hr => m_cki h0 ⟨r, hr, hr⟩) (fun x τ hx h => ?_)
  cases hx
  exact kk h
theorem r_slenJ {idx : Nat} {j : Int} {A : zFn} (hw : zsl K.1.cls idx) (hh : K.2.2.2.2 = []) (hR : 2 ≤ R.frames ∧ 40 ≤ R.locals) (hcat : ((S.map fun v => if v.1 == 1 || v.1 == 3 then 2 else 1).sum) ≤ 8) (d : decode K.2.1 pc = .ok (.invokevirtual idx, 3)) (h : zo (if 0 ≤ j ∧ j < 25 then A else none) Q) (kk : zo A Q → zw g K R (pc + 3) L ((0, zlen j.toNat) :: S) σ C D Q) : zw g K R pc L ((6, j) :: S) σ C D Q := by
  obtain ⟨⟨j0, j1⟩, h9⟩ := zite_o h
  clear h
  obtain ⟨n, rfl⟩ := Int.eq_ofNat_of_zero_le j0
  have h := h9
  have hj : n < 25 := by omega
  refine r_callT (K' := Y_slen) (R' := R_slen) (idx := idx) (n := 0) (j := n) (as := []) (rest := S) (C' := C) (D' := D) (F := some (.inl (zlen n), σ)) (k := fun x τ => A) hj hh k0_slen kV_slen (Or.inl hw) ⟨hR.1, by show 8 + (1 + 11) + 20 ≤ _; omega⟩ d rfl rfl hcat (Nat.le_refl _) (Nat.le_refl _) rfl h (fun r hr => m_slen hj ⟨r, hr, hr⟩) (fun x τ hx h => ?_)
  cases hx
  exact kk h
theorem r_scodJ {idx : Nat} {j : Int} {A : zFn} (hw : zsc K.1.cls idx) (hh : K.2.2.2.2 = []) (hR : 1 ≤ R.frames ∧ 40 ≤ R.locals) (hcat : ((S.map fun v => if v.1 == 1 || v.1 == 3 then 2 else 1).sum) ≤ 8) (d : decode K.2.1 pc = .ok (.invokevirtual idx, 3)) (h : zo (if 0 ≤ j ∧ j < 25 then A else none) Q) (kk : zo A Q → zw g K R (pc + 3) L ((0, 0) :: S) σ C D Q) : zw g K R pc L ((6, j) :: S) σ C D Q := by
  obtain ⟨⟨j0, j1⟩, h9⟩ := zite_o h
  clear h
  obtain ⟨n, rfl⟩ := Int.eq_ofNat_of_zero_le j0
  have h := h9
  have hj : n < 25 := by omega
  refine r_callT (K' := Y_scod) (R' := R_scod) (idx := idx) (n := 0) (j := n) (as := []) (rest := S) (C' := C) (D' := D) (F := some (.inl 0, σ)) (k := fun x τ => A) hj hh k0_scod kV_scod (Or.inl hw) ⟨hR.1, by show 8 + (1 + 11) + 0 ≤ _; omega⟩ d rfl rfl hcat (Nat.le_refl _) (Nat.le_refl _) rfl h (fun r hr => m_scod hj ⟨r, hr, hr⟩) (fun x τ hx h => ?_)
  cases hx
  exact kk h
theorem r_callTJ {K' : zY} {R' : Room} {idx n : Nat} {j : Int} {as rest : List zV} {F : zFn} {k : Int → zS → zFn} {C' D' : Nat} (hh : K.2.2.2.2 = []) (h0 : zk0 K' n) (hV9 : zkV K') (hl : zkL K.1.cls idx K') (hR : zkR R R' K') (d : decode K.2.1 pc = .ok (.invokevirtual idx, 3)) (hn : as.length = n) (hS' : S = (as.reverse ++ (6, j) :: rest)) (hcat : ((rest.map fun v => if v.1 == 1 || v.1 == 3 then 2 else 1).sum) ≤ 8) (hC' : C' + R'.cells ≤ C) (hD' : D' + R'.slots ≤ D) (hcl : K'.1.cls = "java/lang/String") (h : zo (if 0 ≤ j ∧ j < 25 then zbn F k else none) Q)
    (hm : ∀ r, F = some r → zm g K' R' ((6, j) :: as) σ (fun x => F = some x)) (kk : ∀ v τ, F = some (.inl v, τ) → zo (k v τ) Q → zw g K R (pc + 3) L (zpu K'.2.2.2.1 v rest) τ C' D' Q) : zw g K R pc L S σ C D Q := by
  obtain ⟨⟨j0, j1⟩, h9⟩ := zite_o h
  clear h
  obtain ⟨q, rfl⟩ := Int.eq_ofNat_of_zero_le j0
  have h := h9
  exact r_callT (by omega) hh h0 hV9 hl hR d hn hS' hcat hC' hD' hcl h hm kk
theorem r_scrlen (hL9 : (zsl9 g : Int) < 2147483648) (d : decode K.2.1 pc = .ok (.arraylength, 1)) (kk : zw g K R (pc + 1) L ((0, (zsl9 g : Int)) :: S) σ C D Q) : zw g K R pc L ((6, 200) :: S) σ C D Q := by
  intro p e s m args below meth c H locs cells slots ls hC hl hL hS hW hV h1 h2
  obtain ⟨⟨⟨hb, hX⟩, -⟩, -⟩ := hC.2.2.2.2.2.2.1.2.2.2.2.1.2.2
  have hbl : g.2.2.2.2.2 200 < s.heap.size := by
    obtain ⟨scr, e1, -⟩ := hX
    exact (Array.getElem?_eq_some_iff.mp e1).1
  have kk := kk p e s m args below meth c H locs cells slots ls hC hl hL (zS_c (by show zI _; unfold zI; omega) (zS_t hS)) hW hV h1 h2
  refine va_slen hC.1 hC.2.1 hX hbl (fun h9 => absurd hb (Nat.not_lt.mpr h9)) hV d ?_
  have e9 : zv g (0, (zsl9 g : Int)) = .int (Int32.ofNat (zsl9 g)) := by show Value.int (Int32.ofInt _) = _; rw [Int32.ofInt_eq_ofNat]
  rw [List.map_cons, e9] at kk
  exact kk
theorem r_scrld {i : Int} {F : Int → zFn} (hL9 : (zsl9 g : Int) < 2147483648) (d : decode K.2.1 pc = .ok (.iaload, 1)) (h : zo (if 0 ≤ i ∧ i < (zsl9 g : Int) then F (zscr g i.toNat) else none) Q) (kk : ∀ x, zo (F x) Q → zw g K R (pc + 1) L ((0, x) :: S) σ C D Q) : zw g K R pc L ((0, i) :: (6, 200) :: S) σ C D Q := by
  intro p e s m args below meth c H locs cells slots ls hC hl hL hS hW hV h1 h2
  obtain ⟨⟨i0, i1⟩, h⟩ := zite_o h
  obtain ⟨⟨⟨hb, hX⟩, -⟩, -⟩ := hC.2.2.2.2.2.2.1.2.2.2.2.1.2.2
  have hbl : g.2.2.2.2.2 200 < s.heap.size := by
    obtain ⟨scr, e1, -⟩ := hX
    exact (Array.getElem?_eq_some_iff.mp e1).1
  have kk := kk _ h p e s m args below meth c H locs cells slots ls hC hl hL (zS_c (zscr_I g i.toNat) (zS_t (zS_t hS))) hW hV h1 h2
  have e1 : (Int32.ofInt i).toNatClampNeg = i.toNat := by
    unfold Int32.toNatClampNeg
    rw [Int32.toInt_ofInt_of_le (by omega) (by omega)]
  refine va_sld (i := Int32.ofInt i) hC.1 hC.2.1 hX hbl (fun h9 => absurd hb (Nat.not_lt.mpr h9)) hV ?_ d ?_
  · intro hc
    rcases hc with hc | hc
    · have := Int32.lt_iff_toInt_lt.mp hc
      rw [Int32.toInt_ofInt_of_le (by omega) (by omega)] at this
      have h0 : (0 : Int32).toInt = 0 := rfl
      omega
    · rw [e1] at hc; omega
  · rw [e1]; exact kk
theorem zo_ifp {c : Prop} {d : Decidable c} {A : zFn} {Q : zR × zS → Prop} (hc : c) (h : zo A Q) : zo (@ite _ c d A none) Q := by rw [if_pos hc]; exact h
theorem r_scrlenJ {a : Int} {F : Int → zFn} (d : decode K.2.1 pc = .ok (.arraylength, 1)) (h : zo (zsql g a F) Q) (kk : ∀ x, zo (F x) Q → zw g K R (pc + 1) L ((0, x) :: S) σ C D Q) : zw g K R pc L ((6, a) :: S) σ C D Q := by
  obtain ⟨⟨e, h9⟩, h8⟩ := zite_o h
  clear h
  subst e
  exact r_scrlen h9 d (kk ((zsl9 g : Nat) : Int) h8)
theorem r_scrldJ {a i : Int} {F : Int → zFn} (d : decode K.2.1 pc = .ok (.iaload, 1)) (h : zo (zsq g a i F) Q) (kk : ∀ x, zo (F x) Q → zw g K R (pc + 1) L ((0, x) :: S) σ C D Q) : zw g K R pc L ((0, i) :: (6, a) :: S) σ C D Q := by
  obtain ⟨⟨e, h9, h0⟩, h8⟩ := zite_o h
  clear h
  subst e
  exact r_scrld (F := F) h9 d (zo_ifp h0 h8) kk
end ZRN
