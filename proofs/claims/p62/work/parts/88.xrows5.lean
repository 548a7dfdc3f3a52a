/-! ROWS 5: the JDK's text members over the language's words -/
theorem zat_ok {at_ : List Cond} (h : at_.all (fun w => decide (w ∈ lw_all) && zok w && vx_ot w) = true) : (∀ w ∈ at_, zL w) ∧ ∀ w ∈ at_, vx_ot w = true := by
  refine ⟨fun w hw => ?_, fun w hw => ?_⟩ <;> have h1 := List.all_eq_true.mp h w hw <;> simp only [Bool.and_eq_true, decide_eq_true_eq] at h1
  · exact h1.1
  · exact h1.2
set_option maxRecDepth 100000 in
theorem z_words_all : ∀ j, j < 25 → (((List.range 25).map fun i => (zsb i).length).getD j 0 = (zsb j).length ∧ ((List.range 25).map zsb).getD j [] = zsb j ∧ (zsb j).length < 100 ∧ zshr ((zsb j).length : Int) 0 = ((zsb j).length : Int) ∧ ∀ i, i < (zsb j).length → (0 ≤ zbyt j (i : Int) ∧ zbyt j (i : Int) < 128 ∧ zand (zbyt j (i : Int)) 255 = zbyt j (i : Int))) := by decide +kernel
section ZR6
variable {g : zF} {K : zY} {R : Room} {L : List (Nat × zV)} {S : List zV} {σ : zS} {C D : Nat} {Q : zR × zS → Prop} {pc : Nat}
theorem r_sgetv {j idx : Nat} (hj : j < 25) (hw : zL (.fieldLink K.1.cls idx "java/lang/String" "value" "[B")) (d : decode K.2.1 pc = .ok (.getfield idx, 3)) (kk : zw g K R (pc + 3) L ((6, ((100 + j : Nat) : Int)) :: S) σ C D Q) : zw g K R pc L ((6, (j : Int)) :: S) σ C D Q := by
  intro p e s m args below meth c H locs cells slots ls hC hl hL hS hW hV h1 h2
  have hQ := hC.2.2.2.2.2.2.1
  exact vk_getf hC.1 hC.2.1 (hQ.2.2.2.2.2.2.1.1 j hj).2.2.1 hV hC.2.2.2.2.2.1 (hQ.2.2.1 _ hw _) (fun x h => h) d (kk p e s m args below meth c H locs cells slots ls hC hl hL (zS_c (by trivial) (zS_t hS)) hW hV h1 h2)
theorem r_sgetc {j idx : Nat} (hj : j < 25) (hw : zL (.fieldLink K.1.cls idx "java/lang/String" "coder" "B")) (d : decode K.2.1 pc = .ok (.getfield idx, 3)) (kk : zw g K R (pc + 3) L ((0, 0) :: S) σ C D Q) : zw g K R pc L ((6, (j : Int)) :: S) σ C D Q := by
  intro p e s m args below meth c H locs cells slots ls hC hl hL hS hW hV h1 h2
  have hQ := hC.2.2.2.2.2.2.1
  exact vk_getf hC.1 hC.2.1 (hQ.2.2.2.2.2.2.1.1 j hj).2.1 hV hC.2.2.2.2.2.1 (hQ.2.2.1 _ hw _) (fun x h => h) d (kk p e s m args below meth c H locs cells slots ls hC hl hL (zS_c zI_0 (zS_t hS)) hW hV h1 h2)
theorem r_sblen {j : Nat} (hj : j < 25) (d : decode K.2.1 pc = .ok (.arraylength, 1)) (kk : zw g K R (pc + 1) L ((0, zlen j) :: S) σ C D Q) : zw g K R pc L ((6, ((100 + j : Nat) : Int)) :: S) σ C D Q := by
  intro p e s m args below meth c H locs cells slots ls hC hl hL hS hW hV h1 h2
  have hQ := hC.2.2.2.2.2.2.1
  obtain ⟨e1, e2, e3, -⟩ := z_words_all j hj
  obtain ⟨cell, c1, c2, c3, c4, c5, c6, c7⟩ := (hQ.2.2.2.2.2.2.1.1 j hj).2.2.2
  rw [e1] at c5
  have kk := kk p e s m args below meth c H locs cells slots ls hC hl hL (zS_c (by show zI (zlen j); unfold zI zlen; omega) (zS_t hS)) hW hV h1 h2
  refine W.alen (n := Int32.ofInt (zlen j)) hC.1 hC.2.1 (by show H[g.2.2.2.2.2 (100 + j)]? = _; rw [hV.2.1 _ (Array.getElem?_eq_some_iff.mp c1).1 c7]; exact c1) c2 (by rw [c5]; unfold zlen; rw [Int32.ofInt_eq_ofNat]) rfl rfl d kk
theorem r_sbald {j : Nat} {i : Int} (hj : j < 25) (i0 : 0 ≤ i) (i1 : i < zlen j) (d : decode K.2.1 pc = .ok (.baload, 1)) (kk : zw g K R (pc + 1) L ((0, zbyt j i) :: S) σ C D Q) : zw g K R pc L ((0, i) :: (6, ((100 + j : Nat) : Int)) :: S) σ C D Q := by
  intro p e s m args below meth c H locs cells slots ls hC hl hL hS hW hV h1 h2
  have hQ := hC.2.2.2.2.2.2.1
  obtain ⟨e1, e2, e3, e4, e5⟩ := z_words_all j hj
  obtain ⟨cell, c1, c2, c3, c4, c5, c6, c7⟩ := (hQ.2.2.2.2.2.2.1.1 j hj).2.2.2
  rw [e1] at c4 c6
  unfold zlen at i1
  have hi : zI i := zS_1 hS
  obtain ⟨hv, ev⟩ := zvp (a := 0) (N := (zsb j).length) i0 i1 hi
  have hb := e5 i.toNat (by omega)
  rw [Int.toNat_of_nonneg i0] at hb
  have kk := kk p e s m args below meth c H locs cells slots ls hC hl hL (zS_c (by show zI (zbyt j i); unfold zI; omega) (zS_t (zS_t hS))) hW hV h1 h2
  have hslot : cell.slots[i.toNat]? = some (.int (Int32.ofInt (zbyt j i))) := by
    rw [c6 i.toNat (by omega), e2]
    show some (Value.int _) = _
    congr 2
    unfold zbyt
    rw [z_back]
  refine W.bald (v := .int (Int32.ofInt (zbyt j i))) hC.1 hC.2.1 (by show H[g.2.2.2.2.2 (100 + j)]? = _; rw [hV.2.1 _ (Array.getElem?_eq_some_iff.mp c1).1 c7]; exact c1) c2 c3 (fun q => ?_) (by rw [ev]; exact hslot) rfl rfl d kk
  rcases q with q | q
  · exact hv (Or.inl q)
  · exact hv (Or.inr (Nat.le_trans c4 q))
theorem r_compact {idx : Nat} (hw : zL (.fieldLink K.1.cls idx "java/lang/String" "COMPACT_STRINGS" "Z")) (d : decode K.2.1 pc = .ok (.getstatic idx, 3)) (kk : zw g K R (pc + 3) L ((0, 1) :: S) σ C D Q) : zw g K R pc L S σ C D Q := by
  intro p e s m args below meth c H locs cells slots ls hC hl hL hS hW hV h1 h2
  have hQ := hC.2.2.2.2.2.2.1
  exact va_gets hC.1 hC.2.1 hQ.2.2.2.2.1.1 hV hC.2.2.2.2.2.1 (hQ.2.2.1 _ hw _) (fun x h => h) d (kk p e s m args below meth c H locs cells slots ls hC hl hL (zS_c (by show zI 1; unfold zI; omega) hS) hW hV h1 h2)
theorem r_sioobe {idx : Nat} (hw : zL (.fieldLink K.1.cls idx "jdk/internal/util/Preconditions" "SIOOBE_FORMATTER" "Ljava/util/function/BiFunction;")) (d : decode K.2.1 pc = .ok (.getstatic idx, 3)) (kk : ∀ z : Int, zw g K R (pc + 3) L ((4, z) :: S) σ C D Q) : zw g K R pc L S σ C D Q := by
  intro p e s m args below meth c H locs cells slots ls hC hl hL hS hW hV h1 h2
  have hQ := hC.2.2.2.2.2.2.1
  rcases hQ.2.2.2.2.1.2.1 with hz | ⟨t, hz⟩
  · have kk := kk (-1) p e s m args below meth c H locs cells slots ls hC hl hL (zS_c (by trivial) hS) hW hV h1 h2
    have e0 : zv g (4, -1) = .null := by rw [zv_4]; exact if_pos (by decide)
    rw [List.map_cons, e0] at kk
    exact va_gets hC.1 hC.2.1 hz hV hC.2.2.2.2.2.1 (hQ.2.2.1 _ hw _) (fun x h => h) d kk
  · have kk := kk (t : Int) p e s m args below meth c H locs cells slots ls hC hl hL (zS_c (by trivial) hS) hW hV h1 h2
    rw [List.map_cons, z_ref (by omega), Int.toNat_natCast] at kk
    exact va_gets hC.1 hC.2.1 hz hV hC.2.2.2.2.2.1 (hQ.2.2.1 _ hw _) (fun x h => h) d kk
theorem r_i2c {a : Int} (h0 : 0 ≤ a ∧ a < 128) (d : decode K.2.1 pc = .ok (.i2c, 1)) (kk : zw g K R (pc + 1) L ((0, a) :: S) σ C D Q) : zw g K R pc L ((0, a) :: S) σ C D Q := by
  intro p e s m args below meth c H locs cells slots ls hC hl hL hS hW hV h1 h2
  have e1 : ∀ n, n < 128 → ((Int32.ofInt ((n : Nat) : Int)).toUInt32 % 65536).toInt32 = Int32.ofInt ((n : Nat) : Int) := by decide +kernel
  have e2 := e1 a.toNat (by omega)
  rw [Int.toNat_of_nonneg h0.1] at e2
  exact lv_i2c hC.1 hC.2.1 d e2 (kk p e s m args below meth c H locs cells slots ls hC hl hL hS hW hV h1 h2)
theorem r_nret {a : Int} {ty : FieldType} (hr : K.2.2.2.1 = some ty) (hz : zrt (some ty) = some 0) (hnr : narrow ty (.int (Int32.ofInt a)) = .int (Int32.ofInt a)) (d : decode K.2.1 pc = .ok (.ireturn, 1)) (h : zo (some (.inl a, σ)) Q) : zw g K R pc L [(0, a)] σ C D Q := by
  intro p e s m args below meth c H locs cells slots ls hC hl hL hS hW hV h1 h2
  obtain ⟨r, e0, hq⟩ := h
  cases e0
  refine W.widen (k := R.cells) (n := R.slots) (by omega) (by omega) (vx_ret ?_)
  refine W.zret hC.1 hC.2.1 (hC.2.2.2.1.trans hr) hnr (fun t ht hW' => ⟨a, σ, hq, by rw [hr]; show _ = Outcome.returned ((zrt (some ty)).map _); rw [hz]; rfl, by rw [hr]; intro k hk; rw [hz] at hk; cases hk; exact zS_1 hS, zW_heap ht hW, hV.F ht⟩) (fun q hq => hV.2.2 q hq) d (hlocks := hC.2.2.2.2.1)
end ZR6
theorem z_nchar {a : Int} (h : 0 ≤ a ∧ a < 128) : narrow .char (.int (Int32.ofInt a)) = .int (Int32.ofInt a) := by
  have e1 : ∀ n, n < 128 → ((Int32.ofInt ((n : Nat) : Int)).toUInt32 % 65536).toInt32 = Int32.ofInt ((n : Nat) : Int) := by decide +kernel
  have e2 := e1 a.toNat (by omega)
  rw [Int.toNat_of_nonneg h.1] at e2
  show Value.int _ = _
  congr 1
abbrev Y_slen : zY := (yJ0_length_8abf5, cJ0_length_8abf5, 1, some .int, [])
abbrev R_slen : Room := { frames := 1, cells := 0, slots := 0, locals := 20 }
abbrev Y_scod : zY := (yJ0_coder_7d493, cJ0_coder_7d493, 1, some .byte, [])
abbrev R_scod : Room := { frames := 0, cells := 0, slots := 0, locals := 0 }
abbrev Y_slat : zY := (yJ0_isLatin1_aae02, cJ0_isLatin1_aae02, 1, some .boolean, [])
abbrev Y_sch : zY := (yJ0_charAt_5068e, cJ0_charAt_5068e, 2, some .char, [])
abbrev R_sch : Room := { frames := 3, cells := 0, slots := 0, locals := 70 }
abbrev Y_lch : zY := (yJ1_charAt_3b067, cJ1_charAt_3b067, 2, some .char, [])
abbrev R_lch : Room := { frames := 2, cells := 0, slots := 0, locals := 45 }
abbrev Y_cki : zY := (yJ0_checkIndex_df160, cJ0_checkIndex_df160, 2, none, [])
abbrev R_cki : Room := { frames := 1, cells := 0, slots := 0, locals := 23 }
abbrev Y_pci : zY := (yJ3_checkIndex_8e157, cJ3_checkIndex_8e157, 3, some .int, [])
theorem qj_90 : zL (Cond.initialized "java/lang/String") := ⟨List.mem_of_getElem? (i := 90) (by decide +kernel), by decide +kernel⟩
theorem qj_95 : zL (Cond.initialized "jdk/internal/util/Preconditions") := ⟨List.mem_of_getElem? (i := 95) (by decide +kernel), by decide +kernel⟩
theorem qj_96 : zL (Cond.initialized "java/lang/StringLatin1") := ⟨List.mem_of_getElem? (i := 96) (by decide +kernel), by decide +kernel⟩
theorem qj_347 : zL (Cond.instanceMethod ⟨"java/lang/String","length","()I"⟩) := ⟨List.mem_of_getElem? (i := 347) (by decide +kernel), by decide +kernel⟩
theorem qj_348 : zL (Cond.selects "java/lang/String" ⟨"java/lang/String","length","()I"⟩ ⟨"java/lang/String","length","()I"⟩) := ⟨List.mem_of_getElem? (i := 348) (by decide +kernel), by decide +kernel⟩
theorem qj_349 : zL (Cond.code ⟨"java/lang/String","length","()I"⟩ prog_21_method_54_code 1 (Option.some FieldType.int)) := ⟨List.mem_of_getElem? (i := 349) (by decide +kernel), by decide +kernel⟩
theorem qj_350 : zL (Cond.methodLink "java/lang/String" 335 ⟨"java/lang/String","coder","()B"⟩) := ⟨List.mem_of_getElem? (i := 350) (by decide +kernel), by decide +kernel⟩
theorem qj_351 : zL (Cond.instanceMethod ⟨"java/lang/String","coder","()B"⟩) := ⟨List.mem_of_getElem? (i := 351) (by decide +kernel), by decide +kernel⟩
theorem qj_352 : zL (Cond.selects "java/lang/String" ⟨"java/lang/String","coder","()B"⟩ ⟨"java/lang/String","coder","()B"⟩) := ⟨List.mem_of_getElem? (i := 352) (by decide +kernel), by decide +kernel⟩
theorem qj_353 : zL (Cond.code ⟨"java/lang/String","coder","()B"⟩ prog_21_method_152_code 1 (Option.some FieldType.byte)) := ⟨List.mem_of_getElem? (i := 353) (by decide +kernel), by decide +kernel⟩
theorem qj_354 : zL (Cond.fieldLink "java/lang/String" 38 "java/lang/String" "COMPACT_STRINGS" "Z") := ⟨List.mem_of_getElem? (i := 354) (by decide +kernel), by decide +kernel⟩
theorem qj_435 : zL (Cond.fieldLink "java/lang/String" 1053 "jdk/internal/util/Preconditions" "SIOOBE_FORMATTER" "Ljava/util/function/BiFunction;") := ⟨List.mem_of_getElem? (i := 435) (by decide +kernel), by decide +kernel⟩
theorem qj_543 : zL (Cond.static ⟨"java/lang/String","checkIndex","(II)V"⟩) := ⟨List.mem_of_getElem? (i := 543) (by decide +kernel), by decide +kernel⟩
theorem qj_544 : zL (Cond.code ⟨"java/lang/String","checkIndex","(II)V"⟩ prog_21_method_155_code 2 (Option.none : Option FieldType)) := ⟨List.mem_of_getElem? (i := 544) (by decide +kernel), by decide +kernel⟩
theorem qj_545 : zL (Cond.methodLink "java/lang/String" 1059 ⟨"jdk/internal/util/Preconditions","checkIndex","(IILjava/util/function/BiFunction;)I"⟩) := ⟨List.mem_of_getElem? (i := 545) (by decide +kernel), by decide +kernel⟩
theorem qj_546 : zL (Cond.static ⟨"jdk/internal/util/Preconditions","checkIndex","(IILjava/util/function/BiFunction;)I"⟩) := ⟨List.mem_of_getElem? (i := 546) (by decide +kernel), by decide +kernel⟩
theorem qj_547 : zL (Cond.code ⟨"jdk/internal/util/Preconditions","checkIndex","(IILjava/util/function/BiFunction;)I"⟩ prog_29_method_11_code 3 (Option.some FieldType.int)) := ⟨List.mem_of_getElem? (i := 547) (by decide +kernel), by decide +kernel⟩
theorem qj_604 : zL (Cond.fieldLink "java/lang/String" 9 "java/lang/String" "value" "[B") := ⟨List.mem_of_getElem? (i := 604) (by decide +kernel), by decide +kernel⟩
theorem qj_605 : zL (Cond.fieldLink "java/lang/String" 15 "java/lang/String" "coder" "B") := ⟨List.mem_of_getElem? (i := 605) (by decide +kernel), by decide +kernel⟩
theorem qj_623 : zL (Cond.instanceMethod ⟨"java/lang/String","charAt","(I)C"⟩) := ⟨List.mem_of_getElem? (i := 623) (by decide +kernel), by decide +kernel⟩
theorem qj_624 : zL (Cond.selects "java/lang/String" ⟨"java/lang/String","charAt","(I)C"⟩ ⟨"java/lang/String","charAt","(I)C"⟩) := ⟨List.mem_of_getElem? (i := 624) (by decide +kernel), by decide +kernel⟩
theorem qj_625 : zL (Cond.code ⟨"java/lang/String","charAt","(I)C"⟩ prog_21_method_56_code 2 (Option.some FieldType.char)) := ⟨List.mem_of_getElem? (i := 625) (by decide +kernel), by decide +kernel⟩
theorem qj_626 : zL (Cond.methodLink "java/lang/String" 492 ⟨"java/lang/String","isLatin1","()Z"⟩) := ⟨List.mem_of_getElem? (i := 626) (by decide +kernel), by decide +kernel⟩
theorem qj_627 : zL (Cond.instanceMethod ⟨"java/lang/String","isLatin1","()Z"⟩) := ⟨List.mem_of_getElem? (i := 627) (by decide +kernel), by decide +kernel⟩
theorem qj_628 : zL (Cond.selects "java/lang/String" ⟨"java/lang/String","isLatin1","()Z"⟩ ⟨"java/lang/String","isLatin1","()Z"⟩) := ⟨List.mem_of_getElem? (i := 628) (by decide +kernel), by decide +kernel⟩
theorem qj_629 : zL (Cond.code ⟨"java/lang/String","isLatin1","()Z"⟩ prog_21_method_154_code 1 (Option.some FieldType.boolean)) := ⟨List.mem_of_getElem? (i := 629) (by decide +kernel), by decide +kernel⟩
theorem qj_630 : zL (Cond.methodLink "java/lang/String" 495 ⟨"java/lang/StringLatin1","charAt","([BI)C"⟩) := ⟨List.mem_of_getElem? (i := 630) (by decide +kernel), by decide +kernel⟩
theorem qj_631 : zL (Cond.static ⟨"java/lang/StringLatin1","charAt","([BI)C"⟩) := ⟨List.mem_of_getElem? (i := 631) (by decide +kernel), by decide +kernel⟩
theorem qj_632 : zL (Cond.code ⟨"java/lang/StringLatin1","charAt","([BI)C"⟩ prog_23_method_2_code 2 (Option.some FieldType.char)) := ⟨List.mem_of_getElem? (i := 632) (by decide +kernel), by decide +kernel⟩
theorem qj_633 : zL (Cond.methodLink "java/lang/StringLatin1" 9 ⟨"java/lang/String","checkIndex","(II)V"⟩) := ⟨List.mem_of_getElem? (i := 633) (by decide +kernel), by decide +kernel⟩
theorem k0_slen : zk0 Y_slen 0 := ⟨qj_349, qj_90, ⟨by decide, by decide, by decide +kernel⟩, rfl⟩
theorem k0_scod : zk0 Y_scod 0 := ⟨qj_353, qj_90, ⟨by decide, by decide, by decide +kernel⟩, rfl⟩
theorem k0_slat : zk0 Y_slat 0 := ⟨qj_629, qj_90, ⟨by decide, by decide, by decide +kernel⟩, rfl⟩
theorem k0_sch : zk0 Y_sch 1 := ⟨qj_625, qj_90, ⟨by decide, by decide, by decide +kernel⟩, rfl⟩
theorem k0_lch : zk0 Y_lch 2 := ⟨qj_632, qj_96, ⟨by decide, by decide, by decide +kernel⟩, rfl⟩
theorem k0_cki : zk0 Y_cki 2 := ⟨qj_544, qj_90, ⟨by decide, by decide, by decide +kernel⟩, rfl⟩
theorem k0_pci : zk0 Y_pci 3 := ⟨qj_547, qj_95, ⟨by decide, by decide, by decide +kernel⟩, rfl⟩
theorem kV_slen : zkV Y_slen := ⟨qj_347, qj_348⟩
theorem kV_scod : zkV Y_scod := ⟨qj_351, qj_352⟩
theorem kV_slat : zkV Y_slat := ⟨qj_627, qj_628⟩
theorem kV_sch : zkV Y_sch := ⟨qj_623, qj_624⟩
section ZR7
variable {g : zF} {K : zY} {R : Room} {L : List (Nat × zV)} {S : List zV} {σ : zS} {C D : Nat} {Q : zR × zS → Prop} {pc : Nat}
theorem m_scod {j : Nat} (hj : j < 25) (h : zo (some (.inl 0, σ)) Q) : zm g Y_scod R_scod [(6, (j : Int))] σ Q := by
  refine zm_of (by decide) rfl (Nat.le_of_ble_eq_true rfl) ?_
  refine r_compact qj_354 dJ0_coder_7d493_0 ?_
  refine r_if_eq (A := none) (B := some (.inl 0, σ)) 13 dJ0_coder_7d493_3 (by decide) (by rw [if_neg (by decide)]; exact h) (fun h => by obtain ⟨r, h, -⟩ := h; cases h) (fun h => ?_)
  refine r_aload_n 0 dJ0_coder_7d493_6 rfl ?_
  refine r_sgetc hj qj_605 dJ0_coder_7d493_7 ?_
  refine r_goto 14 dJ0_coder_7d493_10 (by decide) ?_
  exact r_nret rfl rfl (by decide +kernel) dJ0_coder_7d493_14 h
theorem m_slat {j : Nat} (hj : j < 25) (h : zo (some (.inl 1, σ)) Q) : zm g Y_slat R_scod [(6, (j : Int))] σ Q := by
  refine zm_of (by decide) rfl (Nat.le_of_ble_eq_true rfl) ?_
  refine r_compact qj_354 dJ0_isLatin1_aae02_0 ?_
  refine r_if_eq (A := none) (B := some (.inl 1, σ)) 17 dJ0_isLatin1_aae02_3 (by decide) (by rw [if_neg (by decide)]; exact h) (fun h => by obtain ⟨r, h, -⟩ := h; cases h) (fun h => ?_)
  refine r_aload_n 0 dJ0_isLatin1_aae02_6 rfl ?_
  refine r_sgetc hj qj_605 dJ0_isLatin1_aae02_7 ?_
  refine r_if_ne (A := some (.inl 1, σ)) (B := none) 17 dJ0_isLatin1_aae02_10 (by decide) (by rw [if_pos (by decide)]; exact h) (fun h => by obtain ⟨r, h, -⟩ := h; cases h) (fun h => ?_)
  refine r_iconst (v := 1) dJ0_isLatin1_aae02_13 rfl rfl ?_
  refine r_goto 18 dJ0_isLatin1_aae02_14 (by decide) ?_
  exact r_zretc (by decide) rfl dJ0_isLatin1_aae02_18 h
theorem m_slen {j : Nat} (hj : j < 25) (h : zo (some (.inl (zlen j), σ)) Q) : zm g Y_slen R_slen [(6, (j : Int))] σ Q := by
  refine zm_of (by decide) rfl (Nat.le_of_ble_eq_true rfl) ?_
  refine r_aload_n 0 dJ0_length_8abf5_0 rfl ?_
  refine r_sgetv hj qj_604 dJ0_length_8abf5_1 ?_
  refine r_sblen hj dJ0_length_8abf5_4 ?_
  refine r_aload_n 0 dJ0_length_8abf5_5 rfl ?_
  refine r_callT (K' := Y_scod) (R' := R_scod) (idx := 335) (n := 0) (j := j) (as := []) (rest := [(0, zlen j)]) (C' := 0) (D' := 0) (F := some (.inl 0, σ)) (k := fun x τ => some (.inl (zlen j), τ)) hj rfl k0_scod kV_scod (Or.inl qj_350) ⟨by decide, by decide⟩ dJ0_length_8abf5_6 rfl rfl (Nat.le_of_ble_eq_true rfl) (by decide) (by decide) rfl h (fun r hr => m_scod hj ⟨r, hr, hr⟩) (fun x τ hx h => ?_)
  cases hx
  refine r_ishr dJ0_length_8abf5_9 ?_
  have e := (z_words_all j hj).2.2.2.1
  rw [show zshr (zlen j) 0 = zlen j from e]
  exact r_iret rfl dJ0_length_8abf5_10 h
theorem m_pci {i n z : Int} (h0 : 0 ≤ i ∧ i < n) (h : zo (some (.inl i, σ)) Q) : zm g Y_pci R_scod [(0, i), (0, n), (4, z)] σ Q := by
  refine zm_of (by decide) rfl (Nat.le_of_ble_eq_true rfl) ?_
  refine r_iload_n 0 dJ3_checkIndex_8e157_0 rfl ?_
  refine r_if_lt (A := none) (B := some (.inl i, σ)) 9 dJ3_checkIndex_8e157_1 (by decide) (by rw [if_neg (by omega)]; exact h) (fun h => by obtain ⟨r, h, -⟩ := h; cases h) (fun h => ?_)
  refine r_iload_n 0 dJ3_checkIndex_8e157_4 rfl ?_
  refine r_iload_n 1 dJ3_checkIndex_8e157_5 rfl ?_
  refine r_icmp_lt (A := some (.inl i, σ)) (B := none) 16 dJ3_checkIndex_8e157_6 (by decide) (by rw [if_pos h0.2]; exact h) (fun h => ?_) (fun h => by obtain ⟨r, h, -⟩ := h; cases h)
  refine r_iload_n 0 dJ3_checkIndex_8e157_16 rfl ?_
  exact r_iret rfl dJ3_checkIndex_8e157_17 h
theorem m_cki {i n : Int} (h0 : 0 ≤ i ∧ i < n) (h : zo (some (.inl 0, σ)) Q) : zm g Y_cki R_cki [(0, i), (0, n)] σ Q := by
  refine zm_of (by decide) rfl (Nat.le_of_ble_eq_true rfl) ?_
  refine r_iload_n 0 dJ0_checkIndex_df160_0 rfl ?_
  refine r_iload_n 1 dJ0_checkIndex_df160_1 rfl ?_
  refine r_sioobe qj_435 dJ0_checkIndex_df160_2 (fun z => ?_)
  refine r_callS (K' := Y_pci) (R' := R_scod) (idx := 1059) (n := 3) (as := [(0, i), (0, n), (4, z)]) (rest := []) (C' := 0) (D' := 0) (F := some (.inl i, σ)) (k := fun x τ => some (.inl 0, τ)) rfl k0_pci qj_546 (Or.inl qj_545) ⟨by decide, by decide⟩ dJ0_checkIndex_df160_5 rfl rfl (Nat.le_of_ble_eq_true rfl) (by decide) (by decide) h (fun r hr => m_pci h0 ⟨r, hr, hr⟩) (fun x τ hx h => ?_)
  refine r_pop dJ0_checkIndex_df160_8 rfl ?_
  exact r_vret rfl dJ0_checkIndex_df160_9 h
theorem m_lch {j : Nat} {i : Int} (hj : j < 25) (h0 : 0 ≤ i ∧ i < zlen j) (h : zo (some (.inl (zbyt j i), σ)) Q) : zm g Y_lch R_lch [(6, ((100 + j : Nat) : Int)), (0, i)] σ Q := by
  obtain ⟨e1, e2, e3, e4, e5⟩ := z_words_all j hj
  have hb := e5 i.toNat (by have := h0.2; unfold zlen at this; omega)
  rw [Int.toNat_of_nonneg h0.1] at hb
  refine zm_of (by decide) rfl (Nat.le_of_ble_eq_true rfl) ?_
  refine r_iload_n 1 dJ1_charAt_3b067_0 rfl ?_
  refine r_aload_n 0 dJ1_charAt_3b067_1 rfl ?_
  refine r_sblen hj dJ1_charAt_3b067_2 ?_
  refine r_callS (K' := Y_cki) (R' := R_cki) (idx := 9) (n := 2) (as := [(0, i), (0, zlen j)]) (rest := []) (C' := 0) (D' := 0) (F := some (.inl 0, σ)) (k := fun x τ => some (.inl (zbyt j i), τ)) rfl k0_cki qj_543 (Or.inl qj_633) ⟨by decide, by decide⟩ dJ1_charAt_3b067_3 rfl rfl (Nat.le_of_ble_eq_true rfl) (by decide) (by decide) h (fun r hr => m_cki h0 ⟨r, hr, hr⟩) (fun x τ hx h => ?_)
  refine r_aload_n 0 dJ1_charAt_3b067_6 rfl ?_
  refine r_iload_n 1 dJ1_charAt_3b067_7 rfl ?_
  refine r_sbald hj h0.1 h0.2 dJ1_charAt_3b067_8 ?_
  refine r_sipush (v := 255) dJ1_charAt_3b067_9 rfl rfl ?_
  refine r_iand dJ1_charAt_3b067_12 ?_
  rw [hb.2.2]
  refine r_i2c ⟨hb.1, hb.2.1⟩ dJ1_charAt_3b067_13 ?_
  exact r_nret rfl rfl (z_nchar ⟨hb.1, hb.2.1⟩) dJ1_charAt_3b067_14 h
theorem m_sch {j : Nat} {i : Int} (hj : j < 25) (h0 : 0 ≤ i ∧ i < zlen j) (h : zo (some (.inl (zbyt j i), σ)) Q) : zm g Y_sch R_sch [(6, (j : Int)), (0, i)] σ Q := by
  obtain ⟨e1, e2, e3, e4, e5⟩ := z_words_all j hj
  have hb := e5 i.toNat (by have := h0.2; unfold zlen at this; omega)
  rw [Int.toNat_of_nonneg h0.1] at hb
  refine zm_of (by decide) rfl (Nat.le_of_ble_eq_true rfl) ?_
  refine r_aload_n 0 dJ0_charAt_5068e_0 rfl ?_
  refine r_callT (K' := Y_slat) (R' := R_scod) (idx := 492) (n := 0) (j := j) (as := []) (rest := []) (C' := 0) (D' := 0) (F := some (.inl 1, σ)) (k := fun x τ => some (.inl (zbyt j i), τ)) hj rfl k0_slat kV_slat (Or.inl qj_626) ⟨by decide, by decide⟩ dJ0_charAt_5068e_1 rfl rfl (Nat.le_of_ble_eq_true rfl) (by decide) (by decide) rfl h (fun r hr => m_slat hj ⟨r, hr, hr⟩) (fun x τ hx h => ?_)
  cases hx
  refine r_if_eq (A := none) (B := some (.inl (zbyt j i), σ)) 16 dJ0_charAt_5068e_4 (by decide) (by rw [if_neg (by decide)]; exact h) (fun h => by obtain ⟨r, h, -⟩ := h; cases h) (fun h => ?_)
  refine r_aload_n 0 dJ0_charAt_5068e_7 rfl ?_
  refine r_sgetv hj qj_604 dJ0_charAt_5068e_8 ?_
  refine r_iload_n 1 dJ0_charAt_5068e_11 rfl ?_
  refine r_callS (K' := Y_lch) (R' := R_lch) (idx := 495) (n := 2) (as := [(6, ((100 + j : Nat) : Int)), (0, i)]) (rest := []) (C' := 0) (D' := 0) (F := some (.inl (zbyt j i), σ)) (k := fun x τ => some (.inl x, τ)) rfl k0_lch qj_631 (Or.inl qj_630) ⟨by decide, by decide⟩ dJ0_charAt_5068e_12 rfl rfl (Nat.le_of_ble_eq_true rfl) (by decide) (by decide) h (fun r hr => m_lch hj h0 ⟨r, hr, hr⟩) (fun x τ hx h => ?_)
  cases hx
  exact r_nret rfl rfl (z_nchar ⟨hb.1, hb.2.1⟩) dJ0_charAt_5068e_15 h
/-- in the callers -/
def zsl (own : String) (idx : Nat) : Prop := zL (.methodLink own idx yJ0_length_8abf5)
def zsh (own : String) (idx : Nat) : Prop := zL (.methodLink own idx yJ0_charAt_5068e)
theorem zite_p {c : Prop} {d : Decidable c} {A : zFn} {Q : zR × zS → Prop} (h : zo (@ite _ c d A none) Q) : c := (zite_o h).1
theorem r_slen {idx j : Nat} {F : Int → zFn} (hw : zsl K.1.cls idx) (hh : K.2.2.2.2 = []) (hR : 2 ≤ R.frames ∧ 40 ≤ R.locals) (hcat : ((S.map fun v => if v.1 == 1 || v.1 == 3 then 2 else 1).sum) ≤ 8) (d : decode K.2.1 pc = .ok (.invokevirtual idx, 3)) (h : zo (zsln j F) Q) (kk : ∀ x, zo (F x) Q → zw g K R (pc + 3) L ((0, x) :: S) σ C D Q) : zw g K R pc L ((6, (j : Int)) :: S) σ C D Q := by
  obtain ⟨hj, h⟩ := zite_o h
  have hj : j < 25 := by omega
  refine r_callT (K' := Y_slen) (R' := R_slen) (idx := idx) (n := 0) (j := j) (as := []) (rest := S) (C' := C) (D' := D) (F := some (.inl (zlen j), σ)) (k := fun x τ => F x) hj hh k0_slen kV_slen (Or.inl hw) ⟨hR.1, by show 8 + (1 + 11) + 20 ≤ _; omega⟩ d rfl rfl hcat (Nat.le_refl _) (Nat.le_refl _) rfl h (fun r hr => m_slen hj ⟨r, hr, hr⟩) (fun x τ hx h => ?_)
  cases hx
  exact kk _ h
theorem r_sch {idx j : Nat} {i : Int} {F : Int → zFn} (hw : zsh K.1.cls idx) (hh : K.2.2.2.2 = []) (hR : 4 ≤ R.frames ∧ 100 ≤ R.locals) (hcat : ((S.map fun v => if v.1 == 1 || v.1 == 3 then 2 else 1).sum) ≤ 8) (d : decode K.2.1 pc = .ok (.invokevirtual idx, 3)) (h : zo (zsch j i F) Q) (kk : ∀ x, zo (F x) Q → zw g K R (pc + 3) L ((0, x) :: S) σ C D Q) : zw g K R pc L ((0, i) :: (6, (j : Int)) :: S) σ C D Q := by
  obtain ⟨⟨hj, h0⟩, h⟩ := zite_o h
  have hj : j < 25 := by omega
  refine r_callT (K' := Y_sch) (R' := R_sch) (idx := idx) (n := 1) (j := j) (as := [(0, i)]) (rest := S) (C' := C) (D' := D) (F := some (.inl (zbyt j i), σ)) (k := fun x τ => F x) hj hh k0_sch kV_sch (Or.inl hw) ⟨hR.1, by show 8 + (2 + 11) + 70 ≤ _; omega⟩ d rfl rfl hcat (Nat.le_refl _) (Nat.le_refl _) rfl h (fun r hr => m_sch hj h0 ⟨r, hr, hr⟩) (fun x τ hx h => ?_)
  cases hx
  exact kk _ h
end ZR7
