/-! R8: the builder of text -/
def Bq (x : Int) (S0 : zG) (μ0 : zM) (S : zG) (μ : zM) (b v cap : Int) (l : List Int) : Prop := (0 ≤ x ∧ x + 66 ≤ S0.2.2) ∧ (Ext x S0 S μ0 μ) ∧ (S.1 b = some (0, 8)) ∧ (S.2.1 b 0 = v) ∧ (S.1 v = some (2, cap)) ∧ (S0.2.2 ≤ b ∧ b < S.2.2) ∧ (S0.2.2 ≤ v ∧ v < S.2.2) ∧ (b ≠ v) ∧ ((l.length : Int) ≤ cap) ∧ (cap ≤ 1002) ∧ (μ b 1 = 0) ∧ (μ b 3 = (l.length : Int)) ∧ (∀ (k : Nat) (z : Int), l[k]? = some z → μ v (k : Int) = z) ∧ (∀ z, z ∈ l → 0 ≤ z ∧ z < 128) ∧ (∀ i : Int, 0 ≤ i → i < cap → -128 ≤ μ v i ∧ μ v i < 128)
theorem Bq.mk {x : Int} {S0 : zG} {μ0 : zM} {S : zG} {μ : zM} {b v cap : Int} {l : List Int} (h : (0 ≤ x ∧ x + 66 ≤ S0.2.2) ∧ (Ext x S0 S μ0 μ) ∧ (S.1 b = some (0, 8)) ∧ (S.2.1 b 0 = v) ∧ (S.1 v = some (2, cap)) ∧ (S0.2.2 ≤ b ∧ b < S.2.2) ∧ (S0.2.2 ≤ v ∧ v < S.2.2) ∧ (b ≠ v) ∧ ((l.length : Int) ≤ cap) ∧ (cap ≤ 1002) ∧ (μ b 1 = 0) ∧ (μ b 3 = (l.length : Int)) ∧ (∀ (k : Nat) (z : Int), l[k]? = some z → μ v (k : Int) = z) ∧ (∀ z, z ∈ l → 0 ≤ z ∧ z < 128) ∧ (∀ i : Int, 0 ≤ i → i < cap → -128 ≤ μ v i ∧ μ v i < 128)) : Bq x S0 μ0 S μ b v cap l := h
theorem Bq.x0 {x : Int} {S0 : zG} {μ0 : zM} {S : zG} {μ : zM} {b v cap : Int} {l : List Int} (h : Bq x S0 μ0 S μ b v cap l) : 0 ≤ x ∧ x + 66 ≤ S0.2.2 := h.1
theorem Bq.e {x : Int} {S0 : zG} {μ0 : zM} {S : zG} {μ : zM} {b v cap : Int} {l : List Int} (h : Bq x S0 μ0 S μ b v cap l) : Ext x S0 S μ0 μ := h.2.1
theorem Bq.o {x : Int} {S0 : zG} {μ0 : zM} {S : zG} {μ : zM} {b v cap : Int} {l : List Int} (h : Bq x S0 μ0 S μ b v cap l) : S.1 b = some (0, 8) := h.2.2.1
theorem Bq.r {x : Int} {S0 : zG} {μ0 : zM} {S : zG} {μ : zM} {b v cap : Int} {l : List Int} (h : Bq x S0 μ0 S μ b v cap l) : S.2.1 b 0 = v := h.2.2.2.1
theorem Bq.c {x : Int} {S0 : zG} {μ0 : zM} {S : zG} {μ : zM} {b v cap : Int} {l : List Int} (h : Bq x S0 μ0 S μ b v cap l) : S.1 v = some (2, cap) := h.2.2.2.2.1
theorem Bq.nb {x : Int} {S0 : zG} {μ0 : zM} {S : zG} {μ : zM} {b v cap : Int} {l : List Int} (h : Bq x S0 μ0 S μ b v cap l) : S0.2.2 ≤ b ∧ b < S.2.2 := h.2.2.2.2.2.1
theorem Bq.nv {x : Int} {S0 : zG} {μ0 : zM} {S : zG} {μ : zM} {b v cap : Int} {l : List Int} (h : Bq x S0 μ0 S μ b v cap l) : S0.2.2 ≤ v ∧ v < S.2.2 := h.2.2.2.2.2.2.1
theorem Bq.bv {x : Int} {S0 : zG} {μ0 : zM} {S : zG} {μ : zM} {b v cap : Int} {l : List Int} (h : Bq x S0 μ0 S μ b v cap l) : b ≠ v := h.2.2.2.2.2.2.2.1
theorem Bq.lc {x : Int} {S0 : zG} {μ0 : zM} {S : zG} {μ : zM} {b v cap : Int} {l : List Int} (h : Bq x S0 μ0 S μ b v cap l) : (l.length : Int) ≤ cap := h.2.2.2.2.2.2.2.2.1
theorem Bq.cm {x : Int} {S0 : zG} {μ0 : zM} {S : zG} {μ : zM} {b v cap : Int} {l : List Int} (h : Bq x S0 μ0 S μ b v cap l) : cap ≤ 1002 := h.2.2.2.2.2.2.2.2.2.1
theorem Bq.k1 {x : Int} {S0 : zG} {μ0 : zM} {S : zG} {μ : zM} {b v cap : Int} {l : List Int} (h : Bq x S0 μ0 S μ b v cap l) : μ b 1 = 0 := h.2.2.2.2.2.2.2.2.2.2.1
theorem Bq.k3 {x : Int} {S0 : zG} {μ0 : zM} {S : zG} {μ : zM} {b v cap : Int} {l : List Int} (h : Bq x S0 μ0 S μ b v cap l) : μ b 3 = (l.length : Int) := h.2.2.2.2.2.2.2.2.2.2.2.1
theorem Bq.y {x : Int} {S0 : zG} {μ0 : zM} {S : zG} {μ : zM} {b v cap : Int} {l : List Int} (h : Bq x S0 μ0 S μ b v cap l) : ∀ (k : Nat) (z : Int), l[k]? = some z → μ v (k : Int) = z := h.2.2.2.2.2.2.2.2.2.2.2.2.1
theorem Bq.g {x : Int} {S0 : zG} {μ0 : zM} {S : zG} {μ : zM} {b v cap : Int} {l : List Int} (h : Bq x S0 μ0 S μ b v cap l) : ∀ z, z ∈ l → 0 ≤ z ∧ z < 128 := h.2.2.2.2.2.2.2.2.2.2.2.2.2.1
theorem Bq.m {x : Int} {S0 : zG} {μ0 : zM} {S : zG} {μ : zM} {b v cap : Int} {l : List Int} (h : Bq x S0 μ0 S μ b v cap l) : ∀ i : Int, 0 ≤ i → i < cap → -128 ≤ μ v i ∧ μ v i < 128 := h.2.2.2.2.2.2.2.2.2.2.2.2.2.2
section R8
variable {x : Int} {S0 S S' : zG} {μ0 μ μ' : zM} {b v cap : Int} {l u : List Int} {H : Int → zS → zFn} {Q : zR × zS → Prop} {A : zFn} {G : zS → zFn}
theorem zo_pr3 {a j w x : Int} {ci k : Nat} (h : S.1 a = some (0, x)) (hc : (ci : Int) = x) (hj : (k : Int) = j) (q : zo (G ((S.1, zup S.2.1 a j w, S.2.2), μ)) Q) : zo (zpr ci k a w (S, μ) G) Q := by
  subst hc
  subst hj
  unfold zpr
  exact zo_pos h q
theorem zo_acB {a0 sp a dp n n0 n1 : Int} (h0 : S.1 a0 = some (2, n0)) (h1 : S.1 a = some (2, n1)) (hb : 0 ≤ sp ∧ 0 ≤ dp ∧ 0 ≤ n ∧ sp + n ≤ n0 ∧ dp + n ≤ n1) (hy : ∀ i : Int, sp ≤ i → i < sp + n → -128 ≤ μ a0 i ∧ μ a0 i < 128) (q : zo (G (S, zcp μ a0 sp a dp n)) Q) : zo (zacB a0 sp a dp n (S, μ) G) Q := by
  unfold zacB
  refine zo_pos ?_ q
  unfold zakB
  rw [show (S, μ).1.1 a0 = some (2, n0) from h0, show (S, μ).1.1 a = some (2, n1) from h1]
  exact ⟨rfl, rfl, hb.1, hb.2.1, hb.2.2.1, hb.2.2.2.1, hb.2.2.2.2, hy⟩
theorem zo_sd {k : Nat} {i : Int} {F : Int → zFn} (h : 0 ≤ i ∧ i < 100) (q : zo (F (zdg1 k i)) Q) : zo (zsd k i F) Q := by
  unfold zsd
  exact zo_pos h q
theorem shl_0 {c : Int} (h : -2147483648 ≤ c ∧ c < 2147483648) : zshl c 0 = c := by
  have h1 : zshl c 0 = ((BitVec.ofInt 32 c) <<< (0 : Nat)).toInt := rfl
  rw [h1, BitVec.shiftLeft_zero, BitVec.toInt_ofInt]
  exact w32_e h
theorem shr_0 {c : Int} (h : -2147483648 ≤ c ∧ c < 2147483648) : zshr c 0 = c := by
  have h1 : zshr c 0 = ((BitVec.ofInt 32 c).sshiftRight 0).toInt := rfl
  rw [h1, BitVec.toInt_sshiftRight, Int.shiftRight_zero, BitVec.toInt_ofInt]
  exact w32_e h
/-- the builder with more room -/
theorem b_ens (h : Bq x S0 μ0 S μ b v cap l) {m : Int} (hm : (l.length : Int) ≤ m ∧ m ≤ 500) : ∃ S' μ' v' cap', f_J5_ensureCapacityInternal_d00df b m (S, μ) = some (.inl 0, (S', μ')) ∧ Bq x S0 μ0 S' μ' b v' cap' l ∧ m ≤ cap' := by
  have hlc := h.lc
  have hcm := h.cm
  have hx := h.x0
  have hnb := h.nb
  have hnv := h.nv
  have hen := h.e.2.2.1
  have key : zo (f_J5_ensureCapacityInternal_d00df b m (S, μ)) (fun r => ∃ S' μ' v' cap', r = (.inl 0, (S', μ')) ∧ Bq x S0 μ0 S' μ' b v' cap' l ∧ m ≤ cap') := by
    refine j_J5_ensureCapacityInternal_d00df ?_
    refine zo_gr h.o h.r (by omega) (by omega) ?_
    refine zo_al (t := 1) h.c ?_
    refine zo_gf h.o h.k1 (by omega) (by omega) ?_
    rw [shr_0 (c := cap) (by omega), w32_e (z := m - cap) (by omega)]
    refine zo_ite (fun h1 => ?_) (fun h1 => ?_)
    · obtain ⟨N, hN⟩ : ∃ N : Int, N = cap + max (m - cap) (cap + 2) := ⟨_, rfl⟩
      have hN1 : m ≤ N ∧ cap < N ∧ N ≤ 1002 := by omega
      have enl : f_J8_newLength_cabcc cap (m - cap) (cap + 2) (S, μ) = some (.inl N, (S, μ)) := by
        apply zo_un
        refine j_J8_newLength_cabcc ?_
        rw [← hN, w32_e (z := N) (by omega)]
        refine zo_pos (by omega) ?_
        refine zo_neg (by omega) ?_
        exact zo_rt rfl
      have enc : f_J5_newCapacity_0f7a4 b m (S, μ) = some (.inl N, (S, μ)) := by
        apply zo_un
        refine j_J5_newCapacity_0f7a4 ?_
        refine zo_gr h.o h.r (by omega) (by omega) ?_
        refine zo_al (t := 1) h.c ?_
        refine zo_gf h.o h.k1 (by omega) (by omega) ?_
        refine zo_gf h.o h.k1 (by omega) (by omega) ?_
        rw [shl_0 (c := m) (by omega), shl_0 (c := 2) (by decide), w32_e (z := m - cap) (by omega), w32_e (z := cap + 2) (by omega)]
        refine zo_bn enl ?_
        refine zo_neg (by omega) ?_
        refine zo_gf h.o h.k1 (by omega) (by omega) ?_
        rw [shr_0 (c := N) (by omega)]
        exact zo_rt rfl
      refine zo_gr h.o h.r (by omega) (by omega) ?_
      refine zo_ob h.o (by omega) ?_
      refine zo_bn enc ?_
      refine zo_gf h.o h.k1 (by omega) (by omega) ?_
      rw [shl_0 (c := N) (by omega)]
      have ecp : zo (f_J7_copyOf_9075b v N (S, μ)) (fun r => ∃ S' μ', r = (.inl S.2.2, (S', μ')) ∧ Ext x S S' μ μ' ∧ S'.2.2 = S.2.2 + 1 ∧ S'.1 S.2.2 = some (2, N) ∧ (∀ i, 0 ≤ i → i < cap → μ' S.2.2 i = μ v i) ∧ (∀ i, cap ≤ i → μ' S.2.2 i = 0)) := by
        refine j_J7_copyOf_9075b ?_
        refine zo_al (t := 1) h.c ?_
        refine zo_neg (by omega) ?_
        refine y_na (x := x) (by omega) (fun S1 μ1 e1 nx1 sh1 z1 => ?_)
        have s1 : S1.1 v = some (2, cap) := (e1.1 v (by omega)).trans h.c
        have m1 : μ1 v = μ v := e1.2.2.2 v (by omega) (by omega)
        refine zo_al (t := 1) s1 ?_
        rw [show min cap N = cap by omega]
        refine zo_acB s1 sh1 (by omega) (fun i h2 h3 => by rw [m1]; exact h.m i (by omega) (by omega)) ?_
        refine zo_rt ⟨S1, _, rfl, ⟨e1.1, e1.2.1, e1.2.2.1, fun y hy hz => ?_⟩, nx1, sh1, fun i h2 h3 => ?_, fun i h2 => ?_⟩
        · funext j
          rw [zcp_b (by omega)]
          exact congrFun (e1.2.2.2 y hy hz) j
        · rw [zcp_in (by omega), m1, show 0 + (i - 0) = i by omega]
        · rw [zcp_j (by omega)]
          exact z1 i
      obtain ⟨r, er, S1, μ1, e2, e1, nx1, sh1, c1, c2⟩ := ecp
      rw [e2] at er
      refine zo_bn er ?_
      have hb1 : S1.1 b = some (0, 8) := (e1.1 b (by omega)).trans h.o
      have hbm : μ1 b = μ b := e1.2.2.2 b (by omega) (by omega)
      refine zo_pr3 hb1 (by omega) rfl ?_
      refine zo_rt ⟨_, _, S.2.2, N, rfl, ?_, hN1.1⟩
      have e3 := h.e.tr e1
      refine Bq.mk ⟨hx, ⟨e3.1, fun y j hy => ?_, e3.2.2.1, e3.2.2.2⟩, hb1, zup_at, sh1, ⟨hnb.1, by show b < S1.2.2; omega⟩, ⟨by omega, by show S.2.2 < S1.2.2; omega⟩, by omega, by omega, by omega, (congrFun hbm 1).trans h.k1, (congrFun hbm 3).trans h.k3, fun k z hk => ?_, h.g, fun i h2 h3 => ?_⟩
      · show zup S1.2.1 b 0 S.2.2 y j = S0.2.1 y j
        rw [zup_b (by omega)]
        exact e3.2.1 y j hy
      · have hkl := (List.getElem?_eq_some_iff.mp hk).1
        rw [c1 _ (by omega) (by omega)]
        exact h.y k z hk
      · by_cases h4 : i < cap
        · rw [c1 i h2 h4]
          exact h.m i h2 h4
        · rw [c2 i (by omega)]
          decide
    · exact zo_rt ⟨S, μ, v, cap, rfl, h, by omega⟩
  obtain ⟨r, er, S1, μ1, v1, c1, e2, h1⟩ := key
  rw [e2] at er
  exact ⟨S1, μ1, v1, c1, er, h1⟩
/-- what is written behind the text -/
theorem Bq.put (h : Bq x S0 μ0 S μ b v cap l) (hu : (l.length : Int) + u.length ≤ cap) (hf : ∀ y, y ≠ b → y ≠ v → μ' y = μ y) (h1 : μ' b 1 = 0) (h3 : μ' b 3 = (l.length : Int) + u.length) (hl : ∀ i : Int, 0 ≤ i → i < (l.length : Int) → μ' v i = μ v i) (hy : ∀ (k : Nat) (z : Int), u[k]? = some z → μ' v ((l.length : Int) + (k : Int)) = z) (hg : ∀ z, z ∈ u → 0 ≤ z ∧ z < 128) (hm : ∀ i : Int, (l.length : Int) + u.length ≤ i → μ' v i = μ v i) : Bq x S0 μ0 S μ' b v cap (l ++ u) := by
  have hx := h.x0
  have hnb := h.nb
  have hnv := h.nv
  have hlen : ((l ++ u).length : Int) = (l.length : Int) + u.length := by rw [List.length_append]; rfl
  refine Bq.mk ⟨hx, ⟨h.e.1, h.e.2.1, h.e.2.2.1, fun y h4 h5 => (hf y (by omega) (by omega)).trans (h.e.2.2.2 y h4 h5)⟩, h.o, h.r, h.c, hnb, hnv, h.bv, by rw [hlen]; exact hu, h.cm, h1, by rw [hlen]; exact h3, fun k z hk => ?_, fun z hz => ?_, fun i h4 h5 => ?_⟩
  · by_cases hk1 : k < l.length
    · rw [List.getElem?_append_left hk1] at hk
      rw [hl _ (by omega) (by omega)]
      exact h.y k z hk
    · rw [List.getElem?_append_right (by omega)] at hk
      have h6 := hy (k - l.length) z hk
      rw [show (l.length : Int) + ((k - l.length : Nat) : Int) = (k : Int) by omega] at h6
      exact h6
  · rcases List.mem_append.mp hz with h4 | h4
    · exact h.g z h4
    · exact hg z h4
  · by_cases h6 : i < (l.length : Int)
    · rw [hl i h4 h6]
      exact h.m i h4 h5
    · by_cases h7 : i < (l.length : Int) + u.length
      · have h8 : (i - (l.length : Int)).toNat < u.length := by omega
        have h9 := hy (i - (l.length : Int)).toNat _ (List.getElem?_eq_getElem h8)
        rw [show (l.length : Int) + (((i - (l.length : Int)).toNat : Nat) : Int) = i by omega] at h9
        rw [h9]
        have h10 := hg _ (List.getElem_mem h8)
        omega
      · rw [hm i (by omega)]
        exact h.m i h4 h5
theorem zb_g : ∀ j : Fin 25, ∀ z, z ∈ zwrd (j : Nat) → 0 ≤ z ∧ z < 128 := by decide +kernel
theorem wrd_at {j k : Nat} {z : Int} (h : (zwrd j)[k]? = some z) : zbyt j (k : Int) = z := by
  unfold zwrd at h
  rw [List.getElem?_map] at h
  unfold zbyt
  rw [Int.toNat_natCast, List.getD_eq_getElem?_getD]
  cases h2 : (zsb j)[k]? with
  | none =>
    rw [h2] at h
    cases h
  | some y =>
    rw [h2] at h
    exact Option.some.inj h
theorem wrd_ln (j : Nat) : zlen j = ((zwrd j).length : Int) := by unfold zlen zwrd; rw [List.length_map]
/-- a constant text behind it -/
theorem b_str (h : Bq x S0 μ0 S μ b v cap l) {j : Nat} (hj : j < 25) (hm : (l.length : Int) + (zwrd j).length ≤ 500) : ∃ S' μ' v' cap', f_J4_append_15ec4 b (j : Int) (S, μ) = some (.inl b, (S', μ')) ∧ Bq x S0 μ0 S' μ' b v' cap' (l ++ zwrd j) := by
  have hlc := h.lc
  have hcm := h.cm
  have hw := wrd_ln j
  obtain ⟨S1, μ1, v1, c1, e1, h1, hc1⟩ := b_ens h (m := (l.length : Int) + zlen j) (by rw [hw]; omega)
  have hcm1 := h1.cm
  have key : zo (f_J4_append_15ec4 b (j : Int) (S, μ)) (fun r => ∃ S' μ' v' cap', r = (.inl b, (S', μ')) ∧ Bq x S0 μ0 S' μ' b v' cap' (l ++ zwrd j)) := by
    refine j_J4_append_15ec4 ?_
    refine zo_ob h.o (by omega) ?_
    have inn : zo (f_J5_append_cf1ce b (j : Int) (S, μ)) (fun r => r = (.inl b, (S1, zup (zcpS μ1 (j : Int) 0 v1 (l.length : Int) (zlen j)) b 3 ((l.length : Int) + zlen j)))) := by
      refine j_J5_append_cf1ce ?_
      refine zo_pos (by omega) ?_
      refine zo_gf h.o h.k3 (by omega) (by omega) ?_
      rw [Int.toNat_natCast, w32_e (z := (l.length : Int) + zlen j) (by rw [hw]; omega)]
      refine zo_ob h.o (by omega) ?_
      refine zo_bn e1 ?_
      refine zo_gf h1.o h1.k3 (by omega) (by omega) ?_
      refine zo_ob h1.o (by omega) ?_
      have ifl : f_J5_inflateIfNeededFor_a7421 b (j : Int) (S1, μ1) = some (.inl 0, (S1, μ1)) := by
        apply zo_un
        refine j_J5_inflateIfNeededFor_a7421 ?_
        refine zo_neg (by decide) ?_
        refine zo_gf h1.o h1.k1 (by omega) (by omega) ?_
        refine zo_pos (by omega) ?_
        refine zo_pos rfl ?_
        exact zo_rt rfl
      have gby : f_J0_getBytes_840e7 (j : Int) v1 (l.length : Int) 0 (S1, μ1) = some (.inl 0, (S1, zcpS μ1 (j : Int) 0 v1 (l.length : Int) (zlen j))) := by
        apply zo_un
        refine j_J0_getBytes_840e7 ?_
        refine zo_pos (by omega) ?_
        refine zo_pos rfl ?_
        refine zo_pos (by omega) ?_
        refine zo_pos (by omega) ?_
        refine zo_pos (by omega) ?_
        rw [Int.toNat_natCast, shl_0 (c := (l.length : Int)) (by omega)]
        unfold zacS
        refine zo_pos ⟨by omega, by omega, c1, h1.c, by decide, by omega, by rw [hw]; omega, by rw [Int.toNat_natCast]; omega, by omega⟩ ?_
        exact zo_rt rfl
      have put : f_J5_putStringAt_47b60 b (l.length : Int) (j : Int) (S1, μ1) = some (.inl 0, (S1, zcpS μ1 (j : Int) 0 v1 (l.length : Int) (zlen j))) := by
        apply zo_un
        refine j_J5_putStringAt_47b60 ?_
        refine zo_ob h1.o (by omega) ?_
        refine zo_bn ifl ?_
        refine zo_gr h1.o h1.r (by omega) (by omega) ?_
        refine zo_gf h1.o h1.k1 (by omega) (by omega) ?_
        refine zo_pos (by omega) ?_
        refine zo_bn gby ?_
        exact zo_rt rfl
      refine zo_bn put ?_
      have hk3 : zcpS μ1 (j : Int) 0 v1 (l.length : Int) (zlen j) b 3 = (l.length : Int) := (if_neg (fun z => h1.bv z.1)).trans h1.k3
      refine zo_gf h1.o hk3 (by omega) (by omega) ?_
      refine zo_pf 3 h1.o (by omega) (by omega) ?_
      rw [w32_e (z := (l.length : Int) + zlen j) (by rw [hw]; omega)]
      exact zo_rt rfl
    refine zo_bn (zo_un inn) ?_
    refine zo_rt ⟨_, _, v1, c1, rfl, ?_⟩
    have hbv := h1.bv
    refine h1.put (by omega) (fun y h2 h3 => ?_) ?_ ?_ (fun i h2 h3 => ?_) (fun k z hk => ?_) (fun z hz => zb_g ⟨j, hj⟩ z hz) (fun i h2 => ?_)
    · rw [zup_c h2]
      funext i
      exact if_neg (fun z => h3 z.1)
    · rw [zup_j (by decide)]
      exact (if_neg (fun z => hbv z.1)).trans h1.k1
    · rw [← hw]
      exact zup_at
    · rw [zup_b (fun z => hbv z.symm)]
      exact if_neg (by omega)
    · have hkl := (List.getElem?_eq_some_iff.mp hk).1
      rw [zup_b (fun z => hbv z.symm)]
      refine Eq.trans (if_pos ⟨rfl, by omega, by omega⟩) ?_
      rw [Int.toNat_natCast, show 0 + ((l.length : Int) + (k : Int) - (l.length : Int)) = (k : Int) by omega]
      exact wrd_at hk
    · rw [zup_b (fun z => hbv z.symm)]
      exact if_neg (by omega)
  obtain ⟨r, er, S2, μ2, v2, c2, e2, h2⟩ := key
  rw [e2] at er
  exact ⟨S2, μ2, v2, c2, er, h2⟩
/-- a character behind it -/
theorem b_chr (h : Bq x S0 μ0 S μ b v cap l) {w : Int} (hw : 0 ≤ w ∧ w < 128) (hm : (l.length : Int) + 1 ≤ 500) : ∃ S' μ' v' cap', f_J4_append_cf468 b w (S, μ) = some (.inl b, (S', μ')) ∧ Bq x S0 μ0 S' μ' b v' cap' (l ++ [w]) := by
  obtain ⟨S1, μ1, v1, c1, e1, h1, hc1⟩ := b_ens h (m := (l.length : Int) + 1) (by omega)
  have hbv := h1.bv
  have hw8 : w8 (w8 w) = w := by
    unfold w8
    rw [Int.bmod_def, Int.bmod_def]
    omega
  have key : zo (f_J4_append_cf468 b w (S, μ)) (fun r => ∃ S' μ' v' cap', r = (.inl b, (S', μ')) ∧ Bq x S0 μ0 S' μ' b v' cap' (l ++ [w])) := by
    refine j_J4_append_cf468 ?_
    refine zo_ob h.o (by omega) ?_
    have inn : zo (f_J5_append_3fe6f b w (S, μ)) (fun r => r = (.inl b, (S1, zup (zup μ1 b 3 ((l.length : Int) + 1)) v1 (l.length : Int) w))) := by
      refine j_J5_append_3fe6f ?_
      refine zo_gf h.o h.k3 (by omega) (by omega) ?_
      rw [w32_e (z := (l.length : Int) + 1) (by omega)]
      refine zo_ob h.o (by omega) ?_
      refine zo_bn e1 ?_
      refine zo_ob h1.o (by omega) ?_
      have il1 : f_J5_isLatin1_aae02 b (S1, μ1) = some (.inl 1, (S1, μ1)) := by
        apply zo_un
        refine j_J5_isLatin1_aae02 ?_
        refine zo_neg (by decide) ?_
        refine zo_gf h1.o h1.k1 (by omega) (by omega) ?_
        refine zo_pos rfl ?_
        exact zo_rt rfl
      refine zo_bn il1 ?_
      refine zo_neg (by decide) ?_
      have enc : f_J1_canEncode_fc78d w (S1, μ1) = some (.inl 1, (S1, μ1)) := by
        apply zo_un
        refine j_J1_canEncode_fc78d ?_
        refine zo_neg (by omega) ?_
        exact zo_rt rfl
      refine zo_bn enc ?_
      refine zo_neg (by decide) ?_
      refine zo_gr h1.o h1.r (by omega) (by omega) ?_
      refine zo_gf h1.o h1.k3 (by omega) (by omega) ?_
      rw [w32_e (z := (l.length : Int) + 1) (by omega)]
      refine zo_pf 3 h1.o (by omega) (by omega) ?_
      refine zo_si h1.c (by omega) ?_
      rw [hw8]
      exact zo_rt rfl
    refine zo_bn (zo_un inn) ?_
    refine zo_rt ⟨_, _, v1, c1, rfl, ?_⟩
    have hl1 : ([w].length : Int) = 1 := rfl
    refine h1.put (by omega) (fun y h2 h3 => ?_) ?_ ?_ (fun i h2 h3 => ?_) (fun k z hk => ?_) (fun z hz => ?_) (fun i h2 => ?_)
    · rw [zup_c h3, zup_c h2]
    · rw [zup_b hbv, zup_j (by decide)]
      exact h1.k1
    · rw [zup_b hbv, hl1]
      exact zup_at
    · rw [zup_j (by omega), zup_b (fun z => hbv z.symm)]
    · have hkl := (List.getElem?_eq_some_iff.mp hk).1
      have hk0 : k = 0 := by
        have : [w].length = 1 := rfl
        omega
      subst hk0
      have hz : w = z := Option.some.inj hk
      rw [← hz, show (l.length : Int) + ((0 : Nat) : Int) = (l.length : Int) by omega]
      exact zup_at
    · rw [List.mem_singleton.mp hz]
      exact hw
    · rw [zup_j (by omega), zup_b (fun z => hbv z.symm)]
  obtain ⟨r, er, S2, μ2, v2, c2, e2, h2⟩ := key
  rw [e2] at er
  exact ⟨S2, μ2, v2, c2, er, h2⟩
/-- a number's digits -/
def zdgt (n : Int) : List Int := if n < 10 then [48 + n] else if n < 100 then [48 + n / 10, 48 + n % 10] else [48 + n / 100, 48 + n / 10 % 10, 48 + n % 10]
theorem zdgt1 {n : Int} (h : n < 10) : zdgt n = [48 + n] := if_pos h
theorem zdgt2 {n : Int} (h : ¬ n < 10) (h2 : n < 100) : zdgt n = [48 + n / 10, 48 + n % 10] := (if_neg h).trans (if_pos h2)
theorem zdgt3 {n : Int} (h : ¬ n < 100) : zdgt n = [48 + n / 100, 48 + n / 10 % 10, 48 + n % 10] := (if_neg (by omega)).trans (if_neg h)
theorem dc_len {n : Int} (hn : 0 ≤ n ∧ n < 1000) : 1 ≤ (zdgt n).length ∧ (zdgt n).length ≤ 3 := by
  by_cases h1 : n < 10
  · rw [zdgt1 h1]
    exact ⟨show 1 ≤ 1 by decide, show 1 ≤ 3 by decide⟩
  · by_cases h2 : n < 100
    · rw [zdgt2 h1 h2]
      exact ⟨show 1 ≤ 2 by decide, show 2 ≤ 3 by decide⟩
    · rw [zdgt3 h2]
      exact ⟨show 1 ≤ 3 by decide, show 3 ≤ 3 by decide⟩
theorem dc_g {n : Int} (hn : 0 ≤ n ∧ n < 1000) : ∀ z, z ∈ zdgt n → 48 ≤ z ∧ z ≤ 57 := by
  intro z hz
  by_cases h1 : n < 10
  · rw [zdgt1 h1] at hz
    rw [List.mem_singleton.mp hz]
    omega
  · by_cases h2 : n < 100
    · rw [zdgt2 h1 h2] at hz
      rcases List.mem_cons.mp hz with h | h
      · omega
      · rw [List.mem_singleton.mp h]
        omega
    · rw [zdgt3 h2] at hz
      rcases List.mem_cons.mp hz with h | h
      · omega
      · rcases List.mem_cons.mp h with h | h
        · omega
        · rw [List.mem_singleton.mp h]
          omega
theorem b_size {n : Int} {σ : zS} (hn : 0 ≤ n ∧ n < 1000) : f_J6_stringSize_0f7a4 n σ = some (.inl ((zdgt n).length : Int), σ) := by
  apply zo_un
  refine j_J6_stringSize_0f7a4 ?_
  refine zo_neg (by omega) ?_
  have e0 : zFU = 999997 + 1 + 1 + 1 := rfl
  rw [e0, w32_e (z := -n) (by omega)]
  refine j_J6_stringSize_0f7a4_16 ?_
  refine zo_pos (by decide) ?_
  by_cases h1 : n < 10
  · refine zo_pos (by omega) ?_
    rw [zdgt1 h1]
    exact zo_rt (by rw [w32_e (by decide)]; rfl)
  · refine zo_neg (by omega) ?_
    rw [w32_e (z := 10 * (-10)) (by decide), w32_e (z := 1 + 1) (by decide)]
    refine j_J6_stringSize_0f7a4_16 ?_
    refine zo_pos (by decide) ?_
    by_cases h2 : n < 100
    · refine zo_pos (by omega) ?_
      rw [zdgt2 h1 h2]
      exact zo_rt (by rw [w32_e (by decide)]; rfl)
    · refine zo_neg (by omega) ?_
      rw [w32_e (z := 10 * (10 * (-10))) (by decide), w32_e (z := 1 + 1 + 1) (by decide)]
      refine j_J6_stringSize_0f7a4_16 ?_
      refine zo_pos (by decide) ?_
      refine zo_pos (by omega) ?_
      rw [zdgt3 h2]
      exact zo_rt (by rw [w32_e (by decide)]; rfl)
theorem w8_d {z : Int} (h : 0 ≤ z ∧ z < 128) : w8 z = z := by
  unfold w8
  rw [Int.bmod_def]
  omega
theorem td_e {n : Int} (hn : 0 ≤ n) : Int.tdiv (-n) 100 = -(n / 100) := by
  rw [Int.neg_tdiv, Int.tdiv_eq_ediv_of_nonneg hn]
/-- the digits are written from behind -/
theorem b_get {n e N a : Int} (hn : 0 ≤ n ∧ n < 1000) (ha : S.1 a = some (2, N)) (he : ((zdgt n).length : Int) ≤ e ∧ e ≤ N ∧ N ≤ 2000) : ∃ μ', f_J6_getChars_ba4f3 n e a (S, μ) = some (.inl (e - (zdgt n).length), (S, μ')) ∧ (∀ y, y ≠ a → μ' y = μ y) ∧ (∀ i, (i < e - (zdgt n).length ∨ e ≤ i) → μ' a i = μ a i) ∧ (∀ (k : Nat) (z : Int), (zdgt n)[k]? = some z → μ' a (e - (zdgt n).length + (k : Int)) = z) := by
  refine zo_ux (P := fun μ' => (∀ y, y ≠ a → μ' y = μ y) ∧ (∀ i, (i < e - (zdgt n).length ∨ e ≤ i) → μ' a i = μ a i) ∧ (∀ (k : Nat) (z : Int), (zdgt n)[k]? = some z → μ' a (e - (zdgt n).length + (k : Int)) = z)) ?_
  refine j_J6_getChars_ba4f3 ?_
  refine zo_neg (by omega) ?_
  refine zo_pos rfl ?_
  have e0 : zFU = 999998 + 1 + 1 := rfl
  rw [e0, w32_e (z := -n) (by omega)]
  refine j_J6_getChars_ba4f3_22 ?_
  by_cases h1 : n < 10
  · have hl : ((zdgt n).length : Int) = 1 := by rw [zdgt1 h1]; rfl
    rw [hl] at he ⊢
    refine zo_pos (by omega) ?_
    refine j_J6_getChars_ba4f3_72 ?_
    rw [w32_e (z := -(-n)) (by omega), w32_e (z := e + (-1)) (by omega)]
    refine zo_sd (by omega) ?_
    refine zo_si ha (by omega) ?_
    refine zo_neg (by omega) ?_
    refine j_J6_getChars_ba4f3_104 ?_
    refine zo_pos rfl ?_
    have ev : w8 (zdg1 3 (-(-n))) = 48 + n := by
      have z : zdg1 3 (-(-n)) = 48 + (-(-n)) % 10 := rfl
      rw [z, w8_d (by omega)]
      omega
    rw [ev]
    refine zo_rt ⟨_, rfl, fun y hy => zup_c hy, fun i hi => zup_j (by omega), fun k z hk => ?_⟩
    rw [zdgt1 h1] at hk
    have hk0 : k = 0 := by
      have z1 := (List.getElem?_eq_some_iff.mp hk).1
      have z2 : [48 + n].length = 1 := rfl
      omega
    subst hk0
    have hz : 48 + n = z := Option.some.inj hk
    rw [← hz, show e - 1 + ((0 : Nat) : Int) = e + (-1) by omega]
    exact zup_at
  · by_cases h2 : n < 100
    · have hl : ((zdgt n).length : Int) = 2 := by rw [zdgt2 h1 h2]; rfl
      rw [hl] at he ⊢
      refine zo_pos (by omega) ?_
      refine j_J6_getChars_ba4f3_72 ?_
      rw [w32_e (z := -(-n)) (by omega), w32_e (z := e + (-1)) (by omega), w32_e (z := e + (-1) + (-1)) (by omega)]
      refine zo_sd (by omega) ?_
      refine zo_si ha (by omega) ?_
      refine zo_pos (by omega) ?_
      refine zo_sd (by omega) ?_
      refine zo_si ha (by omega) ?_
      refine j_J6_getChars_ba4f3_104 ?_
      refine zo_pos rfl ?_
      have ev : w8 (zdg1 3 (-(-n))) = 48 + n % 10 := by
        have z : zdg1 3 (-(-n)) = 48 + (-(-n)) % 10 := rfl
        rw [z, w8_d (by omega), Int.neg_neg]
      have ew : w8 (zdg1 4 (-(-n))) = 48 + n / 10 := by
        have z : zdg1 4 (-(-n)) = 48 + (-(-n)) / 10 := rfl
        rw [z, w8_d (by omega), Int.neg_neg]
      rw [ev, ew]
      refine zo_rt ⟨_, by rw [show e + (-1) + (-1) = e - 2 by omega], fun y hy => (zup_c hy).trans (zup_c hy), fun i hi => (zup_j (by omega)).trans (zup_j (by omega)), fun k z hk => ?_⟩
      rw [zdgt2 h1 h2] at hk
      match k, hk with
      | 0, hk =>
        have hz : 48 + n / 10 = z := Option.some.inj hk
        rw [← hz, show e - 2 + ((0 : Nat) : Int) = e - 2 by omega]
        exact zup_at
      | 1, hk =>
        have hz : 48 + n % 10 = z := Option.some.inj hk
        rw [← hz, show e - 2 + ((1 : Nat) : Int) = e + (-1) by omega, zup_j (by omega)]
        exact zup_at
      | k + 2, hk => cases hk
    · have hl : ((zdgt n).length : Int) = 3 := by rw [zdgt3 h2]; rfl
      rw [hl] at he ⊢
      refine zo_neg (by omega) ?_
      refine zo_neg (by decide) ?_
      rw [td_e hn.1, w32_e (z := -(n / 100)) (by omega), w32_e (z := -(n / 100) * 100) (by omega), w32_e (z := -(n / 100) * 100 - -n) (by omega), w32_e (z := e + (-1)) (by omega), w32_e (z := e + (-1) + (-1)) (by omega)]
      refine zo_sd (by omega) ?_
      refine zo_si ha (by omega) ?_
      refine zo_sd (by omega) ?_
      refine zo_si ha (by omega) ?_
      refine j_J6_getChars_ba4f3_22 ?_
      refine zo_pos (by omega) ?_
      refine j_J6_getChars_ba4f3_72 ?_
      rw [w32_e (z := -(-(n / 100))) (by omega), w32_e (z := e + (-1) + (-1) + (-1)) (by omega)]
      refine zo_sd (by omega) ?_
      refine zo_si ha (by omega) ?_
      refine zo_neg (by omega) ?_
      refine j_J6_getChars_ba4f3_104 ?_
      refine zo_pos rfl ?_
      have ev : w8 (zdg1 3 (-(n / 100) * 100 - -n)) = 48 + n % 10 := by
        have z : zdg1 3 (-(n / 100) * 100 - -n) = 48 + (-(n / 100) * 100 - -n) % 10 := rfl
        rw [z, w8_d (by omega)]
        omega
      have ew : w8 (zdg1 4 (-(n / 100) * 100 - -n)) = 48 + n / 10 % 10 := by
        have z : zdg1 4 (-(n / 100) * 100 - -n) = 48 + (-(n / 100) * 100 - -n) / 10 := rfl
        rw [z, w8_d (by omega)]
        omega
      have ex : w8 (zdg1 3 (-(-(n / 100)))) = 48 + n / 100 := by
        have z : zdg1 3 (-(-(n / 100))) = 48 + (-(-(n / 100))) % 10 := rfl
        rw [z, w8_d (by omega)]
        omega
      rw [ev, ew, ex]
      refine zo_rt ⟨_, by rw [show e + (-1) + (-1) + (-1) = e - 3 by omega], fun y hy => (zup_c hy).trans ((zup_c hy).trans (zup_c hy)), fun i hi => (zup_j (by omega)).trans ((zup_j (by omega)).trans (zup_j (by omega))), fun k z hk => ?_⟩
      rw [zdgt3 h2] at hk
      match k, hk with
      | 0, hk =>
        have hz : 48 + n / 100 = z := Option.some.inj hk
        rw [← hz, show e - 3 + ((0 : Nat) : Int) = e - 3 by omega]
        exact zup_at
      | 1, hk =>
        have hz : 48 + n / 10 % 10 = z := Option.some.inj hk
        rw [← hz, show e - 3 + ((1 : Nat) : Int) = e + (-1) + (-1) by omega, zup_j (by omega)]
        exact zup_at
      | 2, hk =>
        have hz : 48 + n % 10 = z := Option.some.inj hk
        rw [← hz, show e - 3 + ((2 : Nat) : Int) = e + (-1) by omega, zup_j (by omega), zup_j (by omega)]
        exact zup_at
      | k + 3, hk => cases hk
/-- a number behind it -/
theorem b_num (h : Bq x S0 μ0 S μ b v cap l) {n : Int} (hn : 0 ≤ n ∧ n < 1000) (hm : (l.length : Int) + (zdgt n).length ≤ 500) : ∃ S' μ' v' cap', f_J4_append_bf812 b n (S, μ) = some (.inl b, (S', μ')) ∧ Bq x S0 μ0 S' μ' b v' cap' (l ++ zdgt n) := by
  have hdl := dc_len hn
  obtain ⟨S1, μ1, v1, c1, e1, h1, hc1⟩ := b_ens h (m := (l.length : Int) + (zdgt n).length) (by omega)
  have hbv := h1.bv
  have hcm1 := h1.cm
  obtain ⟨μ2, e2, g1, g2, g3⟩ := b_get (μ := μ1) (e := (l.length : Int) + (zdgt n).length) hn h1.c (by omega)
  have key : zo (f_J4_append_bf812 b n (S, μ)) (fun r => ∃ S' μ' v' cap', r = (.inl b, (S', μ')) ∧ Bq x S0 μ0 S' μ' b v' cap' (l ++ zdgt n)) := by
    refine j_J4_append_bf812 ?_
    refine zo_ob h.o (by omega) ?_
    have inn : zo (f_J5_append_c97b9 b n (S, μ)) (fun r => r = (.inl b, (S1, zup μ2 b 3 ((l.length : Int) + (zdgt n).length)))) := by
      refine j_J5_append_c97b9 ?_
      refine zo_gf h.o h.k3 (by omega) (by omega) ?_
      refine zo_bn (b_size hn) ?_
      rw [w32_e (z := (l.length : Int) + (zdgt n).length) (by omega)]
      refine zo_ob h.o (by omega) ?_
      refine zo_bn e1 ?_
      refine zo_ob h1.o (by omega) ?_
      have il1 : f_J5_isLatin1_aae02 b (S1, μ1) = some (.inl 1, (S1, μ1)) := by
        apply zo_un
        refine j_J5_isLatin1_aae02 ?_
        refine zo_neg (by decide) ?_
        refine zo_gf h1.o h1.k1 (by omega) (by omega) ?_
        refine zo_pos rfl ?_
        exact zo_rt rfl
      refine zo_bn il1 ?_
      refine zo_neg (by decide) ?_
      refine zo_gr h1.o h1.r (by omega) (by omega) ?_
      refine zo_bn e2 ?_
      refine zo_pf 3 h1.o (by omega) (by omega) ?_
      exact zo_rt rfl
    refine zo_bn (zo_un inn) ?_
    refine zo_rt ⟨_, _, v1, c1, rfl, ?_⟩
    refine h1.put (by omega) (fun y h2 h3 => ?_) ?_ zup_at (fun i h2 h3 => ?_) (fun k z hk => ?_) (fun z hz => by have := dc_g hn z hz; omega) (fun i h2 => ?_)
    · rw [zup_c h2]
      exact g1 y h3
    · rw [zup_j (by decide), g1 b hbv]
      exact h1.k1
    · rw [zup_b (fun z => hbv z.symm)]
      exact g2 i (by omega)
    · rw [zup_b (fun z => hbv z.symm)]
      have g4 := g3 k z hk
      rw [show (l.length : Int) + (zdgt n).length - (zdgt n).length + (k : Int) = (l.length : Int) + (k : Int) by omega] at g4
      exact g4
    · rw [zup_b (fun z => hbv z.symm)]
      exact g2 i (by omega)
  obtain ⟨r, er, S2, μ2, v2, c2, e2, h2⟩ := key
  rw [e2] at er
  exact ⟨S2, μ2, v2, c2, er, h2⟩
end R8
