/-! R9: texts -/
def Sq (x : Int) (S0 : zG) (μ0 : zM) (S : zG) (μ : zM) (s v : Int) (l : List Int) : Prop := (0 ≤ x ∧ x + 66 ≤ S0.2.2) ∧ (Ext x S0 S μ0 μ) ∧ (S.1 s = some (0, 9)) ∧ (S.2.1 s 0 = v) ∧ (S.1 v = some (2, (l.length : Int))) ∧ (S0.2.2 ≤ s) ∧ (S0.2.2 ≤ v) ∧ (μ s 1 = 0) ∧ (∀ (k : Nat) (z : Int), l[k]? = some z → μ v (k : Int) = z) ∧ (∀ z, z ∈ l → 0 ≤ z ∧ z < 128) ∧ (l.length ≤ 500)
theorem Sq.mk {x : Int} {S0 : zG} {μ0 : zM} {S : zG} {μ : zM} {s v : Int} {l : List Int} (h : (0 ≤ x ∧ x + 66 ≤ S0.2.2) ∧ (Ext x S0 S μ0 μ) ∧ (S.1 s = some (0, 9)) ∧ (S.2.1 s 0 = v) ∧ (S.1 v = some (2, (l.length : Int))) ∧ (S0.2.2 ≤ s) ∧ (S0.2.2 ≤ v) ∧ (μ s 1 = 0) ∧ (∀ (k : Nat) (z : Int), l[k]? = some z → μ v (k : Int) = z) ∧ (∀ z, z ∈ l → 0 ≤ z ∧ z < 128) ∧ (l.length ≤ 500)) : Sq x S0 μ0 S μ s v l := h
theorem Sq.x0 {x : Int} {S0 : zG} {μ0 : zM} {S : zG} {μ : zM} {s v : Int} {l : List Int} (h : Sq x S0 μ0 S μ s v l) : 0 ≤ x ∧ x + 66 ≤ S0.2.2 := h.1
theorem Sq.e {x : Int} {S0 : zG} {μ0 : zM} {S : zG} {μ : zM} {s v : Int} {l : List Int} (h : Sq x S0 μ0 S μ s v l) : Ext x S0 S μ0 μ := h.2.1
theorem Sq.o {x : Int} {S0 : zG} {μ0 : zM} {S : zG} {μ : zM} {s v : Int} {l : List Int} (h : Sq x S0 μ0 S μ s v l) : S.1 s = some (0, 9) := h.2.2.1
theorem Sq.r {x : Int} {S0 : zG} {μ0 : zM} {S : zG} {μ : zM} {s v : Int} {l : List Int} (h : Sq x S0 μ0 S μ s v l) : S.2.1 s 0 = v := h.2.2.2.1
theorem Sq.c {x : Int} {S0 : zG} {μ0 : zM} {S : zG} {μ : zM} {s v : Int} {l : List Int} (h : Sq x S0 μ0 S μ s v l) : S.1 v = some (2, (l.length : Int)) := h.2.2.2.2.1
theorem Sq.ns {x : Int} {S0 : zG} {μ0 : zM} {S : zG} {μ : zM} {s v : Int} {l : List Int} (h : Sq x S0 μ0 S μ s v l) : S0.2.2 ≤ s := h.2.2.2.2.2.1
theorem Sq.nv {x : Int} {S0 : zG} {μ0 : zM} {S : zG} {μ : zM} {s v : Int} {l : List Int} (h : Sq x S0 μ0 S μ s v l) : S0.2.2 ≤ v := h.2.2.2.2.2.2.1
theorem Sq.k1 {x : Int} {S0 : zG} {μ0 : zM} {S : zG} {μ : zM} {s v : Int} {l : List Int} (h : Sq x S0 μ0 S μ s v l) : μ s 1 = 0 := h.2.2.2.2.2.2.2.1
theorem Sq.y {x : Int} {S0 : zG} {μ0 : zM} {S : zG} {μ : zM} {s v : Int} {l : List Int} (h : Sq x S0 μ0 S μ s v l) : ∀ (k : Nat) (z : Int), l[k]? = some z → μ v (k : Int) = z := h.2.2.2.2.2.2.2.2.1
theorem Sq.g {x : Int} {S0 : zG} {μ0 : zM} {S : zG} {μ : zM} {s v : Int} {l : List Int} (h : Sq x S0 μ0 S μ s v l) : ∀ z, z ∈ l → 0 ≤ z ∧ z < 128 := h.2.2.2.2.2.2.2.2.2.1
theorem Sq.n {x : Int} {S0 : zG} {μ0 : zM} {S : zG} {μ : zM} {s v : Int} {l : List Int} (h : Sq x S0 μ0 S μ s v l) : l.length ≤ 500 := h.2.2.2.2.2.2.2.2.2.2
section R9
variable {x : Int} {S0 S S' : zG} {μ0 μ μ' : zM} {b v cap s : Int} {l u : List Int} {H : Int → zS → zFn} {Q : zR × zS → Prop} {A : zFn} {G : zS → zFn}
theorem y_nw {kk : zK} (q : ∀ S1 μ1, Ext x S S1 μ μ1 → S1.2.2 = S.2.2 + 1 → S1.1 S.2.2 = some kk → (∀ j, μ1 S.2.2 j = 0) → zo (H S.2.2 (S1, μ1)) Q) : zo (znw (S, μ) kk H) Q := by
  refine zo_nw2 (a := S.2.2) (c := S.2.2 + 1) rfl rfl ?_
  rintro ⟨S1, μ1⟩ m
  exact q S1 μ1 ⟨fun y hy => m.sh y (by omega), fun y j hy => m.rf y j (by omega), by rw [show S1.2.2 = S.2.2 + 1 from m.nx]; omega, fun y hy _ => by funext j; exact m.m y j (by omega)⟩ m.nx m.sh0 m.m0
theorem zo_cl {a n : Int} {N : Nat} (h : S.1 a = some (2, n)) (hn : n ≤ (N : Int)) (hy : ∀ i : Int, 0 ≤ i → i < n → -128 ≤ μ a i ∧ μ a i < 128) (q : zo (H S.2.2 (zmkc (S, μ) a n)) Q) : zo (zcl N a (S, μ) H) Q := by
  unfold zcl
  rw [show (S, μ).1.1 a = some (2, n) from h]
  exact zo_pos ⟨rfl, hn, fun i h1 h2 => hy i h1 (by dsimp only at h2; omega)⟩ q
theorem zo_cb {a k : Int} {σ : zS} (h : σ.1.1 a = some (2, k)) (q : zo A Q) : zo (zcb a σ A) Q := by
  unfold zcb
  rw [h]
  exact zo_pos rfl q
theorem b_init {j : Nat} (hj : j < 25) (hx : 0 ≤ x ∧ x + 66 ≤ S0.2.2) (e : Ext x S0 S μ0 μ) (ho : S.1 b = some (0, 8)) (hb : S0.2.2 ≤ b ∧ b < S.2.2) (h3 : μ b 3 = 0) (hw : (zwrd j).length ≤ 48) : ∃ S' μ' v' cap', f_J4_init_a7421 b (j : Int) (S, μ) = some (.inl 0, (S', μ')) ∧ Bq x S0 μ0 S' μ' b v' cap' (zwrd j) := by
  have hl := wrd_ln j
  have hen := e.2.2.1
  have key : zo (f_J4_init_a7421 b (j : Int) (S, μ)) (fun r => ∃ S' μ' v' cap', r = (.inl 0, (S', μ')) ∧ Bq x S0 μ0 S' μ' b v' cap' (zwrd j)) := by
    have inn : zo (f_J5_init_a7421 b (j : Int) (S, μ)) (fun r => ∃ S' μ' v' cap', r = (.inl 0, (S', μ')) ∧ Bq x S0 μ0 S' μ' b v' cap' (zwrd j)) := by
      refine j_J5_init_a7421 ?_
      refine zo_pos (by omega) ?_
      refine zo_pos (by omega) ?_
      rw [Int.toNat_natCast]
      refine zo_pos (by omega) ?_
      refine zo_pos (by omega) ?_
      refine zo_pos (by decide) ?_
      refine zo_pf 1 ho (by omega) (by omega) ?_
      refine zo_pos rfl ?_
      rw [w32_e (z := zlen j + 16) (by omega)]
      refine y_na (x := x) (by omega) (fun S1 μ1 e1 nx1 sh1 z1 => ?_)
      have e2 : Ext x S0 S μ0 (zup μ b 1 0) := e.up hb.1
      have e3 := e2.tr e1
      have ho1 : S1.1 b = some (0, 8) := (e1.1 b (by omega)).trans ho
      have hm1 : μ1 b = zup μ b 1 0 b := e1.2.2.2 b (by omega) (by omega)
      refine zo_pr3 ho1 (by omega) rfl ?_
      have hB : Bq x S0 μ0 (S1.1, zup S1.2.1 b 0 S.2.2, S1.2.2) μ1 b S.2.2 (zlen j + 16) [] := by
        refine Bq.mk ⟨hx, ⟨e3.1, fun y i hy => ?_, e3.2.2.1, e3.2.2.2⟩, ho1, zup_at, sh1, ⟨hb.1, by show b < S1.2.2; omega⟩, ⟨by omega, by show S.2.2 < S1.2.2; omega⟩, by omega, by show ((0 : Nat) : Int) ≤ _; omega, by omega, ?_, ?_, fun k z hk => (by cases hk), fun z hz => absurd hz List.not_mem_nil, fun i h4 h5 => ?_⟩
        · show zup S1.2.1 b 0 S.2.2 y i = S0.2.1 y i
          rw [zup_b (by omega)]
          exact e3.2.1 y i hy
        · rw [hm1]
          exact zup_at
        · rw [hm1, zup_j (by decide)]
          exact h3
        · rw [z1 i]
          decide
      refine zo_ob hB.o (by omega) ?_
      obtain ⟨S2, μ2, v2, c2, e4, h4⟩ := b_str hB hj (by show ((0 : Nat) : Int) + _ ≤ 500; omega)
      have e5 : f_J4_append_cf1ce b (j : Int) ((S1.1, zup S1.2.1 b 0 S.2.2, S1.2.2), μ1) = some (.inl b, (S2, μ2)) := by
        apply zo_un
        refine j_J4_append_cf1ce ?_
        refine zo_ob hB.o (by omega) ?_
        refine zo_bn e4 ?_
        exact zo_rt rfl
      refine zo_bn e5 ?_
      exact zo_rt ⟨S2, μ2, v2, c2, rfl, h4⟩
    obtain ⟨r, er, S1, μ1, v1, c1, e2, h1⟩ := inn
    rw [e2] at er
    refine j_J4_init_a7421 ?_
    refine zo_pos (by omega) ?_
    refine zo_bn er ?_
    exact zo_rt ⟨S1, μ1, v1, c1, rfl, h1⟩
  obtain ⟨r, er, S1, μ1, v1, c1, e2, h1⟩ := key
  rw [e2] at er
  exact ⟨S1, μ1, v1, c1, er, h1⟩
/-- the text made -/
theorem b_text (h : Bq x S0 μ0 S μ b v cap l) (hl : l.length ≤ 500) : ∃ S' μ' s' v', f_J4_toString_0e30d b (S, μ) = some (.inl s', (S', μ')) ∧ Sq x S0 μ0 S' μ' s' v' l := by
  have hx := h.x0
  have hnb := h.nb
  have hnv := h.nv
  have hlc := h.lc
  have hcm := h.cm
  have hen := h.e.2.2.1
  have key : zo (f_J4_toString_0e30d b (S, μ)) (fun r => ∃ S' μ' s' v', r = (.inl s', (S', μ')) ∧ Sq x S0 μ0 S' μ' s' v' l) := by
    refine j_J4_toString_0e30d ?_
    refine y_nw (x := x) (fun S1 μ1 e1 nx1 sh1 z1 => ?_)
    refine zo_pos (by omega) ?_
    have ob1 : S1.1 b = some (0, 8) := (e1.1 b (by omega)).trans h.o
    have rb1 : S1.2.1 b 0 = v := (e1.2.1 b 0 (by omega)).trans h.r
    have mb1 : μ1 b = μ b := e1.2.2.2 b (by omega) (by omega)
    have mv1 : μ1 v = μ v := e1.2.2.2 v (by omega) (by omega)
    have cv1 : S1.1 v = some (2, cap) := (e1.1 v (by omega)).trans h.c
    have k1 : μ1 b 1 = 0 := (congrFun mb1 1).trans h.k1
    have k3 : μ1 b 3 = (l.length : Int) := (congrFun mb1 3).trans h.k3
    have e1' : Ext x S0 S1 μ0 (zup μ1 S.2.2 1 0) := (h.e.tr e1).up (by omega)
    have cpy : zo (f_J7_copyOfRange_39247 v 0 (l.length : Int) (S1, zup μ1 S.2.2 1 0)) (fun r => ∃ S2 μ2, r = (.inl S1.2.2, (S2, μ2)) ∧ (S2.1 S1.2.2 = some (2, (l.length : Int)) ∧ (∀ y, y < S1.2.2 → S2.1 y = S1.1 y) ∧ (∀ y j, y < S1.2.2 → S2.2.1 y j = S1.2.1 y j) ∧ S1.2.2 ≤ S2.2.2 ∧ (∀ y, y < S1.2.2 → (y < x + 5 ∨ x + 12 ≤ y) → μ2 y = zup μ1 S.2.2 1 0 y)) ∧ ∀ i : Int, 0 ≤ i → i < (l.length : Int) → μ2 S1.2.2 i = μ v i) := by
      have mv2 : zup μ1 S.2.2 1 0 v = μ v := (zup_c (by omega)).trans mv1
      refine j_J7_copyOfRange_39247 ?_
      refine zo_pos rfl ?_
      refine zo_al (t := 1) cv1 ?_
      refine zo_ite (fun c1 => ?_) (fun c1 => ?_)
      · refine zo_cl cv1 (by show cap ≤ ((1024 : Nat) : Int); omega) (fun i h1 h2 => ?_) ?_
        · rw [mv2]
          exact h.m i h1 h2
        · refine zo_cb (k := cap) (if_pos rfl) ?_
          refine zo_rt ⟨_, _, rfl, ⟨by rw [c1]; exact if_pos rfl, fun y hy => if_neg (by show ¬ y = S1.2.2; omega), fun y j hy => if_neg (by show ¬ y = S1.2.2; omega), by show S1.2.2 ≤ S1.2.2 + 1; omega, fun y hy _ => ?_⟩, fun i h1 h2 => ?_⟩
          · funext j
            exact if_neg (by show ¬ y = S1.2.2; omega)
          · exact (if_pos rfl).trans (congrFun mv2 i)
      · have bt : zo (f_J7_copyOfRangeByte_39247 v 0 (l.length : Int) (S1, zup μ1 S.2.2 1 0)) (fun r => ∃ S2 μ2, r = (.inl S1.2.2, (S2, μ2)) ∧ (S2.1 S1.2.2 = some (2, (l.length : Int)) ∧ (∀ y, y < S1.2.2 → S2.1 y = S1.1 y) ∧ (∀ y j, y < S1.2.2 → S2.2.1 y j = S1.2.1 y j) ∧ S1.2.2 ≤ S2.2.2 ∧ (∀ y, y < S1.2.2 → (y < x + 5 ∨ x + 12 ≤ y) → μ2 y = zup μ1 S.2.2 1 0 y)) ∧ ∀ i : Int, 0 ≤ i → i < (l.length : Int) → μ2 S1.2.2 i = μ v i) := by
          refine j_J7_copyOfRangeByte_39247 ?_
          have eck : f_J7_checkLength_df160 0 (l.length : Int) (S1, zup μ1 S.2.2 1 0) = some (.inl 0, (S1, zup μ1 S.2.2 1 0)) := by
            apply zo_un
            refine j_J7_checkLength_df160 ?_
            refine zo_neg (by omega) ?_
            exact zo_rt rfl
          refine zo_bn eck ?_
          rw [w32_e (z := (l.length : Int) - 0) (by omega)]
          refine y_na (x := x) (by omega) (fun S2 μ2 e2 nx2 sh2 z2 => ?_)
          have cv2 : S2.1 v = some (2, cap) := (e2.1 v (by omega)).trans cv1
          have mv3 : μ2 v = μ v := (e2.2.2.2 v (by omega) (by omega)).trans mv2
          refine zo_al (t := 1) cv2 ?_
          rw [w32_e (z := cap - 0) (by omega), show min (cap - 0) ((l.length : Int) - 0) = (l.length : Int) by omega]
          rw [show (l.length : Int) - 0 = (l.length : Int) by omega] at sh2
          refine zo_acB cv2 sh2 (by omega) (fun i h1 h2 => by rw [mv3]; exact h.m i (by omega) (by omega)) ?_
          refine zo_rt ⟨S2, _, rfl, ⟨sh2, e2.1, e2.2.1, e2.2.2.1, fun y hy hz => ?_⟩, fun i h1 h2 => ?_⟩
          · funext j
            rw [zcp_b (by omega)]
            exact congrFun (e2.2.2.2 y hy hz) j
          · rw [zcp_in (by omega), mv3, show 0 + (i - 0) = i by omega]
        obtain ⟨r, er, S2, μ2, e2, h2⟩ := bt
        rw [e2] at er
        refine zo_bn er ?_
        exact zo_rt ⟨S2, μ2, rfl, h2⟩
    obtain ⟨r, er, S2, μ2, e2, ⟨c1, c2, c3, c4, c5⟩, c6⟩ := cpy
    rw [e2] at er
    have os2 : S2.1 S.2.2 = some (0, 9) := (c2 _ (by omega)).trans sh1
    have ini : f_J0_init_db425 S.2.2 b (-1) (S1, μ1) = some (.inl 0, ((S2.1, zup S2.2.1 S.2.2 0 S1.2.2, S2.2.2), μ2)) := by
      apply zo_un
      refine j_J0_init_db425 ?_
      refine zo_pos (by omega) ?_
      have gv : f_J5_getValue_6d5f1 b (S1, μ1) = some (.inl v, (S1, μ1)) := by
        apply zo_un
        refine j_J5_getValue_6d5f1 ?_
        refine zo_gr ob1 rb1 (by omega) (by omega) ?_
        exact zo_rt rfl
      have ln5 : f_J5_length_8abf5 b (S1, μ1) = some (.inl (l.length : Int), (S1, μ1)) := by
        apply zo_un
        refine j_J5_length_8abf5 ?_
        refine zo_gf ob1 k3 (by omega) (by omega) ?_
        exact zo_rt rfl
      have ln : f_J4_length_8abf5 b (S1, μ1) = some (.inl (l.length : Int), (S1, μ1)) := by
        apply zo_un
        refine j_J4_length_8abf5 ?_
        refine zo_ob ob1 (by omega) ?_
        refine zo_bn ln5 ?_
        exact zo_rt rfl
      have il1 : f_J5_isLatin1_aae02 b (S1, μ1) = some (.inl 1, (S1, μ1)) := by
        apply zo_un
        refine j_J5_isLatin1_aae02 ?_
        refine zo_neg (by decide) ?_
        refine zo_gf ob1 k1 (by omega) (by omega) ?_
        refine zo_pos rfl ?_
        exact zo_rt rfl
      refine zo_ob ob1 (by omega) ?_
      refine zo_bn gv ?_
      refine zo_ob ob1 (by omega) ?_
      refine zo_bn ln ?_
      refine zo_ob ob1 (by omega) ?_
      refine zo_bn il1 ?_
      refine zo_neg (by decide) ?_
      refine zo_pos (by decide) ?_
      refine zo_pf 1 sh1 (by omega) (by omega) ?_
      refine zo_bn er ?_
      refine zo_pr3 os2 (by omega) rfl ?_
      exact zo_rt rfl
    have ini2 : f_J0_init_81219 S.2.2 b (S1, μ1) = some (.inl 0, ((S2.1, zup S2.2.1 S.2.2 0 S1.2.2, S2.2.2), μ2)) := by
      apply zo_un
      refine j_J0_init_81219 ?_
      refine zo_pos (by omega) ?_
      refine zo_bn ini ?_
      exact zo_rt rfl
    refine zo_bn ini2 ?_
    refine zo_rt ⟨_, _, S.2.2, S1.2.2, rfl, ?_⟩
    refine Sq.mk ⟨hx, ⟨fun y hy => (c2 y (by omega)).trans (e1'.1 y hy), fun y j hy => ?_, by show S0.2.2 ≤ S2.2.2; omega, fun y hy hz => (c5 y (by omega) hz).trans (e1'.2.2.2 y hy hz)⟩, os2, zup_at, c1, by omega, by omega, ?_, fun k z hk => ?_, h.g, hl⟩
    · show zup S2.2.1 S.2.2 0 S1.2.2 y j = S0.2.1 y j
      rw [zup_b (by omega)]
      exact (c3 y j (by omega)).trans (e1'.2.1 y j hy)
    · rw [c5 _ (by omega) (by omega)]
      exact zup_at
    · have hkl := (List.getElem?_eq_some_iff.mp hk).1
      rw [c6 _ (by omega) (by omega)]
      exact h.y k z hk
  obtain ⟨r, er, S1, μ1, s1, v1, e2, h1⟩ := key
  rw [e2] at er
  exact ⟨S1, μ1, s1, v1, er, h1⟩
theorem s_len (h : Sq x S0 μ0 S μ s v l) : f_J0_length_8abf5 s (S, μ) = some (.inl (l.length : Int), (S, μ)) := by
  have hn := h.n
  apply zo_un
  refine j_J0_length_8abf5 ?_
  refine zo_gr h.o h.r (by omega) (by omega) ?_
  refine zo_al (t := 1) h.c ?_
  refine zo_ob h.o (by omega) ?_
  have ec : f_J0_coder_7d493 s (S, μ) = some (.inl 0, (S, μ)) := by
    apply zo_un
    refine j_J0_coder_7d493 ?_
    refine zo_neg (by decide) ?_
    refine zo_gf h.o h.k1 (by omega) (by omega) ?_
    refine zo_pos (by decide) ?_
    exact zo_rt rfl
  refine zo_bn ec ?_
  rw [shr_0 (c := (l.length : Int)) (by omega)]
  exact zo_rt rfl
theorem zm_255 : ∀ s : Fin 128, zand ((s : Nat) : Int) 255 = ((s : Nat) : Int) := by decide +kernel
theorem and_255 {z : Int} (h : 0 ≤ z ∧ z < 128) : zand z 255 = z := by
  have e := zm_255 ⟨z.toNat, by omega⟩
  dsimp only at e
  rw [Int.toNat_of_nonneg h.1] at e
  exact e
theorem s_chr (h : Sq x S0 μ0 S μ s v l) {k : Nat} {z : Int} (hk : l[k]? = some z) : f_J0_charAt_5068e s (k : Int) (S, μ) = some (.inl z, (S, μ)) := by
  have hn := h.n
  have hkl := (List.getElem?_eq_some_iff.mp hk).1
  have hz := h.g z (List.mem_of_getElem? hk)
  apply zo_un
  refine j_J0_charAt_5068e ?_
  refine zo_ob h.o (by omega) ?_
  have ec : f_J0_isLatin1_aae02 s (S, μ) = some (.inl 1, (S, μ)) := by
    apply zo_un
    refine j_J0_isLatin1_aae02 ?_
    refine zo_neg (by decide) ?_
    refine zo_gf h.o h.k1 (by omega) (by omega) ?_
    refine zo_pos rfl ?_
    exact zo_rt rfl
  refine zo_bn ec ?_
  refine zo_neg (by decide) ?_
  refine zo_gr h.o h.r (by omega) (by omega) ?_
  have e1 : f_J1_charAt_3b067 v (k : Int) (S, μ) = some (.inl z, (S, μ)) := by
    apply zo_un
    refine j_J1_charAt_3b067 ?_
    refine zo_al (t := 1) h.c ?_
    refine zo_pos (by omega) ?_
    refine zo_ld h.c (by omega) (h.y k z hk) ?_
    rw [and_255 hz]
    refine zo_pos (by omega) ?_
    refine zo_pos (by omega) ?_
    exact zo_rt rfl
  refine zo_bn e1 ?_
  refine zo_pos (by omega) ?_
  exact zo_rt rfl
theorem shl_8 {c : Int} (hc : 0 ≤ c ∧ c < 8388608) : zshl c 8 = 256 * c := by
  have h1 : zshl c 8 = ((BitVec.ofInt 32 c) <<< (8 : Nat)).toInt := rfl
  obtain ⟨k, rfl⟩ : ∃ k : Nat, c = (k : Int) := ⟨c.toNat, by omega⟩
  have h2 : (BitVec.ofInt 32 (k : Int)).toNat = k := by
    rw [BitVec.toNat_ofInt]
    omega
  rw [h1, BitVec.toInt_eq_toNat_bmod, BitVec.toNat_shiftLeft, h2, Nat.shiftLeft_eq]
  rw [Int.bmod_def]
  omega
theorem or_8 {c d : Int} (hc : 0 ≤ c ∧ c < 8388608) (hd : 0 ≤ d ∧ d < 256) : zor (256 * c) d = 256 * c + d := by
  have h1 : zor (256 * c) d = (BitVec.ofInt 32 (256 * c) ||| BitVec.ofInt 32 d).toInt := rfl
  obtain ⟨k, rfl⟩ : ∃ k : Nat, c = (k : Int) := ⟨c.toNat, by omega⟩
  obtain ⟨j, rfl⟩ : ∃ j : Nat, d = (j : Int) := ⟨d.toNat, by omega⟩
  have h2 : (BitVec.ofInt 32 (256 * (k : Int))).toNat = 2 ^ 8 * k := by
    rw [BitVec.toNat_ofInt]
    omega
  have h3 : (BitVec.ofInt 32 (j : Int)).toNat = j := by
    rw [BitVec.toNat_ofInt]
    omega
  rw [h1, BitVec.toInt_eq_toNat_bmod, BitVec.toNat_or, h2, h3, ← Nat.two_pow_add_eq_or_of_lt (show j < 2 ^ 8 by omega)]
  rw [Int.bmod_def]
  omega
theorem shr_n {c : Int} (hc : 0 ≤ c ∧ c < 2147483648) : zshr c 8 = c / 256 ∧ zshr c 16 = c / 65536 ∧ zshr c 24 = c / 16777216 := by
  have h1 : zshr c 8 = ((BitVec.ofInt 32 c).sshiftRight 8).toInt := rfl
  have h2 : zshr c 16 = ((BitVec.ofInt 32 c).sshiftRight 16).toInt := rfl
  have h3 : zshr c 24 = ((BitVec.ofInt 32 c).sshiftRight 24).toInt := rfl
  have h4 : (BitVec.ofInt 32 c).toInt = c := by
    rw [BitVec.toInt_ofInt]
    exact w32_e (by omega)
  rw [h1, h2, h3, BitVec.toInt_sshiftRight, BitVec.toInt_sshiftRight, BitVec.toInt_sshiftRight, h4, Int.shiftRight_eq_div_pow, Int.shiftRight_eq_div_pow, Int.shiftRight_eq_div_pow]
  exact ⟨rfl, rfl, rfl⟩
/-- n bytes of the text from k on, zeros behind it -/
def zpd (l : List Int) : Nat → Nat → List Int
  | _, 0 => []
  | k, n + 1 => l.getD k 0 :: zpd l (k + 1) n
theorem pd_app (l : List Int) (n : Nat) : ∀ m k : Nat, zpd l k m ++ zpd l (k + m) n = zpd l k (m + n) := by
  intro m
  induction m with
  | zero =>
    intro k
    rw [Nat.zero_add]
    rfl
  | succ m ih =>
    intro k
    rw [show k + (m + 1) = k + 1 + m by omega, show m + 1 + n = m + n + 1 by omega]
    exact congrArg (l.getD k 0 :: ·) (ih (k + 1))
theorem pd_len (l : List Int) : ∀ n k : Nat, (zpd l k n).length = n := by
  intro n
  induction n with
  | zero => exact fun _ => rfl
  | succ n ih => exact fun k => congrArg (· + 1) (ih (k + 1))
theorem pd_at (l : List Int) : ∀ n k i : Nat, i < n → (zpd l k n)[i]? = some (l.getD (k + i) 0) := by
  intro n
  induction n with
  | zero => exact fun _ _ h => absurd h (by omega)
  | succ n ih =>
    intro k i hi
    cases i with
    | zero => rfl
    | succ i =>
      show (zpd l (k + 1) n)[i]? = _
      rw [ih (k + 1) i (by omega), show k + 1 + i = k + (i + 1) by omega]
theorem pd_take {n : Nat} (h : l.length ≤ n) : (zpd l 0 n).take l.length = l := by
  apply List.ext_getElem?
  intro i
  by_cases hi : i < l.length
  · rw [List.getElem?_take_of_lt hi, pd_at l n 0 i (by omega), Nat.zero_add, List.getD_eq_getElem?_getD, List.getElem?_eq_getElem hi]
    rfl
  · rw [List.getElem?_eq_none (by rw [List.length_take]; omega), List.getElem?_eq_none (by omega)]
def zfb (k : Nat) : Int := match k with
  | 0 => 1
  | 1 => 128
  | 2 => 32768
  | 3 => 8388608
  | _ => 2147483648
theorem getD_g (h : ∀ z, z ∈ l → 0 ≤ z ∧ z < 128) (k : Nat) : 0 ≤ l.getD k 0 ∧ l.getD k 0 < 128 := by
  rw [List.getD_eq_getElem?_getD]
  cases h2 : l[k]? with
  | none => exact ⟨Int.le_refl _, show (0 : Int) < 128 by decide⟩
  | some z => exact h z (List.mem_of_getElem? h2)
/-- four bytes as a number -/
def zfo (l : List Int) (k : Nat) : Int := zlp (fun j c => 256 * c + l.getD (k + j) 0) 0 4 0
theorem l_four (h : Sq x S0 μ0 S μ s v l) {k : Nat} (hk : k ≤ 1000) : f_L_four s (k : Int) (S, μ) = some (.inl (zfo l k), (S, μ)) := by
  have hn := h.n
  apply zo_un
  refine j_L_four ?_
  refine zo_fon (F := fun n (j : Nat) (c : Int) => f_L_four_4 n s (k : Int) c (j : Int) (S, μ)) (N := 4) (st := fun j c => 256 * c + l.getD (k + j) 0) (c0 := 0) (fun j c => 0 ≤ c ∧ c < zfb j) ?_ ⟨Int.le_refl _, show (0 : Int) < 1 by decide⟩ (by decide)
  intro n j c hj hc ih fin
  refine j_L_four_4 ?_
  have hd := getD_g h.g (k + j)
  refine zo_ite (fun c1 => ?_) (fun c1 => ?_)
  · have hj4 : j < 4 := by omega
    have hc8 : (0 ≤ c ∧ c < 8388608) ∧ (0 ≤ 256 * c + l.getD (k + j) 0 ∧ 256 * c + l.getD (k + j) 0 < zfb (j + 1)) := by
      have hz : j = 0 ∨ j = 1 ∨ j = 2 ∨ j = 3 := by omega
      rcases hz with z | z | z | z <;> rw [z] at hc hd ⊢ <;> simp only [zfb] at hc ⊢ <;> omega
    have g := ih hj4 hc8.2
    rw [w32_e (z := (k : Int) + (j : Int)) (by omega), shl_8 hc8.1]
    have fin4 : ∀ {z : Int}, l.getD (k + j) 0 = z → zo (f_L_four_34 (f_L_four_4 n) s (k : Int) (j : Int) (256 * c) z (S, μ)) (fun x => x = (Sum.inl (zfo l k), (S, μ))) := by
      intro z hz
      refine j_L_four_34 ?_
      rw [hz] at hd g
      rw [or_8 hc8.1 (by omega), w32_s (by omega)]
      exact g
    refine zo_ob h.o (by omega) ?_
    refine zo_bn (s_len h) ?_
    refine zo_ite (fun c2 => ?_) (fun c2 => ?_)
    · have hk2 : l[k + j]? = some l[k + j] := List.getElem?_eq_getElem (by omega)
      generalize l[k + j] = z at hk2
      refine zo_ob h.o (by omega) ?_
      have e := s_chr h hk2
      rw [show ((k + j : Nat) : Int) = (k : Int) + (j : Int) by omega] at e
      refine zo_bn e ?_
      refine fin4 ?_
      rw [List.getD_eq_getElem?_getD, hk2]
      rfl
    · refine fin4 ?_
      rw [List.getD_eq_getElem?_getD, List.getElem?_eq_none (by omega)]
      rfl
  · have e := fin (by omega)
    refine zo_rt ?_
    rw [← e]
    rfl
theorem four_e (h : ∀ z, z ∈ l → 0 ≤ z ∧ z < 128) (k : Nat) : zfour (zfo l k) = zpd l k 4 := by
  have h0 := getD_g h k
  have h1 := getD_g h (k + 1)
  have h2 := getD_g h (k + 2)
  have h3 := getD_g h (k + 3)
  have e : zfo l k = 256 * (256 * (256 * (256 * 0 + l.getD k 0) + l.getD (k + 1) 0) + l.getD (k + 2) 0) + l.getD (k + 3) 0 := rfl
  have e2 : zpd l k 4 = [l.getD k 0, l.getD (k + 1) 0, l.getD (k + 2) 0, l.getD (k + 3) 0] := rfl
  have e3 : zfour (zfo l k) = [w8 (zshr (zfo l k) 24), w8 (zshr (zfo l k) 16), w8 (zshr (zfo l k) 8), w8 (zfo l k)] := rfl
  rw [e2, e3]
  generalize l.getD k 0 = a at *
  generalize l.getD (k + 1) 0 = b at *
  generalize l.getD (k + 2) 0 = c at *
  generalize l.getD (k + 3) 0 = d at *
  rw [e]
  have hs := shr_n (c := 256 * (256 * (256 * (256 * 0 + a) + b) + c) + d) (by omega)
  rw [hs.1, hs.2.1, hs.2.2]
  have w : ∀ {z y : Int}, 0 ≤ y ∧ y < 128 → z % 256 = y → w8 z = y := fun h4 h5 => by
    unfold w8
    rw [Int.bmod_def]
    omega
  rw [w h0 (by omega), w h1 (by omega), w h2 (by omega), w h3 (by omega)]
end R9
section R9b
variable {B x : Int} {S S1 : zG} {μ μ' μ0 μ1 μ2 : zM} {M : zD} {L : List zD} {K : zKs} {inp out : List Int} {c p a w r : Int} {H : Int → zS → zFn} {Q : zR × zS → Prop} {k i : Nat} {q : zP} {X Y Z : zEn} {e f : Nat × zP} {A : zFn}

variable {l : List Int} {s v : Int}
theorem Sq.keep {S0 : zG} (h : Sq x S0 μ0 S μ s v l) (f : FB (x + 1) μ μ') (he : Ext x S0 S μ0 μ → Ext x S0 S μ1 μ') : Sq x S0 μ1 S μ' s v l := by
  have hx := h.x0
  have h1 := h.ns
  have h2 := h.nv
  exact Sq.mk ⟨hx, he h.e, h.o, h.r, h.c, h1, h2, (congrFun (f s (by omega) (by omega)) 1).trans h.k1, fun k z hk => (congrFun (f v (by omega) (by omega)) _).trans (h.y k z hk), h.g, h.n⟩
/-- a text is fed -/
theorem l_feed {S0 : zG} (h0 : Wd B x S μ M L K [] out c p) (hs : Sq x S0 μ0 S μ s v l) (hl : 1 ≤ l.length) : ∃ μ', f_L_feed x s (S, μ) = some (.inl 0, (S, μ')) ∧ Wd B x S μ' M L K l out c p := by
  have hn := hs.n
  have key : zo (f_L_feed x s (S, μ)) (fun r => ∃ μ', r = (.inl 0, (S, μ')) ∧ Wd B x S μ' M L K l out c p) := by
    refine j_L_feed ?_
    refine zo_lk (F := fun m (b : Int × Int × zM) => f_L_feed_4 m x s b.1 b.2.1 (S, b.2.2)) (b0 := (0, 0, μ)) 26 (fun k b => b.1 = ((20 * k : Nat) : Int) ∧ b.2.1 = ((20 * k : Nat) : Int) ∧ (20 * k < l.length + 20) ∧ Wd B x S b.2.2 M L K (zpd l 0 (20 * k)) out c p ∧ ∃ μ9 v9, Sq x S0 μ9 S b.2.2 s v9 l) ?_ ⟨rfl, rfl, by omega, h0, μ0, v, hs⟩ (by decide)
    rintro n k ⟨last, kk, μ2⟩ hk ⟨h1, h2, h3, h4, μ9, v9, h5⟩ ih
    dsimp only at h1 h2 h3 h4 h5 ih ⊢
    subst h1
    subst h2
    refine j_L_feed_4 ?_
    refine zo_ob h5.o (by omega) ?_
    refine zo_bn (s_len h5) ?_
    have more : 20 * k < l.length → zo (f_L_feed_16 (f_L_feed_4 n) x s ((20 * k : Nat) : Int) (S, μ2)) (fun r => ∃ μ', r = (.inl 0, (S, μ')) ∧ Wd B x S μ' M L K l out c p) := by
      intro hlt
      refine j_L_feed_16 ?_
      rw [w32_e (z := ((20 * k : Nat) : Int) + 4) (by omega), w32_e (z := ((20 * k : Nat) : Int) + 8) (by omega), w32_e (z := ((20 * k : Nat) : Int) + 12) (by omega), w32_e (z := ((20 * k : Nat) : Int) + 16) (by omega), w32_e (z := ((20 * k : Nat) : Int) + 20) (by omega)]
      rw [show ((20 * k : Nat) : Int) + 4 = ((20 * k + 4 : Nat) : Int) by omega, show ((20 * k : Nat) : Int) + 8 = ((20 * k + 8 : Nat) : Int) by omega, show ((20 * k : Nat) : Int) + 12 = ((20 * k + 12 : Nat) : Int) by omega, show ((20 * k : Nat) : Int) + 16 = ((20 * k + 16 : Nat) : Int) by omega]
      refine zo_bn (l_four h5 (by omega)) ?_
      refine zo_bn (l_four h5 (by omega)) ?_
      refine zo_bn (l_four h5 (by omega)) ?_
      refine zo_bn (l_four h5 (by omega)) ?_
      refine zo_bn (l_four h5 (by omega)) ?_
      obtain ⟨μ3, e3, g3, f3⟩ := q_append (a1 := zfo l (20 * k)) (a2 := zfo l (20 * k + 4)) (a3 := zfo l (20 * k + 8)) (a4 := zfo l (20 * k + 12)) (a5 := zfo l (20 * k + 16)) h4 (by rw [pd_len]; omega)
      refine zo_ob h4.a.C.o (by omega) ?_
      refine zo_bn e3 ?_
      have gg := h5.g
      rw [four_e gg, four_e gg, four_e gg, four_e gg, four_e gg] at g3
      have ep : zpd l 0 (20 * k) ++ zpd l (20 * k) 4 ++ zpd l (20 * k + 4) 4 ++ zpd l (20 * k + 8) 4 ++ zpd l (20 * k + 12) 4 ++ zpd l (20 * k + 16) 4 = zpd l 0 (20 * (k + 1)) := by
        have a1 := pd_app l 4 (20 * k) 0
        have a2 := pd_app l 4 (20 * k + 4) 0
        have a3 := pd_app l 4 (20 * k + 4 + 4) 0
        have a4 := pd_app l 4 (20 * k + 4 + 4 + 4) 0
        have a5 := pd_app l 4 (20 * k + 4 + 4 + 4 + 4) 0
        rw [Nat.zero_add] at a1 a2 a3 a4 a5
        rw [a1, a2, show 20 * k + 8 = 20 * k + 4 + 4 by omega, a3, show 20 * k + 12 = 20 * k + 4 + 4 + 4 by omega, a4, show 20 * k + 16 = 20 * k + 4 + 4 + 4 + 4 by omega, a5, show 20 * k + 4 + 4 + 4 + 4 + 4 = 20 * (k + 1) by omega]
      rw [ep] at g3
      refine ih (by omega) (((zpd l 0 (20 * k)).length : Int) + 20, ((20 * k : Nat) : Int) + 20, μ3) ⟨by rw [pd_len]; show ((20 * k : Nat) : Int) + 20 = _; omega, by show ((20 * k : Nat) : Int) + 20 = _; omega, by omega, g3, μ3, v9, ?_⟩
      have hx := h5.x0
      exact h5.keep f3 (fun e => ⟨e.1, e.2.1, e.2.2.1, fun y hy hz => rfl⟩)
    refine zo_ite (fun c1 => more (by omega)) (fun c1 => ?_)
    refine zo_ite (fun c2 => more (by omega)) (fun c2 => ?_)
    refine j_L_feed_63 ?_
    refine zo_ob h5.o (by omega) ?_
    refine zo_bn (s_len h5) ?_
    rw [show min ((20 * k : Nat) : Int) (l.length : Int) = ((l.length : Nat) : Int) by omega]
    obtain ⟨v3, μ3, e3, g3, f3⟩ := q_truncate (k := l.length) h4 (by rw [pd_len]; omega)
    refine zo_ob h4.a.C.o (by omega) ?_
    refine zo_bn e3 ?_
    rw [pd_take (by omega)] at g3
    exact zo_rt ⟨μ3, rfl, g3⟩
  obtain ⟨r, er, μ1, e2, h1⟩ := key
  rw [e2] at er
  exact ⟨μ1, er, h1⟩
end R9b
