/-! THE LAW'S LOOP -/
def pLc (x m o d : Int) : Nat → (Nat → Int) → (zS → Prop) → zS → Prop
  | 0 => q_L_0 x m o d
  | 1 => q_L_1 x m o d
  | 2 => q_L_2 x m o d
  | 3 => q_L_3 x m o d
  | 4 => q_L_4 x m o d
  | 5 => q_L_5 x m o d
  | 6 => q_L_6 x m o d
  | 7 => q_L_7 x m o d
  | 8 => q_L_8 x m o d
  | 9 => q_L_9 x m o d
  | 10 => q_L_10 x m o d
  | 11 => q_L_11 x m o d
  | 12 => q_L_12 x m o d
  | 13 => q_L_13 x m o d
  | 14 => q_L_14 x m o d
  | 15 => q_L_15 x m o d
  | 16 => q_L_16 x m o d
  | 17 => q_L_17 x m o d
  | 18 => q_L_18 x m o d
  | 19 => q_L_19 x m o d
  | 20 => q_L_20 x m o d
  | 21 => q_L_21 x m o d
  | 22 => q_L_22 x m o d
  | 23 => q_L_23 x m o d
  | 24 => q_L_24 x m o d
  | 25 => q_L_25 x m o d
  | 26 => q_L_26 x m o d
  | 27 => q_L_27 x m o d
  | 28 => q_L_28 x m o d
  | 29 => q_L_29 x m o d
  | 30 => q_L_30 x m o d
  | 31 => q_L_31 x m o d
  | 32 => q_L_32 x m o d
  | 33 => q_L_33 x m o d
  | 34 => q_L_34 x m o d
  | 35 => q_L_35 x m o d
  | 36 => q_L_36 x m o d
  | 37 => q_L_37 x m o d
  | 38 => q_L_38 x m o d
  | 39 => q_L_39 x m o d
  | 40 => q_L_40 x m o d
  | 41 => q_L_41 x m o d
  | 42 => q_L_42 x m o d
  | 43 => q_L_43 x m o d
  | 44 => q_L_44 x m o d
  | 45 => q_L_45 x m o d
  | 46 => q_L_46 x m o d
  | 47 => q_L_47 x m o d
  | 48 => q_L_48 x m o d
  | 49 => q_L_49 x m o d
  | 50 => q_L_50 x m o d
  | 51 => q_L_51 x m o d
  | 52 => q_L_52 x m o d
  | 53 => q_L_53 x m o d
  | 54 => q_L_54 x m o d
  | 55 => q_L_55 x m o d
  | 56 => q_L_56 x m o d
  | 57 => q_L_57 x m o d
  | 58 => q_L_58 x m o d
  | _ => fun _ P σ => P σ
/-- what the rest of the law asks: the script's calls from i on -/
def pLl (g : zF) (x m o d : Int) : Nat → Int → zS → Prop
  | 0, _, _ => False
  | n + 1, i, σ => (zsl9 g : Int) < i + 6 ∨ (σ.1.1 x = some (0, 7) ∧ pLc x m o d (zand (zscr g i.toNat) 63).toNat (fun j => zscr g (i.toNat + j)) (fun τ => pLl g x m o d n (i + 6) τ) σ)
def tL_t : List Nat := [296, 400, 436, 449, 462, 475, 488, 501, 557, 625, 681, 749, 817, 873, 929, 1009, 1077, 1157, 1225, 1305, 1373, 1441, 1509, 1589, 1657, 1713, 1769, 1825, 1881, 1949, 2017, 2085, 2153, 2231, 2335, 2439, 2519, 2599, 2679, 2735, 2791, 2883, 2939, 2995, 3051, 3095, 3151, 3207, 3310, 3390, 3458, 3526, 3582, 3638, 3694, 3738, 3751, 3807, 3863]
theorem t_L_sel {g : zF} (hl0 : g.2.2.2.1.stackTraces = false) (hL9 : zsl9 g ≤ 3072) {x m o d i : Int} {σ : zS} {C' D' : Nat} {P : zS → Prop} (hi : 0 ≤ i) (hi6 : i + 6 ≤ (zsl9 g : Int)) (hx : σ.1.1 x = some (0, 7)) (kk : ∀ τ, P τ → zw g Y_L_law room_1 3919 [(0, (6, 200)), (1, (4, x)), (2, (4, m)), (3, (4, o)), (4, (4, d)), (5, (0, i))] [] τ C' D' zQ1) : ∀ (k t : Nat), tL_t[k]? = some t → pLc x m o d k (fun j => zscr g (i.toNat + j)) P σ → zw g Y_L_law room_1 t [(0, (6, 200)), (1, (4, x)), (2, (4, m)), (3, (4, o)), (4, (4, d)), (5, (0, i))] [] σ (C' + 31) (D' + 7344) zQ1
  | 0, t, ht, h => by
    obtain rfl := Option.some.inj ht
    exact t_L_0 hl0 hL9 hi hi6 hx h kk
  | 1, t, ht, h => by
    obtain rfl := Option.some.inj ht
    exact t_L_1 hl0 hL9 hi hi6 hx h kk
  | 2, t, ht, h => by
    obtain rfl := Option.some.inj ht
    exact t_L_2 hl0 hL9 hi hi6 hx h kk
  | 3, t, ht, h => by
    obtain rfl := Option.some.inj ht
    exact t_L_3 hl0 hL9 hi hi6 hx h kk
  | 4, t, ht, h => by
    obtain rfl := Option.some.inj ht
    exact t_L_4 hl0 hL9 hi hi6 hx h kk
  | 5, t, ht, h => by
    obtain rfl := Option.some.inj ht
    exact t_L_5 hl0 hL9 hi hi6 hx h kk
  | 6, t, ht, h => by
    obtain rfl := Option.some.inj ht
    exact t_L_6 hl0 hL9 hi hi6 hx h kk
  | 7, t, ht, h => by
    obtain rfl := Option.some.inj ht
    exact t_L_7 hl0 hL9 hi hi6 hx h kk
  | 8, t, ht, h => by
    obtain rfl := Option.some.inj ht
    exact t_L_8 hl0 hL9 hi hi6 hx h kk
  | 9, t, ht, h => by
    obtain rfl := Option.some.inj ht
    exact t_L_9 hl0 hL9 hi hi6 hx h kk
  | 10, t, ht, h => by
    obtain rfl := Option.some.inj ht
    exact t_L_10 hl0 hL9 hi hi6 hx h kk
  | 11, t, ht, h => by
    obtain rfl := Option.some.inj ht
    exact t_L_11 hl0 hL9 hi hi6 hx h kk
  | 12, t, ht, h => by
    obtain rfl := Option.some.inj ht
    exact t_L_12 hl0 hL9 hi hi6 hx h kk
  | 13, t, ht, h => by
    obtain rfl := Option.some.inj ht
    exact t_L_13 hl0 hL9 hi hi6 hx h kk
  | 14, t, ht, h => by
    obtain rfl := Option.some.inj ht
    exact t_L_14 hl0 hL9 hi hi6 hx h kk
  | 15, t, ht, h => by
    obtain rfl := Option.some.inj ht
    exact t_L_15 hl0 hL9 hi hi6 hx h kk
  | 16, t, ht, h => by
    obtain rfl := Option.some.inj ht
    exact t_L_16 hl0 hL9 hi hi6 hx h kk
  | 17, t, ht, h => by
    obtain rfl := Option.some.inj ht
    exact t_L_17 hl0 hL9 hi hi6 hx h kk
  | 18, t, ht, h => by
    obtain rfl := Option.some.inj ht
    exact t_L_18 hl0 hL9 hi hi6 hx h kk
  | 19, t, ht, h => by
    obtain rfl := Option.some.inj ht
    exact t_L_19 hl0 hL9 hi hi6 hx h kk
  | 20, t, ht, h => by
    obtain rfl := Option.some.inj ht
    exact t_L_20 hl0 hL9 hi hi6 hx h kk
  | 21, t, ht, h => by
    obtain rfl := Option.some.inj ht
    exact t_L_21 hl0 hL9 hi hi6 hx h kk
  | 22, t, ht, h => by
    obtain rfl := Option.some.inj ht
    exact t_L_22 hl0 hL9 hi hi6 hx h kk
  | 23, t, ht, h => by
    obtain rfl := Option.some.inj ht
    exact t_L_23 hl0 hL9 hi hi6 hx h kk
  | 24, t, ht, h => by
    obtain rfl := Option.some.inj ht
    exact t_L_24 hl0 hL9 hi hi6 hx h kk
  | 25, t, ht, h => by
    obtain rfl := Option.some.inj ht
    exact t_L_25 hl0 hL9 hi hi6 hx h kk
  | 26, t, ht, h => by
    obtain rfl := Option.some.inj ht
    exact t_L_26 hl0 hL9 hi hi6 hx h kk
  | 27, t, ht, h => by
    obtain rfl := Option.some.inj ht
    exact t_L_27 hl0 hL9 hi hi6 hx h kk
  | 28, t, ht, h => by
    obtain rfl := Option.some.inj ht
    exact t_L_28 hl0 hL9 hi hi6 hx h kk
  | 29, t, ht, h => by
    obtain rfl := Option.some.inj ht
    exact t_L_29 hl0 hL9 hi hi6 hx h kk
  | 30, t, ht, h => by
    obtain rfl := Option.some.inj ht
    exact t_L_30 hl0 hL9 hi hi6 hx h kk
  | 31, t, ht, h => by
    obtain rfl := Option.some.inj ht
    exact t_L_31 hl0 hL9 hi hi6 hx h kk
  | 32, t, ht, h => by
    obtain rfl := Option.some.inj ht
    exact t_L_32 hl0 hL9 hi hi6 hx h kk
  | 33, t, ht, h => by
    obtain rfl := Option.some.inj ht
    exact t_L_33 hl0 hL9 hi hi6 hx h kk
  | 34, t, ht, h => by
    obtain rfl := Option.some.inj ht
    exact t_L_34 hl0 hL9 hi hi6 hx h kk
  | 35, t, ht, h => by
    obtain rfl := Option.some.inj ht
    exact t_L_35 hl0 hL9 hi hi6 hx h kk
  | 36, t, ht, h => by
    obtain rfl := Option.some.inj ht
    exact t_L_36 hl0 hL9 hi hi6 hx h kk
  | 37, t, ht, h => by
    obtain rfl := Option.some.inj ht
    exact t_L_37 hl0 hL9 hi hi6 hx h kk
  | 38, t, ht, h => by
    obtain rfl := Option.some.inj ht
    exact t_L_38 hl0 hL9 hi hi6 hx h kk
  | 39, t, ht, h => by
    obtain rfl := Option.some.inj ht
    exact t_L_39 hl0 hL9 hi hi6 hx h kk
  | 40, t, ht, h => by
    obtain rfl := Option.some.inj ht
    exact t_L_40 hl0 hL9 hi hi6 hx h kk
  | 41, t, ht, h => by
    obtain rfl := Option.some.inj ht
    exact t_L_41 hl0 hL9 hi hi6 hx h kk
  | 42, t, ht, h => by
    obtain rfl := Option.some.inj ht
    exact t_L_42 hl0 hL9 hi hi6 hx h kk
  | 43, t, ht, h => by
    obtain rfl := Option.some.inj ht
    exact t_L_43 hl0 hL9 hi hi6 hx h kk
  | 44, t, ht, h => by
    obtain rfl := Option.some.inj ht
    exact t_L_44 hl0 hL9 hi hi6 hx h kk
  | 45, t, ht, h => by
    obtain rfl := Option.some.inj ht
    exact t_L_45 hl0 hL9 hi hi6 hx h kk
  | 46, t, ht, h => by
    obtain rfl := Option.some.inj ht
    exact t_L_46 hl0 hL9 hi hi6 hx h kk
  | 47, t, ht, h => by
    obtain rfl := Option.some.inj ht
    exact t_L_47 hl0 hL9 hi hi6 hx h kk
  | 48, t, ht, h => by
    obtain rfl := Option.some.inj ht
    exact t_L_48 hl0 hL9 hi hi6 hx h kk
  | 49, t, ht, h => by
    obtain rfl := Option.some.inj ht
    exact t_L_49 hl0 hL9 hi hi6 hx h kk
  | 50, t, ht, h => by
    obtain rfl := Option.some.inj ht
    exact t_L_50 hl0 hL9 hi hi6 hx h kk
  | 51, t, ht, h => by
    obtain rfl := Option.some.inj ht
    exact t_L_51 hl0 hL9 hi hi6 hx h kk
  | 52, t, ht, h => by
    obtain rfl := Option.some.inj ht
    exact t_L_52 hl0 hL9 hi hi6 hx h kk
  | 53, t, ht, h => by
    obtain rfl := Option.some.inj ht
    exact t_L_53 hl0 hL9 hi hi6 hx h kk
  | 54, t, ht, h => by
    obtain rfl := Option.some.inj ht
    exact t_L_54 hl0 hL9 hi hi6 hx h kk
  | 55, t, ht, h => by
    obtain rfl := Option.some.inj ht
    exact t_L_55 hl0 hL9 hi hi6 hx h kk
  | 56, t, ht, h => by
    obtain rfl := Option.some.inj ht
    exact t_L_56 hl0 hL9 hi hi6 hx h kk
  | 57, t, ht, h => by
    obtain rfl := Option.some.inj ht
    exact t_L_57 hl0 hL9 hi hi6 hx h kk
  | 58, t, ht, h => by
    obtain rfl := Option.some.inj ht
    exact t_L_58 hl0 hL9 hi hi6 hx h kk
  | k + 59, t, ht, h => absurd (show ([] : List Nat)[k]? = some t from ht) (by rw [List.getElem?_nil]; intro q; cases q)
theorem z_brc {c : Prop} {d : Decidable c} {d' : Decidable (¬ c)} {σ : zS} : zo (@ite _ c d (@ite _ c d (some ((.inl 1 : zR), σ)) none) (@ite _ (¬ c) d' (some ((.inl 1 : zR), σ)) none)) zQ1 := by
  by_cases h : c
  · rw [if_pos h, if_pos h]; exact ⟨_, rfl, rfl⟩
  · rw [if_neg h, if_pos h]; exact ⟨_, rfl, rfl⟩
theorem zite_q {c : Prop} {d : Decidable c} {A : zFn} {Q : zR × zS → Prop} (h : zo (@ite _ c d A none) Q) : c := zite_p h
theorem zand_63 (v : Int) : 0 ≤ zand v 63 ∧ zand v 63 < 64 := by
  unfold zand
  have e : ((Int32.ofInt v &&& Int32.ofInt 63).toBitVec).toNat ≤ 63 := by
    show (((Int32.ofInt v).toBitVec &&& (Int32.ofInt 63).toBitVec)).toNat ≤ 63
    rw [BitVec.toNat_and]
    exact Nat.and_le_right
  have e2 : (Int32.ofInt v &&& Int32.ofInt 63).toInt = (((Int32.ofInt v &&& Int32.ofInt 63).toBitVec).toNat : Int) := by
    show ((Int32.ofInt v &&& Int32.ofInt 63).toBitVec).toInt = _
    exact BitVec.toInt_eq_toNat_of_lt (by omega)
  rw [e2]
  omega
set_option maxHeartbeats 4000000 in
theorem t_L_loop {g : zF} (hl0 : g.2.2.2.1.stackTraces = false) (hL9 : zsl9 g ≤ 3072) {x m o d : Int} : ∀ (n : Nat) (i : Int) (σ : zS), 0 ≤ i → i ≤ 3078 → pLl g x m o d n i σ → zw g Y_L_law room_1 28 [(0, (6, 200)), (1, (4, x)), (2, (4, m)), (3, (4, o)), (4, (4, d)), (5, (0, i))] [] σ (31 * n) (7344 * n) zQ1 := by
  intro n
  induction n with
  | zero => intro i σ _ _ h; exact h.elim
  | succ n ih =>
    intro i σ hi hi9 h
    have e6 : w32 ((zsl9 g : Int) - 6) = (zsl9 g : Int) - 6 := w32_id (by unfold zI; omega)
    refine r_iload 5 dL_law_28 rfl ?_
    refine r_aload_n (k := 0) (t := 2) (x := 200) 0 dL_law_30 rfl ?_
    refine r_scrlen (by omega) dL_law_31 ?_
    refine r_bipush (v := 6) dL_law_32 rfl rfl ?_
    refine r_isub dL_law_34 ?_
    rw [e6]
    refine r_icmp_gt 3925 dL_law_35 (by decide) (@z_brc _ _ instDecidableNot σ) (fun h9 => ?_) (fun h9 => ?_)
    · refine r_iconst (v := 1) dL_law_3925 rfl rfl ?_
      exact r_zretc (Or.inr rfl) rfl dL_law_3926 ⟨_, rfl, rfl⟩
    · have h9 := zite_p h9
      rcases h with h | ⟨hx, h⟩
      · exact absurd h (by omega)
      · have fin : ∀ τ, pLl g x m o d n (i + 6) τ → zw g Y_L_law room_1 3919 [(0, (6, 200)), (1, (4, x)), (2, (4, m)), (3, (4, o)), (4, (4, d)), (5, (0, i))] [] τ (31 * n) (7344 * n) zQ1 := by
          intro τ hP
          have e7 : w32 (i + 6) = i + 6 := w32_id (by unfold zI; omega)
          refine r_iinc (L' := [(5, (0, w32 (i + 6))), (0, (6, 200)), (1, (4, x)), (2, (4, m)), (3, (4, o)), (4, (4, d))]) 5 dL_law_3919 rfl (by decide) rfl ?_
          refine r_goto 28 dL_law_3922 (by decide) ?_
          refine r_weak (L' := [(0, (6, 200)), (1, (4, x)), (2, (4, m)), (3, (4, o)), (4, (4, d)), (5, (0, w32 (i + 6)))]) [1, 2, 3, 4, 5, 0] rfl ?_
          rw [e7]
          exact ih (i + 6) τ (by omega) (by omega) hP
        refine r_aload_n (k := 0) (t := 2) (x := 200) 0 dL_law_38 rfl ?_
        refine r_iload 5 dL_law_39 rfl ?_
        refine r_scrld (F := fun y => if y = zscr g i.toNat then some ((.inl 1 : zR), σ) else none) (by omega) dL_law_41 (by rw [if_pos (by omega)]; exact z_yes rfl) (fun y hy => ?_)
        rw [zite_p hy]
        refine r_bipush (v := 63) dL_law_42 rfl rfl ?_
        refine r_iand dL_law_44 ?_
        have hz := zand_63 (zscr g i.toNat)
        refine r_table dL_law_45 tL_t 3919 (by decide) rfl rfl (fun k t hk ha => ?_) (fun hq => ?_)
        · have ek : (zand (zscr g i.toNat) 63).toNat = k := by omega
          rw [ek] at h
          exact t_L_sel hl0 hL9 hi (by omega) hx fin k t hk h
        · have ek : ∃ k, (zand (zscr g i.toNat) 63).toNat = k + 59 := ⟨(zand (zscr g i.toNat) 63).toNat - 59, by omega⟩
          obtain ⟨k, ek⟩ := ek
          rw [ek] at h
          refine r_room (C' := 31 * n) (D' := 7344 * n) (by omega) (by omega) ?_
          exact fin σ h
