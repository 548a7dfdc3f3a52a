/-! C 73: names as numbers -/
theorem shl_5 {c : Int} (hc : 0 ≤ c ∧ c < 33554432) : zshl c 5 = 32 * c := by
  have h1 : zshl c 5 = ((BitVec.ofInt 32 c) <<< (5 : Nat)).toInt := rfl
  obtain ⟨k, rfl⟩ : ∃ k : Nat, c = (k : Int) := ⟨c.toNat, by omega⟩
  have h2 : (BitVec.ofInt 32 (k : Int)).toNat = k := by
    rw [BitVec.toNat_ofInt]
    omega
  rw [h1, BitVec.toInt_eq_toNat_bmod, BitVec.toNat_shiftLeft, h2, Nat.shiftLeft_eq]
  rw [Int.bmod_def]
  omega
def zlet (l : List Int) : Prop := ∀ v, v ∈ l → 97 ≤ v ∧ v ≤ 122
def znm (l : List Int) : List Int := l.map (fun v => v - 96)
def zisn (l : List Int) : Prop := (1 ≤ l.length ∧ l.length ≤ 6) ∧ zlet l
theorem zisn_ok {l : List Int} (h : zisn l) : NOk (znm l) := by
  refine NOk.mk ⟨by unfold znm; rw [List.length_map]; exact h.1, ?_⟩
  intro v hv
  obtain ⟨u, hu, e⟩ := List.mem_map.mp hv
  have := h.2 u hu
  omega
theorem zcode_s (b : Int) (l : List Int) (v : Int) : zcode b (l ++ [v]) = b * zcode b l + v := by
  unfold zcode
  rw [List.foldl_append]
  rfl
theorem zcr_up {b : Int} (hb : b = 27 ∨ b = 32) : ∀ (l : List Int), (∀ v, v ∈ l → 1 ≤ v ∧ v ≤ 26) → 0 ≤ zcr b l ∧ zcr b l < b ^ l.length := by
  intro l
  induction l with
  | nil => intro _; rcases hb with z | z <;> subst z <;> decide
  | cons v l ih =>
    intro h
    have h1 := h v (List.mem_cons_self ..)
    have h2 := ih (fun u hu => h u (List.mem_cons_of_mem _ hu))
    rw [List.length_cons, Int.pow_succ]
    show 0 ≤ b * zcr b l + v ∧ b * zcr b l + v < b ^ l.length * b
    generalize b ^ l.length = p at *
    rcases hb with z | z <;> subst z <;> omega
theorem zcode_up {b : Int} (hb : b = 27 ∨ b = 32) (l : List Int) (h : ∀ v, v ∈ l → 1 ≤ v ∧ v ≤ 26) : 0 ≤ zcode b l ∧ zcode b l < b ^ l.length := by
  rw [zcode_r]
  have h1 := zcr_up hb l.reverse (fun v hv => h v (List.mem_reverse.mp hv))
  rw [List.length_reverse] at h1
  exact h1
theorem pow_le6 {b : Int} (hb : b = 27 ∨ b = 32) {n : Nat} (h : n ≤ 5) : b ^ n < 33554433 := by
  have hc : n = 0 ∨ n = 1 ∨ n = 2 ∨ n = 3 ∨ n = 4 ∨ n = 5 := by omega
  rcases hc with y | y | y | y | y | y <;> rcases hb with z | z <;> subst y <;> subst z <;> decide
theorem znm_mem {l : List Int} (h : zlet l) : ∀ v, v ∈ znm l → 1 ≤ v ∧ v ≤ 26 := by
  intro v hv
  obtain ⟨u, hu, e⟩ := List.mem_map.mp hv
  have := h u hu
  omega
theorem znm_s (l : List Int) (v : Int) : znm (l ++ [v]) = znm l ++ [v - 96] := by
  unfold znm
  rw [List.map_append]
  rfl
theorem seg_s {l : List Int} {i k : Nat} {v : Int} (h : l[i + k]? = some v) : (l.drop i).take (k + 1) = (l.drop i).take k ++ [v] := take_s (by rw [List.getElem?_drop]; exact h)
section C73
variable {S S' : zG} {μ μ' μ1 : zM} {x m d B A a b n : Int} {M M' : zD} {L : List zD} {K : zKs} {l inp out : List Int} {c p : Int} {P : zG → zM → Prop} {Q : zR × zS → Prop}
theorem c_nameCode {i j : Nat} (Bs : BSh S b n) (h : LBy μ l b 1 (b + 1)) (hn : (l.length : Int) ≤ n) (hn2 : n ≤ 10000) (hij : i ≤ j ∧ j ≤ l.length) : f_X0_nameCode b (i : Int) (j : Int) (S, μ) = some (.inl (@ite _ (zisn ((l.drop i).take (j - i))) (Classical.propDecidable _) (zcode 32 (znm ((l.drop i).take (j - i)))) (-1)), (S, μ)) := by
  have hlen : ∀ k, k ≤ j - i → ((l.drop i).take k).length = k := by
    intro k hk
    rw [List.length_take, List.length_drop]
    omega
  have hl1 := hlen (j - i) (Nat.le_refl _)
  apply zo_un
  refine j_X0_nameCode ?_
  rw [w32_e (show -2147483648 ≤ (j : Int) - (i : Int) ∧ (j : Int) - (i : Int) < 2147483648 by omega)]
  by_cases h1 : (j : Int) - (i : Int) < 1
  · refine zo_pos h1 (zo_rt ?_)
    rw [if_neg (fun z => by have := z.1.1; rw [hl1] at this; omega)]
  refine zo_neg h1 ?_
  by_cases h6 : 6 < (j : Int) - (i : Int)
  · refine zo_pos h6 (zo_rt ?_)
    rw [if_neg (fun z => by have := z.1.2; rw [hl1] at this; omega)]
  refine zo_neg h6 ?_
  have e0 : (i : Int) = ((i + 0 : Nat) : Int) := rfl
  rw [e0]
  refine zo_l1 (F := fun q (k : Nat) => f_X0_nameCode_23 q b (j : Int) (zcode 32 (znm ((l.drop i).take k))) ((i + k : Nat) : Int) (S, μ)) (fun k => k ≤ j - i ∧ zlet ((l.drop i).take k)) (fun k => j - i - k) ?_ zFU 0 ⟨by omega, fun v hv => absurd hv (by rw [List.take_zero]; simp)⟩ (by show j - i - 0 < 1000000; omega)
  rintro q k ⟨hk, hz⟩ ih
  refine j_X0_nameCode_23 ?_
  by_cases e : k < j - i
  · have hget : l[i + k]? = some l[i + k] := List.getElem?_eq_getElem (by omega)
    generalize l[i + k] = v at hget
    have hv := h.g v (List.mem_of_getElem? hget)
    refine zo_pos (by omega) ?_
    refine zo_ob Bs.o (by omega) ?_
    refine zo_bn (c_at Bs h hn hget) ?_
    rw [zand_255 hv]
    have es := seg_s (i := i) (k := k) hget
    have bad : ¬ (97 ≤ v ∧ v ≤ 122) → ¬ zisn ((l.drop i).take (j - i)) := by
      intro hb hi
      refine hb (hi.2 v ?_)
      refine List.mem_of_getElem? (i := k) ?_
      rw [List.getElem?_take_of_lt e, List.getElem?_drop]
      exact hget
    by_cases ev : v < 0
    · rw [if_pos ev, if_neg (bad (by omega))]
      refine zo_neg (by omega) ?_
      exact zo_pos (by omega) (zo_rt rfl)
    · rw [if_neg ev]
      refine zo_ite (fun z1 => zo_rt (by rw [if_neg (bad (by omega))])) (fun z1 => ?_)
      refine zo_ite (fun z2 => zo_rt (by rw [if_neg (bad (by omega))])) (fun z2 => ?_)
      have hz2 : zlet ((l.drop i).take (k + 1)) := by
        rw [es]
        intro u hu
        rcases List.mem_append.mp hu with hu | hu
        · exact hz u hu
        · rw [List.mem_singleton.mp hu]; omega
      have hup := zcode_up (b := 32) (Or.inr rfl) _ (znm_mem hz)
      have hln : (znm ((l.drop i).take k)).length = k := by unfold znm; rw [List.length_map]; exact hlen k (by omega)
      rw [hln] at hup
      have hpw := pow_le6 (b := 32) (Or.inr rfl) (n := k) (by omega)
      have ec : zcode 32 (znm ((l.drop i).take (k + 1))) = 32 * zcode 32 (znm ((l.drop i).take k)) + (v - 96) := by rw [es, znm_s, zcode_s]
      have key := ih (k + 1) ⟨by omega, hz2⟩ (by omega)
      rw [ec] at key
      generalize zcode 32 (znm ((l.drop i).take k)) = c0 at *
      generalize (32 : Int) ^ k = pw at *
      rw [shl_5 (by omega), w32_e (z := 32 * c0 + v) (by omega), w32_e (z := 32 * c0 + v - 97) (by omega), w32_e (z := 32 * c0 + v - 97 + 1) (by omega), w32_s (k := i + k) (by omega), show 32 * c0 + v - 97 + 1 = 32 * c0 + (v - 96) by omega]
      exact key
  · have ek : k = j - i := by omega
    subst ek
    refine zo_neg (by omega) ?_
    have hi : zisn ((l.drop i).take (j - i)) := ⟨by omega, hz⟩
    exact zo_rt (by rw [if_pos hi])
end C73
