/-! C 73: names as numbers -/
theorem shl_5 {c : Int} (hc : 0 ≤ c ∧ c < 33554432) : zshl c 5 = 32 * c := by
  have h1 : zshl c 5 = ((BitVec.ofInt 32 c) <<< (5 : Nat)).toInt := rfl
  obtain ⟨k, rfl⟩ : ∃ k : Nat, c = (k : Int) := ⟨c.toNat, by omega⟩
  have h2 : (BitVec.ofInt 32 (k : Int)).toNat = k := by
    rw [BitVec.toNat_ofInt]
    omega
  rw [h1, BitVec.toInt_eq_toNat_bmod, BitVec.toNat_shiftLeft, h2, Nat.shiftLeft_eq]
  rw [Int.bmod_def]
  omega
theorem shr_n {c : Int} (hc : 0 ≤ c ∧ c < 2147483648) : zshr c 0 = c / 1 ∧ zshr c 5 = c / 32 ∧ zshr c 10 = c / 1024 ∧ zshr c 15 = c / 32768 ∧ zshr c 20 = c / 1048576 ∧ zshr c 25 = c / 33554432 := by
  have h2 : (BitVec.ofInt 32 c).toInt = c := by
    rw [BitVec.toInt_ofInt, Int.bmod_def]
    omega
  have h0 : zshr c 0 = (BitVec.sshiftRight (BitVec.ofInt 32 c) 0).toInt := rfl
  have h5 : zshr c 5 = (BitVec.sshiftRight (BitVec.ofInt 32 c) 5).toInt := rfl
  have h10 : zshr c 10 = (BitVec.sshiftRight (BitVec.ofInt 32 c) 10).toInt := rfl
  have h15 : zshr c 15 = (BitVec.sshiftRight (BitVec.ofInt 32 c) 15).toInt := rfl
  have h20 : zshr c 20 = (BitVec.sshiftRight (BitVec.ofInt 32 c) 20).toInt := rfl
  have h25 : zshr c 25 = (BitVec.sshiftRight (BitVec.ofInt 32 c) 25).toInt := rfl
  rw [h0, h5, h10, h15, h20, h25, BitVec.toInt_sshiftRight, BitVec.toInt_sshiftRight, BitVec.toInt_sshiftRight, BitVec.toInt_sshiftRight, BitVec.toInt_sshiftRight, BitVec.toInt_sshiftRight, h2, Int.shiftRight_eq_div_pow, Int.shiftRight_eq_div_pow, Int.shiftRight_eq_div_pow, Int.shiftRight_eq_div_pow, Int.shiftRight_eq_div_pow, Int.shiftRight_eq_div_pow]
  exact ⟨rfl, rfl, rfl, rfl, rfl, rfl⟩
theorem and_31 {c : Int} (hc : 0 ≤ c ∧ c < 2147483648) : zand c 31 = c % 32 := by
  have h1 : zand c 31 = (BitVec.ofInt 32 c &&& BitVec.ofInt 32 31).toInt := rfl
  obtain ⟨k, rfl⟩ : ∃ k : Nat, c = (k : Int) := ⟨c.toNat, by omega⟩
  have h2 : (BitVec.ofInt 32 (k : Int)).toNat = k := by
    rw [BitVec.toNat_ofInt]
    omega
  have h3 : (BitVec.ofInt 32 31).toNat = 2 ^ 5 - 1 := rfl
  rw [h1, BitVec.toInt_eq_toNat_bmod, BitVec.toNat_and, h2, h3, Nat.and_two_pow_sub_one_eq_mod]
  rw [Int.bmod_def]
  omega
/-- letters -/
def zlet (l : List Int) : Prop := ∀ v, v ∈ l → 97 ≤ v ∧ v ≤ 122
def znm (l : List Int) : List Int := l.map (fun v => v - 96)
def zisn (l : List Int) : Prop := (1 ≤ l.length ∧ l.length ≤ 6) ∧ zlet l
theorem zisn_ok {l : List Int} (h : zisn l) : NOk (znm l) := by
  refine NOk.mk ⟨by unfold znm; rw [List.length_map]; exact h.1, ?_⟩
  intro v hv
  obtain ⟨u, hu, e⟩ := List.mem_map.mp hv
  have := h.2 u hu
  omega
theorem zcode_s (b : Int) (l : List Int) (v : Int) : zcode b (l ++ [v]) = b * zcode b l + v := by
  unfold zcode
  rw [List.foldl_append]
  rfl
theorem zcr_up {b : Int} (hb : b = 27 ∨ b = 32) : ∀ (l : List Int), (∀ v, v ∈ l → 1 ≤ v ∧ v ≤ 26) → 0 ≤ zcr b l ∧ zcr b l < b ^ l.length := by
  intro l
  induction l with
  | nil => intro _; rcases hb with z | z <;> subst z <;> decide
  | cons v l ih =>
    intro h
    have h1 := h v (List.mem_cons_self ..)
    have h2 := ih (fun u hu => h u (List.mem_cons_of_mem _ hu))
    rw [List.length_cons, Int.pow_succ]
    show 0 ≤ b * zcr b l + v ∧ b * zcr b l + v < b ^ l.length * b
    generalize b ^ l.length = p at *
    rcases hb with z | z <;> subst z <;> omega
theorem zcode_up {b : Int} (hb : b = 27 ∨ b = 32) (l : List Int) (h : ∀ v, v ∈ l → 1 ≤ v ∧ v ≤ 26) : 0 ≤ zcode b l ∧ zcode b l < b ^ l.length := by
  rw [zcode_r]
  have h1 := zcr_up hb l.reverse (fun v hv => h v (List.mem_reverse.mp hv))
  rw [List.length_reverse] at h1
  exact h1
theorem pow_le6 {b : Int} (hb : b = 27 ∨ b = 32) {n : Nat} (h : n ≤ 5) : b ^ n < 33554433 := by
  have hc : n = 0 ∨ n = 1 ∨ n = 2 ∨ n = 3 ∨ n = 4 ∨ n = 5 := by omega
  rcases hc with y | y | y | y | y | y <;> rcases hb with z | z <;> subst y <;> subst z <;> decide
theorem znm_mem {l : List Int} (h : zlet l) : ∀ v, v ∈ znm l → 1 ≤ v ∧ v ≤ 26 := by
  intro v hv
  obtain ⟨u, hu, e⟩ := List.mem_map.mp hv
  have := h u hu
  omega
theorem znm_s (l : List Int) (v : Int) : znm (l ++ [v]) = znm l ++ [v - 96] := by
  unfold znm
  rw [List.map_append]
  rfl
theorem seg_s {l : List Int} {i k : Nat} {v : Int} (h : l[i + k]? = some v) : (l.drop i).take (k + 1) = (l.drop i).take k ++ [v] := take_s (by rw [List.getElem?_drop]; exact h)
section C73
variable {S S' : zG} {μ μ' μ1 : zM} {x m d B A a b n : Int} {M M' : zD} {L : List zD} {K : zKs} {l inp out : List Int} {c p : Int} {P : zG → zM → Prop} {Q : zR × zS → Prop}
/-- the class's number of a name -/
theorem c_nameCode {i j : Nat} (Bs : BSh S b n) (h : LBy μ l b 1 (b + 1)) (hn : (l.length : Int) ≤ n) (hn2 : n ≤ 10000) (hij : i ≤ j ∧ j ≤ l.length) : f_X0_nameCode b (i : Int) (j : Int) (S, μ) = some (.inl (@ite _ (zisn ((l.drop i).take (j - i))) (Classical.propDecidable _) (zcode 32 (znm ((l.drop i).take (j - i)))) (-1)), (S, μ)) := by
  have hlen : ∀ k, k ≤ j - i → ((l.drop i).take k).length = k := by
    intro k hk
    rw [List.length_take, List.length_drop]
    omega
  have hl1 := hlen (j - i) (Nat.le_refl _)
  apply zo_un
  refine j_X0_nameCode ?_
  rw [w32_e (show -2147483648 ≤ (j : Int) - (i : Int) ∧ (j : Int) - (i : Int) < 2147483648 by omega)]
  by_cases h1 : (j : Int) - (i : Int) < 1
  · refine zo_pos h1 (zo_rt ?_)
    rw [if_neg (fun z => by have := z.1.1; rw [hl1] at this; omega)]
  refine zo_neg h1 ?_
  by_cases h6 : 6 < (j : Int) - (i : Int)
  · refine zo_pos h6 (zo_rt ?_)
    rw [if_neg (fun z => by have := z.1.2; rw [hl1] at this; omega)]
  refine zo_neg h6 ?_
  have e0 : (i : Int) = ((i + 0 : Nat) : Int) := rfl
  rw [e0]
  refine zo_l1 (F := fun q (k : Nat) => f_X0_nameCode_23 q b (j : Int) (zcode 32 (znm ((l.drop i).take k))) ((i + k : Nat) : Int) (S, μ)) (fun k => k ≤ j - i ∧ zlet ((l.drop i).take k)) (fun k => j - i - k) ?_ zFU 0 ⟨by omega, fun v hv => absurd hv (by rw [List.take_zero]; simp)⟩ (by show j - i - 0 < 1000000; omega)
  rintro q k ⟨hk, hz⟩ ih
  refine j_X0_nameCode_23 ?_
  by_cases e : k < j - i
  · have hget : l[i + k]? = some l[i + k] := List.getElem?_eq_getElem (by omega)
    generalize l[i + k] = v at hget
    have hv := h.g v (List.mem_of_getElem? hget)
    refine zo_pos (by omega) ?_
    refine zo_ob Bs.o (by omega) ?_
    refine zo_bn (c_at Bs h hn hget) ?_
    rw [zand_255 hv]
    have es := seg_s (i := i) (k := k) hget
    have bad : ¬ (97 ≤ v ∧ v ≤ 122) → ¬ zisn ((l.drop i).take (j - i)) := by
      intro hb hi
      refine hb (hi.2 v ?_)
      refine List.mem_of_getElem? (i := k) ?_
      rw [List.getElem?_take_of_lt e, List.getElem?_drop]
      exact hget
    by_cases ev : v < 0
    · rw [if_pos ev, if_neg (bad (by omega))]
      refine zo_neg (by omega) ?_
      exact zo_pos (by omega) (zo_rt rfl)
    · rw [if_neg ev]
      refine zo_ite (fun z1 => zo_rt (by rw [if_neg (bad (by omega))])) (fun z1 => ?_)
      refine zo_ite (fun z2 => zo_rt (by rw [if_neg (bad (by omega))])) (fun z2 => ?_)
      have hz2 : zlet ((l.drop i).take (k + 1)) := by
        rw [es]
        intro u hu
        rcases List.mem_append.mp hu with hu | hu
        · exact hz u hu
        · rw [List.mem_singleton.mp hu]; omega
      have hup := zcode_up (b := 32) (Or.inr rfl) _ (znm_mem hz)
      have hln : (znm ((l.drop i).take k)).length = k := by unfold znm; rw [List.length_map]; exact hlen k (by omega)
      rw [hln] at hup
      have hpw := pow_le6 (b := 32) (Or.inr rfl) (n := k) (by omega)
      have ec : zcode 32 (znm ((l.drop i).take (k + 1))) = 32 * zcode 32 (znm ((l.drop i).take k)) + (v - 96) := by rw [es, znm_s, zcode_s]
      have key := ih (k + 1) ⟨by omega, hz2⟩ (by omega)
      rw [ec] at key
      generalize zcode 32 (znm ((l.drop i).take k)) = c0 at *
      generalize (32 : Int) ^ k = pw at *
      rw [shl_5 (by omega), w32_e (z := 32 * c0 + v) (by omega), w32_e (z := 32 * c0 + v - 97) (by omega), w32_e (z := 32 * c0 + v - 97 + 1) (by omega), w32_s (k := i + k) (by omega), show 32 * c0 + v - 97 + 1 = 32 * c0 + (v - 96) by omega]
      exact key
  · have ek : k = j - i := by omega
    subst ek
    refine zo_neg (by omega) ?_
    have hi : zisn ((l.drop i).take (j - i)) := ⟨by omega, hz⟩
    exact zo_rt (by rw [if_pos hi])
/-- the model's number of a name -/
theorem b_nameOf {i j : Nat} {q : Int} {k0 : Nat} (ha : S.1 q = some (k0, 600)) (hk0 : k0 = 2) (hl : ∀ (k : Nat) (v : Int), l[k]? = some v → μ q (k : Int) = v) (hl6 : l.length ≤ 600) (hij : i ≤ j ∧ j ≤ l.length) (hi : zisn ((l.drop i).take (j - i))) : f_X8_nameOf q (i : Int) (j : Int) (S, μ) = some (.inl (zcode 27 (znm ((l.drop i).take (j - i)))), (S, μ)) := by
  subst hk0
  have hlen : ∀ k, k ≤ j - i → ((l.drop i).take k).length = k := by
    intro k hk
    rw [List.length_take, List.length_drop]
    omega
  have hl1 := hlen (j - i) (Nat.le_refl _)
  have h16 := hi.1
  rw [hl1] at h16
  have hz : ∀ k, k ≤ j - i → zlet ((l.drop i).take k) := by
    intro k hk v hv
    refine hi.2 v ?_
    obtain ⟨r, hr⟩ := List.mem_iff_getElem?.mp hv
    have hrl := (List.getElem?_eq_some_iff.mp hr).1
    rw [hlen k hk] at hrl
    rw [List.getElem?_take_of_lt hrl] at hr
    exact List.mem_of_getElem? (i := r) (by rw [List.getElem?_take_of_lt (by omega)]; exact hr)
  apply zo_un
  refine j_X8_nameOf ?_
  have e0 : (i : Int) = ((i + 0 : Nat) : Int) := rfl
  rw [e0]
  refine zo_l1 (F := fun f (k : Nat) => f_X8_nameOf_5 f q (j : Int) (zcode 27 (znm ((l.drop i).take k))) ((i + k : Nat) : Int) (S, μ)) (fun k => k ≤ j - i) (fun k => j - i - k) ?_ zFU 0 (by omega) (by show j - i - 0 < 1000000; omega)
  intro f k hk ih
  refine j_X8_nameOf_5 ?_
  by_cases e : k < j - i
  · have hget : l[i + k]? = some l[i + k] := List.getElem?_eq_getElem (by omega)
    generalize l[i + k] = v at hget
    have es := seg_s (i := i) (k := k) hget
    have hv : 97 ≤ v ∧ v ≤ 122 := hz (k + 1) (by omega) v (by rw [es]; exact List.mem_append_right _ (List.mem_singleton.mpr rfl))
    have hup := zcode_up (b := 27) (Or.inl rfl) _ (znm_mem (hz k (by omega)))
    have hln : (znm ((l.drop i).take k)).length = k := by unfold znm; rw [List.length_map]; exact hlen k (by omega)
    rw [hln] at hup
    have hpw := pow_le6 (b := 27) (Or.inl rfl) (n := k) (by omega)
    have ec : zcode 27 (znm ((l.drop i).take (k + 1))) = 27 * zcode 27 (znm ((l.drop i).take k)) + (v - 96) := by rw [es, znm_s, zcode_s]
    have key := ih (k + 1) (by omega) (by omega)
    rw [ec] at key
    refine zo_pos (by omega) ?_
    refine zo_ld ha (by omega) (hl (i + k) v hget) ?_
    generalize zcode 27 (znm ((l.drop i).take k)) = c0 at *
    generalize (27 : Int) ^ k = pw at *
    rw [w32_e (z := 27 * c0) (by omega), w32_e (z := 27 * c0 + v) (by omega), w32_e (z := 27 * c0 + v - 96) (by omega), w32_s (k := i + k) (by omega), show 27 * c0 + v - 96 = 27 * c0 + (v - 96) by omega]
    exact key
  · have ek : k = j - i := by omega
    subst ek
    exact zo_neg (by omega) (zo_rt rfl)
/-- the model looks a name up -/
theorem b_withName {nm : List Int} {g0 : Int} {ns : List (List Int)} (H : MSh S m A) (hg : 0 ≤ g0 ∧ g0 ≤ 100) (h : ∀ (k : Nat) (y : List Int), ns[k]? = some y → μ A (g0 + (k : Int)) = zcode 27 y) (h6 : ns.length ≤ 6) (hl : ∀ y, y ∈ ns → NOk y) (hn : NOk nm) : f_X8_withName m (zcode 27 nm) g0 (ns.length : Int) (S, μ) = some (.inl (zni nm ns 0), (S, μ)) := by
  apply zo_un
  refine j_X8_withName ?_
  refine zo_l1 (F := fun f (k : Nat) => f_X8_withName_3 f m (zcode 27 nm) g0 (ns.length : Int) (k : Int) (S, μ)) (fun k => k ≤ ns.length ∧ zni nm (ns.drop k) (k : Int) = zni nm ns 0) (fun k => ns.length - k) ?_ zFU 0 ⟨by omega, rfl⟩ (by show ns.length - 0 < 1000000; omega)
  rintro f k ⟨hk, hz⟩ ih
  refine j_X8_withName_3 ?_
  by_cases e : k < ns.length
  · obtain ⟨y, hy, hd, hym⟩ := drop_cons e
    rw [hd, zni_c] at hz
    refine zo_pos (by omega) ?_
    refine zo_gr H.o H.r3 (by omega) (by omega) ?_
    rw [w32_e (show -2147483648 ≤ g0 + (k : Int) ∧ g0 + (k : Int) < 2147483648 by omega)]
    refine zo_ld H.A (by omega) (h k y hy) ?_
    by_cases ey : y = nm
    · rw [if_pos ey] at hz
      rw [ey]
      exact zo_pos rfl (zo_rt (by rw [hz]))
    · rw [if_neg ey] at hz
      refine zo_neg (fun z => ey (zcode_inj (by decide) (hl y hym) hn z)) ?_
      rw [w32_s (k := k) (by omega)]
      exact ih (k + 1) ⟨by omega, hz⟩ (by omega)
  · have hz0 : -1 = zni nm ns 0 := by
      rw [List.drop_eq_nil_of_le (by omega)] at hz
      exact hz
    exact zo_neg (by omega) (zo_rt (by rw [← hz0]))
theorem zni_rng {nm : List Int} : ∀ (ns : List (List Int)) (k : Int), -1 ≤ k → -1 ≤ zni nm ns k ∧ zni nm ns k ≤ k + (ns.length : Int) := by
  intro ns
  induction ns with
  | nil => intro k hk; exact ⟨by show (-1 : Int) ≤ -1; decide, by show (-1 : Int) ≤ k + ((0 : Nat) : Int); omega⟩
  | cons y ns ih =>
    intro k hk
    rw [zni_c, List.length_cons]
    by_cases e : y = nm
    · rw [if_pos e]; omega
    · rw [if_neg e]
      have := ih (k + 1) (by omega)
      omega
/-- what the input tells -/
noncomputable def zfnd (l : List Int) (ns : List (List Int)) : Int := @ite _ (zisn l) (Classical.propDecidable _) (zni (znm l) ns 0) (-1)
theorem c_findInput {q : Int} {ns : List (List Int)} (h : W7 S μ x M L K inp out c p) (A3 : NSh S q) (hq : LNm μ q ns) (hqx : x + 12 ≤ q) (hl : ∀ y, y ∈ ns → NOk y) : f_X7_findInput x q (S, μ) = some (.inl (zfnd inp ns), (S, zup μ (x + 1) 1 0)) := by
  have hx := h.C.x0
  have C := h.C
  have hil := h.il
  have hcode := c_nameCode (i := 0) (j := inp.length) h.bi (by rw [show x + 1 + 1 = x + 2 by omega]; exact h.li) (by omega) (by decide) ⟨by omega, Nat.le_refl _⟩
  have eseg : (inp.drop 0).take (inp.length - 0) = inp := List.take_length
  rw [eseg] at hcode
  have hq2 : LNm (zup μ (x + 1) 1 0) q ns := LNm.mk ⟨hq.n, by rw [zup_b (by omega)]; exact hq.c, fun k nm hk => by rw [zup_b (by omega)]; exact hq.v k nm hk⟩
  apply zo_un
  refine j_X7_findInput ?_
  refine zo_gr C.o C.r0 (by omega) (by omega) ?_
  refine zo_gr C.o C.r0 (by omega) (by omega) ?_
  refine zo_gf h.bi.o h.li.n (by omega) (by omega) ?_
  refine zo_ob h.bi.o (by omega) ?_
  refine zo_bn hcode ?_
  refine zo_gr C.o C.r0 (by omega) (by omega) ?_
  refine zo_pf 1 h.bi.o (by omega) (by omega) ?_
  by_cases hi : zisn inp
  · have hn := zisn_ok hi
    have hup := zcode_up (b := 32) (Or.inr rfl) _ hn.c
    have ef : zfnd inp ns = zni (znm inp) ns 0 := if_pos hi
    rw [if_pos hi, ef]
    refine zo_neg (by omega) ?_
    refine zo_ob A3.o (by omega) ?_
    refine zo_bn (c_nfind A3 hq2 hl hn) ?_
    exact zo_rt rfl
  · have ef : zfnd inp ns = -1 := if_neg hi
    rw [if_neg hi, ef]
    exact zo_pos rfl (zo_rt rfl)
theorem b_found {g0 : Int} {ns : List (List Int)} (H : MSh S m (m + 1)) (hli : LBy μ inp m 11 (m + 6)) (hil : inp.length ≤ 600) (hg : 0 ≤ g0 ∧ g0 ≤ 100) (h : ∀ (k : Nat) (y : List Int), ns[k]? = some y → μ (m + 1) (g0 + (k : Int)) = zcode 27 y) (h6 : ns.length ≤ 6) (hl : ∀ y, y ∈ ns → NOk y) : f_X8_found m g0 (ns.length : Int) (S, μ) = some (.inl (zfnd inp ns), (S, zup μ m 11 0)) := by
  apply zo_un
  refine j_X8_found ?_
  refine zo_gf H.o hli.n (by omega) (by omega) ?_
  refine zo_bn b_in ?_
  have tail : ∀ t : Int, t = zbl (zisn inp) → zo (f_X8_found_53 m g0 (ns.length : Int) t (S, μ)) (fun r => r = (.inl (zfnd inp ns), (S, zup μ m 11 0))) := by
    intro t ht
    refine j_X8_found_53 ?_
    by_cases hi : zisn inp
    · have hn := zisn_ok hi
      have ef : zfnd inp ns = zni (znm inp) ns 0 := if_pos hi
      rw [zbl_p hi] at ht
      subst ht
      rw [ef]
      refine zo_neg (by decide) ?_
      refine zo_gr H.o H.r10 (by omega) (by omega) ?_
      refine zo_gf H.o hli.n (by omega) (by omega) ?_
      have e1 := b_nameOf (i := 0) (j := inp.length) (S := S) (μ := μ) H.a6 rfl hli.v hil ⟨by omega, Nat.le_refl _⟩ (by rw [show (inp.drop 0).take (inp.length - 0) = inp from List.take_length]; exact hi)
      rw [show (inp.drop 0).take (inp.length - 0) = inp from List.take_length] at e1
      refine zo_bn e1 ?_
      refine j_X8_found_73 ?_
      refine zo_pf 11 H.o (by omega) (by omega) ?_
      refine zo_neg (by decide) ?_
      refine zo_ob H.o (by omega) ?_
      refine zo_bn (b_withName H hg (fun k y hk => by rw [zup_b (by omega)]; exact h k y hk) h6 hl hn) ?_
      exact zo_rt rfl
    · have ef : zfnd inp ns = -1 := if_neg hi
      rw [zbl_n hi] at ht
      subst ht
      rw [ef]
      refine zo_pos rfl ?_
      refine j_X8_found_73 ?_
      refine zo_pf 11 H.o (by omega) (by omega) ?_
      exact zo_pos rfl (zo_rt rfl)
  refine zo_l2 (F := fun f (k : Nat) (t : Int) => f_X8_found_16 f m g0 (ns.length : Int) t (k : Int) (S, μ)) (fun k t => k ≤ inp.length ∧ t = zbl ((1 ≤ (inp.length : Int) ∧ (inp.length : Int) ≤ 6) ∧ zlet (inp.take k))) (fun k _ => inp.length - k) ?_ zFU 0 _ ⟨by omega, zbl_i ⟨fun z => ⟨z, fun v hv => absurd hv (by rw [List.take_zero]; simp)⟩, fun z => z.1⟩⟩ (by show inp.length - 0 < 1000000; omega)
  rintro f k t ⟨hk, ht⟩ ih
  have fin : ¬ ((1 ≤ (inp.length : Int) ∧ (inp.length : Int) ≤ 6) ∧ zlet (inp.take k)) ∨ k = inp.length → t = zbl (zisn inp) := by
    intro hor
    rw [ht]
    refine zbl_i ⟨fun z => ?_, fun z => ?_⟩
    · rcases hor with y | y
      · exact absurd z y
      · rw [y, List.take_length] at z
        exact ⟨by omega, z.2⟩
    · exact ⟨by have := z.1; omega, fun v hv => z.2 v (List.mem_of_mem_take hv)⟩
  refine j_X8_found_16 ?_
  refine zo_gf H.o hli.n (by omega) (by omega) ?_
  by_cases e : k < inp.length
  · have hget : inp[k]? = some inp[k] := List.getElem?_eq_getElem e
    generalize inp[k] = v at hget
    refine zo_pos (by omega) ?_
    by_cases hc : (1 ≤ (inp.length : Int) ∧ (inp.length : Int) ≤ 6) ∧ zlet (inp.take k)
    · have et : t = 1 := by rw [ht, zbl_p hc]
      refine zo_neg (by omega) ?_
      refine zo_gr H.o H.r10 (by omega) (by omega) ?_
      refine zo_ld H.a6 (by omega) (hli.v k v hget) ?_
      refine zo_bn b_in ?_
      rw [w32_s (k := k) (by omega)]
      refine ih (k + 1) _ ⟨by omega, zbl_i ⟨fun z => ⟨hc.1, ?_⟩, fun z => ?_⟩⟩ (by omega)
      · rw [take_s hget]
        intro u hu
        rcases List.mem_append.mp hu with hu | hu
        · exact hc.2 u hu
        · rw [List.mem_singleton.mp hu]; exact z
      · refine z.2 v ?_
        rw [take_s hget]
        exact List.mem_append_right _ (List.mem_singleton.mpr rfl)
    · have et : t = 0 := by rw [ht, zbl_n hc]
      refine zo_pos et ?_
      exact tail t (fin (Or.inl hc))
  · refine zo_neg (by omega) ?_
    exact tail t (fin (Or.inr (by omega)))
end C73
theorem o_findAgent {B x : Int} {S : zG} {μ : zM} {M : zD} {L : List zD} {K : zKs} {inp out : List Int} {c p : Int} {P : zG → zM → Prop} (h : Wd B x S μ M L K inp out c p) (hB : B + 99 ≤ 1000000) (hP : zPP B x P) : zOpq x P (f_X7_findAgent x) (f_X8_findAgent (x + 66)) S μ := by
  have hx := h.o.x0
  have hil := h.a.il
  have l1 := h.a.li.tk (by omega) 0 (by omega)
  have f1 : FB (x + 1) μ (zup μ (x + 1) 1 0) := fun y h1 h2 => zup_c h1
  have a1 := h.a.inpu l1 f1 (by rw [List.length_take]; omega)
  have e7 := c_findInput h.a h.a.D.sh.ag h.a.D.names (by omega) h.w.M.an.2
  have h8 : W8 S (zup μ (x + 1) 1 0) (x + 66) M L K inp out c p := h.b.keep (fun _ _ _ => rfl) (fun _ => rfl) (fun y h1 h2 _ _ _ _ => zup_c (by omega)) (fun k _ => zup_b (by omega))
  have g0 : W8 S (zup (zup μ (x + 1) 1 0) (x + 66) 0 0) (x + 66) M L K inp out c p := FM.u0.w8 h8
  have k1 := g0.li.tk (by omega) 0 (by omega)
  have q : FI (x + 66) (zup (zup μ (x + 1) 1 0) (x + 66) 0 0) (zup (zup (zup μ (x + 1) 1 0) (x + 66) 0 0) (x + 66) 11 0) := FI.mk ⟨fun y h1 h2 => zup_c h1, fun k h1 => zup_j h1⟩
  have g1 := g0.inpu k1 q
  have e8 := b_found (ns := M.an) (g0 := 9) g0.H g0.li hil (by decide) g0.D.an g0.D.al h.w.M.an.2
  refine ⟨zfnd inp M.an, S, zup μ (x + 1) 1 0, ?_, zup (zup (zup μ (x + 1) 1 0) (x + 66) 0 0) (x + 66) 11 0, ?_, h.b.H.o, hP.q hB S _ (Wd.mk ⟨a1.keep (fun y hy => by rw [zup_c (by omega), zup_c (by omega)]; rfl), g1, h.w, h.o⟩)⟩
  · apply zo_un
    refine j_X7_findAgent ?_
    refine zo_gr h.a.C.o h.a.C.r3 (by omega) (by omega) ?_
    refine zo_gr h.a.D.sh.o h.a.D.sh.r1 (by omega) (by omega) ?_
    refine zo_ob h.a.C.o (by omega) ?_
    refine zo_bn e7 ?_
    exact zo_rt rfl
  · apply zo_un
    refine j_X8_findAgent ?_
    refine zo_pf 0 h8.H.o (by omega) (by omega) ?_
    refine zo_ob g0.H.o (by omega) ?_
    refine zo_bn (b_agents g0.H g0.D) ?_
    refine zo_ob g0.H.o (by omega) ?_
    refine zo_bn e8 ?_
    exact zo_rt rfl
theorem o_findWay {B x : Int} {S : zG} {μ : zM} {M : zD} {L : List zD} {K : zKs} {inp out : List Int} {c p : Int} {P : zG → zM → Prop} (h : Wd B x S μ M L K inp out c p) (hB : B + 99 ≤ 1000000) (hP : zPP B x P) : zOpq x P (f_X7_findWay x) (f_X8_findWay (x + 66)) S μ := by
  have hx := h.o.x0
  have hil := h.a.il
  have l1 := h.a.li.tk (by omega) 0 (by omega)
  have f1 : FB (x + 1) μ (zup μ (x + 1) 1 0) := fun y h1 h2 => zup_c h1
  have a1 := h.a.inpu l1 f1 (by rw [List.length_take]; omega)
  have e7 := c_findInput h.a h.a.D.sh.wa h.a.D.wnames (by omega) h.w.M.wn.2
  have h8 : W8 S (zup μ (x + 1) 1 0) (x + 66) M L K inp out c p := h.b.keep (fun _ _ _ => rfl) (fun _ => rfl) (fun y h1 h2 _ _ _ _ => zup_c (by omega)) (fun k _ => zup_b (by omega))
  have g0 : W8 S (zup (zup μ (x + 1) 1 0) (x + 66) 0 0) (x + 66) M L K inp out c p := FM.u0.w8 h8
  have k1 := g0.li.tk (by omega) 0 (by omega)
  have q : FI (x + 66) (zup (zup μ (x + 1) 1 0) (x + 66) 0 0) (zup (zup (zup μ (x + 1) 1 0) (x + 66) 0 0) (x + 66) 11 0) := FI.mk ⟨fun y h1 h2 => zup_c h1, fun k h1 => zup_j h1⟩
  have g1 := g0.inpu k1 q
  have e8 := b_found (ns := M.wn) (g0 := 15) g0.H g0.li hil (by decide) g0.D.wn g0.D.wl h.w.M.wn.2
  refine ⟨zfnd inp M.wn, S, zup μ (x + 1) 1 0, ?_, zup (zup (zup μ (x + 1) 1 0) (x + 66) 0 0) (x + 66) 11 0, ?_, h.b.H.o, hP.q hB S _ (Wd.mk ⟨a1.keep (fun y hy => by rw [zup_c (by omega), zup_c (by omega)]; rfl), g1, h.w, h.o⟩)⟩
  · apply zo_un
    refine j_X7_findWay ?_
    refine zo_gr h.a.C.o h.a.C.r3 (by omega) (by omega) ?_
    refine zo_gr h.a.D.sh.o h.a.D.sh.r2 (by omega) (by omega) ?_
    refine zo_ob h.a.C.o (by omega) ?_
    refine zo_bn e7 ?_
    exact zo_rt rfl
  · apply zo_un
    refine j_X8_findWay ?_
    refine zo_pf 0 h8.H.o (by omega) (by omega) ?_
    refine zo_ob g0.H.o (by omega) ?_
    refine zo_bn (b_ways g0.H g0.D) ?_
    refine zo_ob g0.H.o (by omega) ?_
    refine zo_bn e8 ?_
    exact zo_rt rfl
theorem o_outputByte {B x : Int} {S : zG} {μ : zM} {M : zD} {L : List zD} {K : zKs} {inp out : List Int} {c p : Int} {P : zG → zM → Prop} {i : Int} (h : Wd B x S μ M L K inp out c p) (hP : ∀ S1 μ3, Wd B x S1 μ3 M L K inp out c p → P S1 μ3) : zOp x P (f_X7_outputByte x i) (f_X8_outputByte (x + 66) i) [(2, 1)] S μ := by
  have hx := h.o.x0
  have hol := h.a.ol
  have C := h.a.C
  by_cases h1 : 0 ≤ i ∧ i < (out.length : Int)
  · obtain ⟨k, rfl⟩ : ∃ k : Nat, i = (k : Int) := ⟨i.toNat, by omega⟩
    have hget : out[k]? = some out[k] := List.getElem?_eq_getElem (by omega)
    generalize out[k] = v at hget
    have hv := h.a.lo.g v (List.mem_of_getElem? hget)
    have hv0 := hol.2 v (List.mem_of_getElem? hget)
    have ev : zand v 255 = v := by rw [zand_255 hv, if_neg (by omega)]
    refine op_q (v := v) h ?_ (by unfold zI; omega) ?_ hP
    · refine zo_xq ?_
      refine j_X7_outputByte ?_
      refine zo_neg (by omega) ?_
      refine zo_gr C.o C.r1 (by omega) (by omega) ?_
      refine zo_gf h.a.bo.o h.a.lo.n (by omega) (by omega) ?_
      refine zo_pos (by omega) ?_
      refine zo_gr C.o C.r1 (by omega) (by omega) ?_
      refine zo_ob h.a.bo.o (by omega) ?_
      refine zo_bn (c_at h.a.bo (by rw [show x + 3 + 1 = x + 4 by omega]; exact h.a.lo) (by omega) hget) ?_
      exact zo_rt ⟨_, by rw [ev], FV.rf⟩
    · intro S1 μ2 h8
      refine zo_xq ?_
      refine j_X8_outputByte ?_
      refine zo_gf h8.H.o h8.lo.n (by omega) (by omega) ?_
      refine zo_bn b_in ?_
      rw [w32_e (show -2147483648 ≤ (out.length : Int) - 1 ∧ (out.length : Int) - 1 < 2147483648 by omega)]
      refine m_p1 h8.H (zbl_nz (by omega)) ?_
      have g8 : W8 S1 (zup μ2 (x + 66) 0 0) (x + 66) M L K inp out c p := FM.u0.w8 h8
      have gt : zup μ2 (x + 66) 0 0 (x + 66) 0 = 0 := zup_at
      refine zo_gr g8.H.o g8.H.r26 (by omega) (by omega) ?_
      refine zo_ld g8.H.a11 (by omega) (g8.lo.v k v hget) ?_
      exact zo_rt ⟨_, rfl, FM.u0, gt⟩
  · refine op_t 2 1 h ?_ (by decide) (by decide) ?_ hP
    · apply zo_un
      refine j_X7_outputByte ?_
      by_cases h0 : i < 0
      · exact zo_pos h0 (zo_rt rfl)
      · refine zo_neg h0 ?_
        refine zo_gr C.o C.r1 (by omega) (by omega) ?_
        refine zo_gf h.a.bo.o h.a.lo.n (by omega) (by omega) ?_
        exact zo_neg (by omega) (zo_rt rfl)
    · intro S1 μ2 h8
      refine zo_xt ?_
      refine j_X8_outputByte ?_
      refine zo_gf h8.H.o h8.lo.n (by omega) (by omega) ?_
      refine zo_bn b_in ?_
      rw [w32_e (show -2147483648 ≤ (out.length : Int) - 1 ∧ (out.length : Int) - 1 < 2147483648 by omega)]
      refine m_f1 h8.H (zbl_n (by omega)) ?_
      exact ⟨_, _, rfl, FM.u0, zup_at⟩
