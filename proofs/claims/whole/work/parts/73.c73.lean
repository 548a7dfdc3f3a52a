/-! C 73: names as numbers -/
theorem shl_5 {c : Int} (hc : 0 ≤ c ∧ c < 33554432) : zshl c 5 = 32 * c := by
  have h1 : zshl c 5 = ((BitVec.ofInt 32 c) <<< (5 : Nat)).toInt := rfl
  obtain ⟨k, rfl⟩ : ∃ k : Nat, c = (k : Int) := ⟨c.toNat, by omega⟩
  have h2 : (BitVec.ofInt 32 (k : Int)).toNat = k := by
    rw [BitVec.toNat_ofInt]
    omega
  rw [h1, BitVec.toInt_eq_toNat_bmod, BitVec.toNat_shiftLeft, h2, Nat.shiftLeft_eq]
  rw [Int.bmod_def]
  omega
theorem shr_n {c : Int} (hc : 0 ≤ c ∧ c < 2147483648) : zshr c 0 = c / 1 ∧ zshr c 5 = c / 32 ∧ zshr c 10 = c / 1024 ∧ zshr c 15 = c / 32768 ∧ zshr c 20 = c / 1048576 ∧ zshr c 25 = c / 33554432 := by
  have h2 : (BitVec.ofInt 32 c).toInt = c := by
    rw [BitVec.toInt_ofInt, Int.bmod_def]
    omega
  have h0 : zshr c 0 = (BitVec.sshiftRight (BitVec.ofInt 32 c) 0).toInt := rfl
  have h5 : zshr c 5 = (BitVec.sshiftRight (BitVec.ofInt 32 c) 5).toInt := rfl
  have h10 : zshr c 10 = (BitVec.sshiftRight (BitVec.ofInt 32 c) 10).toInt := rfl
  have h15 : zshr c 15 = (BitVec.sshiftRight (BitVec.ofInt 32 c) 15).toInt := rfl
  have h20 : zshr c 20 = (BitVec.sshiftRight (BitVec.ofInt 32 c) 20).toInt := rfl
  have h25 : zshr c 25 = (BitVec.sshiftRight (BitVec.ofInt 32 c) 25).toInt := rfl
  rw [h0, h5, h10, h15, h20, h25, BitVec.toInt_sshiftRight, BitVec.toInt_sshiftRight, BitVec.toInt_sshiftRight, BitVec.toInt_sshiftRight, BitVec.toInt_sshiftRight, BitVec.toInt_sshiftRight, h2, Int.shiftRight_eq_div_pow, Int.shiftRight_eq_div_pow, Int.shiftRight_eq_div_pow, Int.shiftRight_eq_div_pow, Int.shiftRight_eq_div_pow, Int.shiftRight_eq_div_pow]
  exact ⟨rfl, rfl, rfl, rfl, rfl, rfl⟩
theorem and_31 {c : Int} (hc : 0 ≤ c ∧ c < 2147483648) : zand c 31 = c % 32 := by
  have h1 : zand c 31 = (BitVec.ofInt 32 c &&& BitVec.ofInt 32 31).toInt := rfl
  obtain ⟨k, rfl⟩ : ∃ k : Nat, c = (k : Int) := ⟨c.toNat, by omega⟩
  have h2 : (BitVec.ofInt 32 (k : Int)).toNat = k := by
    rw [BitVec.toNat_ofInt]
    omega
  have h3 : (BitVec.ofInt 32 31).toNat = 2 ^ 5 - 1 := rfl
  rw [h1, BitVec.toInt_eq_toNat_bmod, BitVec.toNat_and, h2, h3, Nat.and_two_pow_sub_one_eq_mod]
  rw [Int.bmod_def]
  omega
