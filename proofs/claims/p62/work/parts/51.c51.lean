/-! C 51: the model: delivering, rounds, time -/
section C51
variable {S : zG} {μ μ' : zM} {m A B : Int} {M X : zD} {Q : zR × zS → Prop} {g g' : zAr}
theorem dlv_min (M : zD) {n : Nat} (h : M.qu.length ≤ n) : M.dlv n = M.dlv M.qu.length := by
  unfold zD.dlv
  rw [List.take_of_length_le h, List.take_of_length_le (Nat.le_refl _), List.drop_of_length_le h, List.drop_of_length_le (Nat.le_refl _)]
end C51
