/-! C 71: what would be -/
section C71
variable {S S' : zG} {μ μ' μ1 μ4 μ5 μ6 μ7 : zM} {x m d B A a o t w : Int} {M M' : zD} {L : List zD} {K : zKs} {inp out : List Int} {c p : Int} {P : zG → zM → Prop} {Q : zR × zS → Prop}
theorem D7.em37 (h : D7 S μ (x + 37) M) : μ (x + 45) 1 = 0 := by
  have h1 := h.em
  rw [show x + 37 + 8 = x + 45 by omega] at h1
  exact h1
end C71
