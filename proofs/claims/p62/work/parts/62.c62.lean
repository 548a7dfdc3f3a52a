/-! C 62: operations that ask -/
theorem k_P2 {S : zG} {μ : zM} {x : Int} {M : zD} (C : CB S x) (h : D7 S μ (x + 12) M) {a i : Int} (hc : (0 ≤ a ∧ a < (M.an.length : Int)) ∧ (0 ≤ i ∧ i < ((M.li a).length : Int))) : f_X7_checkReport x a i (S, μ) = some (.inl 0, (S, μ)) := k_P C h hc.1 hc.2
