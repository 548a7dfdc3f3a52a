/-! C 63: more operations that ask -/
theorem FV.d {x : Int} {S : zG} {μ μ' : zM} {M : zD} (f : FV (x + 5) μ μ') (h : D7 S μ (x + 12) M) : D7 S μ' (x + 12) M := h.keep (fun y h1 h2 => f y (by omega))
noncomputable def zD.mvd (M : zD) (a e : Int) (q : zP) : Int := if q 1 = a ∨ ¬ M.T a (q 1) = -1 then (if e = 0 then M.lo a q else M.hi a q) else -1
noncomputable def zD.rgt (M : zD) (a : Int) : Int := if M.wn.length = 0 then -1 else w32 ((M.bel a (M.bst a 0) (-1)).2.2 - (M.bel a (M.bst a 1) (-1)).2.1)
