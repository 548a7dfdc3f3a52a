/-! C 54: the model's questions about beliefs -/
section C54
variable {S : zG} {μ μ' : zM} {m A B a w x r : Int} {M X : zD} {Q : zR × zS → Prop} {s : zBs}
theorem zws_c (s : zBs) (t : Int) (e : Nat × zP) (r : zEn) (c : Int) : zws s t (e :: r) c = zws s t r (if s.1 (e.2 0) = t then zor c (zshl 1 (e.2 0)) else c) := rfl
end C54
