/-! C 67: operations: keeping, restoring, undoing, the input -/
section C67
variable {S S' : zG} {μ μ' μ1 : zM} {x m B A Z : Int} {M M' X : zD} {L L' : List zD} {K : zKs} {inp out inp' out' : List Int} {c p : Int} {r : Nat → Int} {P : zG → zM → Prop} {Q : zR × zS → Prop}
theorem zfour_len (v : Int) : (zfour v).length = 4 := rfl
end C67
