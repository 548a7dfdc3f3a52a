/-! definitions of rows 5 and 6 -/
def zFU : Nat := 1000000
def zlen (j : Nat) : Int := ((zsb j).length : Int)
def zbyt (j : Nat) (i : Int) : Int := ((zsb j).getD i.toNat 0).toInt
def zsln (j : Nat) (F : Int → zFn) : zFn := if j < 11 then F (zlen j) else none
def zsch (j : Nat) (i : Int) (F : Int → zFn) : zFn := if j < 11 ∧ 0 ≤ i ∧ i < zlen j then F (zbyt j i) else none
def zslI (j : Int) (F : Int → zFn) : zFn := if 0 ≤ j then zsln j.toNat F else none
def zscI (j : Int) (i : Int) (F : Int → zFn) : zFn := if 0 ≤ j then zsch j.toNat i F else none
