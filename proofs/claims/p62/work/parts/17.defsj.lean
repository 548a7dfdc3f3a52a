/-! DEFINITIONS J -/
/-- from the bytes of a constant into a byte array -/
def zcpS (M : zM) (j sp a dp n : Int) : zM := fun b i => if b = a ∧ dp ≤ i ∧ i < dp + n then zbyt j.toNat (sp + (i - dp)) else M b i
def zakS (σ : zS) (j sp a dp n : Int) : Prop := 0 ≤ j ∧ j < 25 ∧ ∃ n1 : Int, σ.1.1 a = some (2, n1) ∧ 0 ≤ sp ∧ 0 ≤ dp ∧ 0 ≤ n ∧ sp + n ≤ zlen j.toNat ∧ dp + n ≤ n1
noncomputable def zacS (j sp a dp n : Int) (σ : zS) (F : zS → zFn) : zFn := @ite _ (zakS σ j sp a dp n) (Classical.propDecidable _) (F (σ.1, zcpS σ.2 j sp a dp n)) none
def zmkc (σ : zS) (a n : Int) : zS := ((fun b => if b = σ.1.2.2 then some (2, n) else σ.1.1 b, fun b j => if b = σ.1.2.2 then -1 else σ.1.2.1 b j, σ.1.2.2 + 1), fun b j => if b = σ.1.2.2 then σ.2 a j else σ.2 b j)
noncomputable def zcl (N : Nat) (a : Int) (σ : zS) (F : Int → zS → zFn) : zFn := match σ.1.1 a with
  | some k => @ite _ (k.1 = 2 ∧ k.2 ≤ (N : Int) ∧ zyB σ a 0 k.2) (Classical.propDecidable _) (F σ.1.2.2 (zmkc σ a k.2)) none
  | none => none
def zsd (k : Nat) (i : Int) (F : Int → zFn) : zFn := if 0 ≤ i ∧ i < 100 then F (zdg1 k i) else none
/-- a byte array it is -/
def zcb (a : Int) (σ : zS) (A : zFn) : zFn := match σ.1.1 a with
  | some k => if k.1 = 2 then A else none
  | none => none
/-- the script -/
def zsq (g : zF) (a i : Int) (F : Int → zFn) : zFn := if a = 200 ∧ (zsl9 g : Int) < 2147483648 ∧ 0 ≤ i ∧ i < (zsl9 g : Int) then F (zscr g i.toNat) else none
def zsql (g : zF) (a : Int) (F : Int → zFn) : zFn := if a = 200 ∧ (zsl9 g : Int) < 2147483648 then F (zsl9 g : Int) else none
