/-! THE CLAIM OUT OF ONE WALK OF THE LAW'S BODY. Your part is whole_start (and what it stands on); all else here is the same for every law, but numbers. -/
def R_law : String := "PathTrustLaw"
def lw_P (b : Addr) (xs : List Int32) (args : Array Value) (s : State) : Prop := args = #[.ref b] ∧ s.IntsAt b xs ∧ xs.length ≤ 260 ∧ (Jvm.Cond.and given_1 narrow_1).before args s = true
def lw_Q (_ : Array Value) (s : State) (o : Outcome) (t : State) : Prop := o = .returned (some (.int 1)) ∧ Framed s o t [] 600086 7301442
def lw_Z (below : List Frame) (a : Array Value) (s : State) : State → Prop := fun t => ∃ o, t.status = .running ∧ Ended t below o ∧ lw_Q a s o t
/-- what holds at the law's entry: the machine, the code, the tables' words (any of lw_tbl by 'hts w (by decide +kernel)'), the script of L ints xs at the cell b, what the Statement gives of the start (any of its parts by flat_of_before) -/
def lw_At (p : Program) (s : State) (m : MethodId) (meth : Method) (c : Code) (b L : Nat) (xs : Nat → Int32) : Prop :=
  p.tables.exec = Jvm.exec ∧ c.code = code ∧ meth.sig.returnType = ret ∧ c.maxLocals = 4 ∧ s.vm.findClass R_law = some m.cls ∧ (∀ w ∈ lw_tbl, w.before #[Value.ref b] s = true) ∧ va_X b L xs s s.heap ∧ b < s.heap.size ∧ meth.locks = false ∧ (Jvm.Cond.and given_1 narrow_1).before #[Value.ref b] s = true ∧ meth.name = x.name ∧ c.exceptionTable.toList = []
/-! what the start says -/
abbrev ns_F : List Cond := flatC (Jvm.Cond.and given_1 narrow_1)
def ns_k : Nat → Nat := fun i => match i with
  | 0 => 77
  | 1 => 82
  | 2 => 88
  | 3 => 90
  | 4 => 92
  | 5 => 94
  | 6 => 44
  | 7 => 58
  | 8 => 63
  | 9 => 148
  | 10 => 68
  | 11 => 46
  | 12 => 54
  | 13 => 59
  | 14 => 61
  | 15 => 63
  | 16 => 65
  | 17 => 67
  | 18 => 72
  | 19 => 74
  | 20 => 76
  | 21 => 78
  | 22 => 80
  | 23 => 82
  | _ => 84
def ns_c (i : Nat) : String := if i < 11 then "PathTrust$Parser" else "PathTrustLaw"
def ns_t (i : Nat) : Term := .string (ns_c i) (ns_k i)
abbrev ns_v (i : Nat) : Term := .field (ns_t i) "java/lang/String" "value" "[B"
abbrev ns_l : List Nat := (List.range 25).map fun i => (zsb i).length
abbrev ns_b : List (List Int32) := (List.range 25).map zsb
set_option maxRecDepth 100000 in
theorem nr_1 : ∀ i, i < 25 → Cond.exactly (ns_t i) "java/lang/String" ∈ ns_F := by decide +kernel
set_option maxRecDepth 100000 in
theorem nr_2 : ∀ i, i < 25 → Cond.eq (.field (ns_t i) "java/lang/String" "coder" "B") (.int 0) ∈ ns_F := by decide +kernel
set_option maxRecDepth 100000 in
theorem nr_3 : ∀ i, i < 25 → Cond.arrayOf (ns_v i) .byte ∈ ns_F := by decide +kernel
set_option maxRecDepth 100000 in
theorem nr_4 : ∀ i, i < 25 → Cond.eq (.length (ns_v i)) (.int (Int32.ofNat (ns_l.getD i 0))) ∈ ns_F := by decide +kernel
set_option maxRecDepth 100000 in
theorem nr_5_0 : ∀ j, j < ns_l.getD 0 0 → Cond.eq (.elem (ns_v 0) (.int (Int32.ofNat j))) (.int ((ns_b.getD 0 []).getD j 0)) ∈ ns_F := by decide +kernel
set_option maxRecDepth 100000 in
theorem nr_5_1 : ∀ j, j < ns_l.getD 1 0 → Cond.eq (.elem (ns_v 1) (.int (Int32.ofNat j))) (.int ((ns_b.getD 1 []).getD j 0)) ∈ ns_F := by decide +kernel
set_option maxRecDepth 100000 in
theorem nr_5_2 : ∀ j, j < ns_l.getD 2 0 → Cond.eq (.elem (ns_v 2) (.int (Int32.ofNat j))) (.int ((ns_b.getD 2 []).getD j 0)) ∈ ns_F := by decide +kernel
set_option maxRecDepth 100000 in
theorem nr_5_3 : ∀ j, j < ns_l.getD 3 0 → Cond.eq (.elem (ns_v 3) (.int (Int32.ofNat j))) (.int ((ns_b.getD 3 []).getD j 0)) ∈ ns_F := by decide +kernel
set_option maxRecDepth 100000 in
theorem nr_5_4 : ∀ j, j < ns_l.getD 4 0 → Cond.eq (.elem (ns_v 4) (.int (Int32.ofNat j))) (.int ((ns_b.getD 4 []).getD j 0)) ∈ ns_F := by decide +kernel
set_option maxRecDepth 100000 in
theorem nr_5_5 : ∀ j, j < ns_l.getD 5 0 → Cond.eq (.elem (ns_v 5) (.int (Int32.ofNat j))) (.int ((ns_b.getD 5 []).getD j 0)) ∈ ns_F := by decide +kernel
set_option maxRecDepth 100000 in
theorem nr_5_6 : ∀ j, j < ns_l.getD 6 0 → Cond.eq (.elem (ns_v 6) (.int (Int32.ofNat j))) (.int ((ns_b.getD 6 []).getD j 0)) ∈ ns_F := by decide +kernel
set_option maxRecDepth 100000 in
theorem nr_5_7 : ∀ j, j < ns_l.getD 7 0 → Cond.eq (.elem (ns_v 7) (.int (Int32.ofNat j))) (.int ((ns_b.getD 7 []).getD j 0)) ∈ ns_F := by decide +kernel
set_option maxRecDepth 100000 in
theorem nr_5_8 : ∀ j, j < ns_l.getD 8 0 → Cond.eq (.elem (ns_v 8) (.int (Int32.ofNat j))) (.int ((ns_b.getD 8 []).getD j 0)) ∈ ns_F := by decide +kernel
set_option maxRecDepth 100000 in
theorem nr_5_9 : ∀ j, j < ns_l.getD 9 0 → Cond.eq (.elem (ns_v 9) (.int (Int32.ofNat j))) (.int ((ns_b.getD 9 []).getD j 0)) ∈ ns_F := by decide +kernel
set_option maxRecDepth 100000 in
theorem nr_5_10 : ∀ j, j < ns_l.getD 10 0 → Cond.eq (.elem (ns_v 10) (.int (Int32.ofNat j))) (.int ((ns_b.getD 10 []).getD j 0)) ∈ ns_F := by decide +kernel
set_option maxRecDepth 100000 in
theorem nr_5_11 : ∀ j, j < ns_l.getD 11 0 → Cond.eq (.elem (ns_v 11) (.int (Int32.ofNat j))) (.int ((ns_b.getD 11 []).getD j 0)) ∈ ns_F := by decide +kernel
set_option maxRecDepth 100000 in
theorem nr_5_12 : ∀ j, j < ns_l.getD 12 0 → Cond.eq (.elem (ns_v 12) (.int (Int32.ofNat j))) (.int ((ns_b.getD 12 []).getD j 0)) ∈ ns_F := by decide +kernel
set_option maxRecDepth 100000 in
theorem nr_5_13 : ∀ j, j < ns_l.getD 13 0 → Cond.eq (.elem (ns_v 13) (.int (Int32.ofNat j))) (.int ((ns_b.getD 13 []).getD j 0)) ∈ ns_F := by decide +kernel
set_option maxRecDepth 100000 in
theorem nr_5_14 : ∀ j, j < ns_l.getD 14 0 → Cond.eq (.elem (ns_v 14) (.int (Int32.ofNat j))) (.int ((ns_b.getD 14 []).getD j 0)) ∈ ns_F := by decide +kernel
set_option maxRecDepth 100000 in
theorem nr_5_15 : ∀ j, j < ns_l.getD 15 0 → Cond.eq (.elem (ns_v 15) (.int (Int32.ofNat j))) (.int ((ns_b.getD 15 []).getD j 0)) ∈ ns_F := by decide +kernel
set_option maxRecDepth 100000 in
theorem nr_5_16 : ∀ j, j < ns_l.getD 16 0 → Cond.eq (.elem (ns_v 16) (.int (Int32.ofNat j))) (.int ((ns_b.getD 16 []).getD j 0)) ∈ ns_F := by decide +kernel
set_option maxRecDepth 100000 in
theorem nr_5_17 : ∀ j, j < ns_l.getD 17 0 → Cond.eq (.elem (ns_v 17) (.int (Int32.ofNat j))) (.int ((ns_b.getD 17 []).getD j 0)) ∈ ns_F := by decide +kernel
set_option maxRecDepth 100000 in
theorem nr_5_18 : ∀ j, j < ns_l.getD 18 0 → Cond.eq (.elem (ns_v 18) (.int (Int32.ofNat j))) (.int ((ns_b.getD 18 []).getD j 0)) ∈ ns_F := by decide +kernel
set_option maxRecDepth 100000 in
theorem nr_5_19 : ∀ j, j < ns_l.getD 19 0 → Cond.eq (.elem (ns_v 19) (.int (Int32.ofNat j))) (.int ((ns_b.getD 19 []).getD j 0)) ∈ ns_F := by decide +kernel
set_option maxRecDepth 100000 in
theorem nr_5_20 : ∀ j, j < ns_l.getD 20 0 → Cond.eq (.elem (ns_v 20) (.int (Int32.ofNat j))) (.int ((ns_b.getD 20 []).getD j 0)) ∈ ns_F := by decide +kernel
set_option maxRecDepth 100000 in
theorem nr_5_21 : ∀ j, j < ns_l.getD 21 0 → Cond.eq (.elem (ns_v 21) (.int (Int32.ofNat j))) (.int ((ns_b.getD 21 []).getD j 0)) ∈ ns_F := by decide +kernel
set_option maxRecDepth 100000 in
theorem nr_5_22 : ∀ j, j < ns_l.getD 22 0 → Cond.eq (.elem (ns_v 22) (.int (Int32.ofNat j))) (.int ((ns_b.getD 22 []).getD j 0)) ∈ ns_F := by decide +kernel
set_option maxRecDepth 100000 in
theorem nr_5_23 : ∀ j, j < ns_l.getD 23 0 → Cond.eq (.elem (ns_v 23) (.int (Int32.ofNat j))) (.int ((ns_b.getD 23 []).getD j 0)) ∈ ns_F := by decide +kernel
set_option maxRecDepth 100000 in
theorem nr_5_24 : ∀ j, j < ns_l.getD 24 0 → Cond.eq (.elem (ns_v 24) (.int (Int32.ofNat j))) (.int ((ns_b.getD 24 []).getD j 0)) ∈ ns_F := by decide +kernel
theorem nr_5 : ∀ i, i < 25 → ∀ j, j < ns_l.getD i 0 → Cond.eq (.elem (ns_v i) (.int (Int32.ofNat j))) (.int ((ns_b.getD i []).getD j 0)) ∈ ns_F := by
  intro i hi
  have hc : i = 0 ∨ i = 1 ∨ i = 2 ∨ i = 3 ∨ i = 4 ∨ i = 5 ∨ i = 6 ∨ i = 7 ∨ i = 8 ∨ i = 9 ∨ i = 10 ∨ i = 11 ∨ i = 12 ∨ i = 13 ∨ i = 14 ∨ i = 15 ∨ i = 16 ∨ i = 17 ∨ i = 18 ∨ i = 19 ∨ i = 20 ∨ i = 21 ∨ i = 22 ∨ i = 23 ∨ i = 24 := by omega
  rcases hc with e | e | e | e | e | e | e | e | e | e | e | e | e | e | e | e | e | e | e | e | e | e | e | e | e <;> subst e
  · exact nr_5_0
  · exact nr_5_1
  · exact nr_5_2
  · exact nr_5_3
  · exact nr_5_4
  · exact nr_5_5
  · exact nr_5_6
  · exact nr_5_7
  · exact nr_5_8
  · exact nr_5_9
  · exact nr_5_10
  · exact nr_5_11
  · exact nr_5_12
  · exact nr_5_13
  · exact nr_5_14
  · exact nr_5_15
  · exact nr_5_16
  · exact nr_5_17
  · exact nr_5_18
  · exact nr_5_19
  · exact nr_5_20
  · exact nr_5_21
  · exact nr_5_22
  · exact nr_5_23
  · exact nr_5_24
set_option maxRecDepth 100000 in
theorem nr_7 : ∀ q ∈ zsm, Cond.exactly (.string q.1 q.2.1) "java/lang/String" ∈ ns_F := by decide +kernel
set_option maxRecDepth 100000 in
theorem nr_9 : ∀ q ∈ zsm, Cond.stringRef q.1 q.2.1 q.2.2 ∈ lw_tbl := by decide +kernel
set_option maxRecDepth 100000 in
theorem nr_10 : ∀ q ∈ zsr, Cond.stringRef q.1 q.2.1 q.2.2.1 ∈ lw_tbl := by decide +kernel
set_option maxRecDepth 100000 in
theorem nr_11 : ∀ q ∈ zsr, q.2.2.2 < 25 ∧ q.1 = ns_c q.2.2.2 ∧ q.2.1 = ns_k q.2.2.2 := by decide +kernel
set_option maxRecDepth 100000 in
theorem nr_12 : ∀ i, i < 25 → ∀ j, j < 25 → ns_l.getD i 0 = ns_l.getD j 0 → (∀ k, k < ns_l.getD i 0 → (ns_b.getD i []).getD k 0 = (ns_b.getD j []).getD k 0) → i = j := by decide +kernel
set_option maxRecDepth 100000 in
theorem nr_13 : ∀ i, i < 25 → ns_l.getD i 0 < 100 := by decide +kernel
set_option maxRecDepth 100000 in
theorem nr_14 : ∀ k, k < 3 → Cond.arrayOf (.static "PathTrust" (zsn k) "[I") .int ∈ ns_F := by decide +kernel
set_option maxRecDepth 100000 in
theorem nr_15 : ∀ k, k < 3 → Cond.eq (.length (.static "PathTrust" (zsn k) "[I")) (.int (Int32.ofNat 5)) ∈ ns_F := by decide +kernel
set_option maxRecDepth 100000 in
theorem nr_16 : ∀ k, k < 3 → ∀ j : Nat, j < 5 → Cond.eq (.elem (.static "PathTrust" (zsn k) "[I") (.int (Int32.ofNat j))) (.int (Int32.ofInt (zsv k (j : Int)))) ∈ ns_F := by decide +kernel
set_option maxRecDepth 100000 in
theorem nr_17 : ∀ k, k < 3 → Cond.laysStatic "PathTrust" (zsn k) "[I" ∈ lw_tbl := by decide +kernel
set_option maxRecDepth 100000 in
theorem nr_24 : ∀ k, k < 2 → Cond.arrayOf (.static "java/lang/Integer" (zsn (3 + k)) "[B") .byte ∈ ns_F := by decide +kernel
set_option maxRecDepth 100000 in
theorem nr_25 : ∀ k, k < 2 → Cond.eq (.length (.static "java/lang/Integer" (zsn (3 + k)) "[B")) (.int (Int32.ofNat 100)) ∈ ns_F := by decide +kernel
set_option maxRecDepth 100000 in
theorem nr_26_0_0 : ∀ j : Nat, j < 10 → Cond.eq (.elem (.static "java/lang/Integer" (zsn 3) "[B") (.int (Int32.ofNat (0 + j)))) (.int (Int32.ofInt (zdg1 3 ((0 + j : Nat) : Int)))) ∈ ns_F := by decide +kernel
set_option maxRecDepth 100000 in
theorem nr_26_0_1 : ∀ j : Nat, j < 10 → Cond.eq (.elem (.static "java/lang/Integer" (zsn 3) "[B") (.int (Int32.ofNat (10 + j)))) (.int (Int32.ofInt (zdg1 3 ((10 + j : Nat) : Int)))) ∈ ns_F := by decide +kernel
set_option maxRecDepth 100000 in
theorem nr_26_0_2 : ∀ j : Nat, j < 10 → Cond.eq (.elem (.static "java/lang/Integer" (zsn 3) "[B") (.int (Int32.ofNat (20 + j)))) (.int (Int32.ofInt (zdg1 3 ((20 + j : Nat) : Int)))) ∈ ns_F := by decide +kernel
set_option maxRecDepth 100000 in
theorem nr_26_0_3 : ∀ j : Nat, j < 10 → Cond.eq (.elem (.static "java/lang/Integer" (zsn 3) "[B") (.int (Int32.ofNat (30 + j)))) (.int (Int32.ofInt (zdg1 3 ((30 + j : Nat) : Int)))) ∈ ns_F := by decide +kernel
set_option maxRecDepth 100000 in
theorem nr_26_0_4 : ∀ j : Nat, j < 10 → Cond.eq (.elem (.static "java/lang/Integer" (zsn 3) "[B") (.int (Int32.ofNat (40 + j)))) (.int (Int32.ofInt (zdg1 3 ((40 + j : Nat) : Int)))) ∈ ns_F := by decide +kernel
set_option maxRecDepth 100000 in
theorem nr_26_0_5 : ∀ j : Nat, j < 10 → Cond.eq (.elem (.static "java/lang/Integer" (zsn 3) "[B") (.int (Int32.ofNat (50 + j)))) (.int (Int32.ofInt (zdg1 3 ((50 + j : Nat) : Int)))) ∈ ns_F := by decide +kernel
set_option maxRecDepth 100000 in
theorem nr_26_0_6 : ∀ j : Nat, j < 10 → Cond.eq (.elem (.static "java/lang/Integer" (zsn 3) "[B") (.int (Int32.ofNat (60 + j)))) (.int (Int32.ofInt (zdg1 3 ((60 + j : Nat) : Int)))) ∈ ns_F := by decide +kernel
set_option maxRecDepth 100000 in
theorem nr_26_0_7 : ∀ j : Nat, j < 10 → Cond.eq (.elem (.static "java/lang/Integer" (zsn 3) "[B") (.int (Int32.ofNat (70 + j)))) (.int (Int32.ofInt (zdg1 3 ((70 + j : Nat) : Int)))) ∈ ns_F := by decide +kernel
set_option maxRecDepth 100000 in
theorem nr_26_0_8 : ∀ j : Nat, j < 10 → Cond.eq (.elem (.static "java/lang/Integer" (zsn 3) "[B") (.int (Int32.ofNat (80 + j)))) (.int (Int32.ofInt (zdg1 3 ((80 + j : Nat) : Int)))) ∈ ns_F := by decide +kernel
set_option maxRecDepth 100000 in
theorem nr_26_0_9 : ∀ j : Nat, j < 10 → Cond.eq (.elem (.static "java/lang/Integer" (zsn 3) "[B") (.int (Int32.ofNat (90 + j)))) (.int (Int32.ofInt (zdg1 3 ((90 + j : Nat) : Int)))) ∈ ns_F := by decide +kernel
set_option maxRecDepth 100000 in
theorem nr_26_1_0 : ∀ j : Nat, j < 10 → Cond.eq (.elem (.static "java/lang/Integer" (zsn 4) "[B") (.int (Int32.ofNat (0 + j)))) (.int (Int32.ofInt (zdg1 4 ((0 + j : Nat) : Int)))) ∈ ns_F := by decide +kernel
set_option maxRecDepth 100000 in
theorem nr_26_1_1 : ∀ j : Nat, j < 10 → Cond.eq (.elem (.static "java/lang/Integer" (zsn 4) "[B") (.int (Int32.ofNat (10 + j)))) (.int (Int32.ofInt (zdg1 4 ((10 + j : Nat) : Int)))) ∈ ns_F := by decide +kernel
set_option maxRecDepth 100000 in
theorem nr_26_1_2 : ∀ j : Nat, j < 10 → Cond.eq (.elem (.static "java/lang/Integer" (zsn 4) "[B") (.int (Int32.ofNat (20 + j)))) (.int (Int32.ofInt (zdg1 4 ((20 + j : Nat) : Int)))) ∈ ns_F := by decide +kernel
set_option maxRecDepth 100000 in
theorem nr_26_1_3 : ∀ j : Nat, j < 10 → Cond.eq (.elem (.static "java/lang/Integer" (zsn 4) "[B") (.int (Int32.ofNat (30 + j)))) (.int (Int32.ofInt (zdg1 4 ((30 + j : Nat) : Int)))) ∈ ns_F := by decide +kernel
set_option maxRecDepth 100000 in
theorem nr_26_1_4 : ∀ j : Nat, j < 10 → Cond.eq (.elem (.static "java/lang/Integer" (zsn 4) "[B") (.int (Int32.ofNat (40 + j)))) (.int (Int32.ofInt (zdg1 4 ((40 + j : Nat) : Int)))) ∈ ns_F := by decide +kernel
set_option maxRecDepth 100000 in
theorem nr_26_1_5 : ∀ j : Nat, j < 10 → Cond.eq (.elem (.static "java/lang/Integer" (zsn 4) "[B") (.int (Int32.ofNat (50 + j)))) (.int (Int32.ofInt (zdg1 4 ((50 + j : Nat) : Int)))) ∈ ns_F := by decide +kernel
set_option maxRecDepth 100000 in
theorem nr_26_1_6 : ∀ j : Nat, j < 10 → Cond.eq (.elem (.static "java/lang/Integer" (zsn 4) "[B") (.int (Int32.ofNat (60 + j)))) (.int (Int32.ofInt (zdg1 4 ((60 + j : Nat) : Int)))) ∈ ns_F := by decide +kernel
set_option maxRecDepth 100000 in
theorem nr_26_1_7 : ∀ j : Nat, j < 10 → Cond.eq (.elem (.static "java/lang/Integer" (zsn 4) "[B") (.int (Int32.ofNat (70 + j)))) (.int (Int32.ofInt (zdg1 4 ((70 + j : Nat) : Int)))) ∈ ns_F := by decide +kernel
set_option maxRecDepth 100000 in
theorem nr_26_1_8 : ∀ j : Nat, j < 10 → Cond.eq (.elem (.static "java/lang/Integer" (zsn 4) "[B") (.int (Int32.ofNat (80 + j)))) (.int (Int32.ofInt (zdg1 4 ((80 + j : Nat) : Int)))) ∈ ns_F := by decide +kernel
set_option maxRecDepth 100000 in
theorem nr_26_1_9 : ∀ j : Nat, j < 10 → Cond.eq (.elem (.static "java/lang/Integer" (zsn 4) "[B") (.int (Int32.ofNat (90 + j)))) (.int (Int32.ofInt (zdg1 4 ((90 + j : Nat) : Int)))) ∈ ns_F := by decide +kernel
theorem nr_26 : ∀ k, k < 2 → ∀ j : Nat, j < 100 → Cond.eq (.elem (.static "java/lang/Integer" (zsn (3 + k)) "[B") (.int (Int32.ofNat j))) (.int (Int32.ofInt (zdg1 (3 + k) (j : Int)))) ∈ ns_F := by
  intro k hk j hj
  obtain ⟨i, hi, h⟩ : ∃ i : Nat, i < 10 ∧ (j = 0 + i ∨ j = 10 + i ∨ j = 20 + i ∨ j = 30 + i ∨ j = 40 + i ∨ j = 50 + i ∨ j = 60 + i ∨ j = 70 + i ∨ j = 80 + i ∨ j = 90 + i) := ⟨j % 10, by omega, by omega⟩
  have hc : k = 0 ∨ k = 1 := by omega
  rcases hc with e | e <;> subst e
  · rcases h with e | e | e | e | e | e | e | e | e | e <;> subst e
    · exact nr_26_0_0 i hi
    · exact nr_26_0_1 i hi
    · exact nr_26_0_2 i hi
    · exact nr_26_0_3 i hi
    · exact nr_26_0_4 i hi
    · exact nr_26_0_5 i hi
    · exact nr_26_0_6 i hi
    · exact nr_26_0_7 i hi
    · exact nr_26_0_8 i hi
    · exact nr_26_0_9 i hi
  · rcases h with e | e | e | e | e | e | e | e | e | e <;> subst e
    · exact nr_26_1_0 i hi
    · exact nr_26_1_1 i hi
    · exact nr_26_1_2 i hi
    · exact nr_26_1_3 i hi
    · exact nr_26_1_4 i hi
    · exact nr_26_1_5 i hi
    · exact nr_26_1_6 i hi
    · exact nr_26_1_7 i hi
    · exact nr_26_1_8 i hi
    · exact nr_26_1_9 i hi
set_option maxRecDepth 100000 in
theorem nr_27 : ∀ k, k < 2 → Cond.laysStatic "java/lang/Integer" (zsn (3 + k)) "[B" ∈ lw_tbl := by decide +kernel
theorem nr_n {i j : Nat} (hi : i < 100) (hj : j < 100) (h : Int32.ofNat i = Int32.ofNat j) : i = j := by
  have e := congrArg Int32.toNatClampNeg h
  rw [Int32.toNatClampNeg_ofNat_of_lt (by omega), Int32.toNatClampNeg_ofNat_of_lt (by omega)] at e
  exact e
section NS
variable {s : State} {b : Nat}
/-- the words of the language as they stand -/
theorem ns_S {A : Nat → Prop} (hg : ∀ w ∈ ns_F, w.before #[Value.ref b] s = true) (hA : ∀ a : Nat, a < s.heap.size → ¬ A a) : ∃ adK adV : Nat → Nat, vk_S 25 ns_l ns_b adK adV A s s.heap ∧ ∀ i : Nat, i < 25 → (ns_t i).eval #[Value.ref b] s none [] s = some (.ref (adK i)) := by
  have h0 : ∀ i : Nat, ∃ q : Nat × Nat, i < 25 → (ns_t i).eval #[Value.ref b] s none [] s = some (.ref q.1) ∧ va_O "java/lang/String" q.1 A s s.heap ∧ va_OF "java/lang/String" "coder" "B" (.int 0) q.1 A s s.heap ∧ va_OF "java/lang/String" "value" "[B" (.ref q.2) q.1 A s s.heap ∧ va_T .byte q.2 (ns_l.getD i 0) (fun j => .int ((ns_b.getD i []).getD j 0)) A s s.heap := by
    intro i
    by_cases hi : i < 25
    · obtain ⟨a, c, cA, kA, q1, q2, q3, q4, q5, q6, -⟩ := Cond.exactly_spec (args := #[Value.ref b]) (first := s) (o := none) (s := s) (idx := []) (t := ns_t i) (cls := "java/lang/String") (hg _ (nr_1 i hi))
      have h13 := nr_13 i hi
      obtain ⟨t, ht, hT⟩ := va_Tof (f := fun j => .int ((ns_b.getD i []).getD j 0)) (A := A) (by omega) (hg _ (nr_3 i hi)) (va_eqt (hg _ (nr_4 i hi))) (fun j hj => va_eqt (hg _ (nr_5 i hi j hj))) hA
      exact ⟨(a, t), fun _ => ⟨q1, ⟨cA, q3, q5, by rw [q6]; exact q2, hA a (Array.getElem?_eq_some_iff.mp q3).1⟩, vk_OFof q1 (va_eqt (hg _ (nr_2 i hi))) hA, vk_OFof q1 ht hA, hT⟩⟩
    · exact ⟨(0, 0), fun h => absurd h hi⟩
  obtain ⟨ad, had⟩ := Classical.axiomOfChoice h0
  refine ⟨fun i => (ad i).1, fun i => (ad i).2, ⟨fun i hi => (had i hi).2, fun i j hi hj e => ?_⟩, fun i hi => (had i hi).1⟩
  have e : (ad i).1 = (ad j).1 := e
  obtain ⟨-, -, -, o1, t1⟩ := had i hi
  obtain ⟨-, -, -, o2, t2⟩ := had j hj
  rw [e] at o1
  obtain ⟨cf, k, fi, f, cell, a1, -, a3, -, a5, -⟩ := o1
  obtain ⟨cf2, k2, fi2, f2, cell2, b1, -, b3, -, b5, -⟩ := o2
  have ef : f = f2 := by
    have := Option.some.inj (a1.symm.trans b1)
    exact congrArg (fun z => z.2.2.2) this
  have ec : cell = cell2 := Option.some.inj (a3.symm.trans b3)
  rw [ef, ec] at a5
  have ev : (ad i).2 = (ad j).2 := Value.ref.inj (Option.some.inj (a5.symm.trans b5))
  rw [ev] at t1
  obtain ⟨c1, u1, -, -, -, u5, u6, -⟩ := t1
  obtain ⟨c2, v1, -, -, -, v5, v6, -⟩ := t2
  have ec : c1 = c2 := Option.some.inj (u1.symm.trans v1)
  subst ec
  have el := nr_n (nr_13 i hi) (nr_13 j hj) (u5.symm.trans v5)
  refine nr_12 i hi j hj el (fun k hk => ?_)
  exact Value.int.inj (Option.some.inj ((u6 k hk).symm.trans (v6 k (by rw [← el]; exact hk))))
theorem ns_ar {ty : FieldType} (h : (Cond.arrayClass ty).before #[Value.ref b] s = true) : ∃ cA : ClassId, ArrOfT s cA ty ∧ s.vm.findClass ("[" ++ ty.toString) = some cA := by
  obtain ⟨c, k, comp, h1, h2, h3⟩ := Cond.arrayClass_spec h
  exact ⟨c, fun n z => ⟨fun k h => (by cases h), k, h2, comp, h3⟩, h1⟩
theorem ns_ao {C : String} (h : (Cond.arrayOver (.object C)).before #[Value.ref b] s = true) : ∃ cA : ClassId, ArrOfT s cA (.object C) ∧ va_RA s cA (.object C) := by
  obtain ⟨comp, c, k, f1, f2, f3, f4, f5⟩ := Cond.arrayOver_spec h
  exact ⟨c, fun n z => ⟨fun k h => (by cases h), k, f3, comp, f4⟩, k, comp, f3, f4, f1, f5⟩
theorem ns_T {A : Nat → Prop} (hg : ∀ w ∈ ns_F, w.before #[Value.ref b] s = true) (hts : ∀ w ∈ lw_tbl, w.before #[Value.ref b] s = true) (hA : ∀ a : Nat, a < s.heap.size → ¬ A a) {k : Nat} (hk : k < 3) : ∃ t : Nat, va_Z "PathTrust" (zsn k) "[I" (.ref t) A s s.heap ∧ va_T .int t 5 (fun j => .int (Int32.ofInt (zsv k j))) A s s.heap := by
  obtain ⟨t, ht, hT⟩ := va_Tof (f := fun j => .int (Int32.ofInt (zsv k (j : Int)))) (A := A) (N := 5) (by decide) (hg _ (nr_14 k hk)) (va_eqt (hg _ (nr_15 k hk))) (fun j hj => va_eqt (hg _ (nr_16 k hk j hj))) hA
  exact ⟨t, va_Zref (hts _ (nr_17 k hk)) (hts _ (List.mem_of_getElem? (i := 79) (by decide +kernel))) ht hA, hT⟩
theorem ns_D {A : Nat → Prop} (hg : ∀ w ∈ ns_F, w.before #[Value.ref b] s = true) (hts : ∀ w ∈ lw_tbl, w.before #[Value.ref b] s = true) (hA : ∀ a : Nat, a < s.heap.size → ¬ A a) {k : Nat} (hk : k < 2) : ∃ t : Nat, va_Z "java/lang/Integer" (zsn (3 + k)) "[B" (.ref t) A s s.heap ∧ va_T .byte t 100 (fun j => .int (Int32.ofInt (zdg1 (3 + k) j))) A s s.heap := by
  obtain ⟨t, ht, hT⟩ := va_Tof (f := fun j => .int (Int32.ofInt (zdg1 (3 + k) (j : Int)))) (A := A) (N := 100) (by decide) (hg _ (nr_24 k hk)) (va_eqt (hg _ (nr_25 k hk))) (fun j hj => va_eqt (hg _ (nr_26 k hk j hj))) hA
  exact ⟨t, va_Zref (hts _ (nr_27 k hk)) (hts _ (List.mem_of_getElem? (i := 98) (by decide +kernel))) ht hA, hT⟩
/-- the classes -/
theorem ns_C (hts : ∀ w ∈ lw_tbl, w.before #[Value.ref b] s = true) (hta : ∀ w ∈ lw_all, w.before #[Value.ref b] s = true) : ∃ D : va_G, ∀ (c : Nat) (q : vw_C), vwCl[c]? = some q → u_Kn s q.1 q.2.1 q.2.2 (D.1 c) (D.2 c) := by
  obtain ⟨c0, i0, k0⟩ := u_known (C := RX0) (T := TX0) (N := 2) (n := 2) hta (fun w hw => (zu_X0 w hw).1) (hta (.instantiable RX0 2) (List.mem_append_left _ (List.mem_of_getElem? (i := 114) (by decide +kernel))))
  obtain ⟨c1, i1, k1⟩ := u_known (C := RX1) (T := TX1) (N := 9) (n := 9) hta (fun w hw => (zu_X1 w hw).1) (hta (.instantiable RX1 9) (List.mem_append_left _ (List.mem_of_getElem? (i := 167) (by decide +kernel))))
  obtain ⟨c2, i2, k2⟩ := u_known (C := RX2) (T := TX2) (N := 2) (n := 2) hta (fun w hw => (zu_X2 w hw).1) (hta (.instantiable RX2 2) (List.mem_append_left _ (List.mem_of_getElem? (i := 290) (by decide +kernel))))
  obtain ⟨c3, i3, k3⟩ := u_known (C := RX3) (T := TX3) (N := 2) (n := 2) hta (fun w hw => (zu_X3 w hw).1) (hta (.instantiable RX3 2) (List.mem_append_left _ (List.mem_of_getElem? (i := 173) (by decide +kernel))))
  obtain ⟨c4, i4, k4⟩ := u_known (C := RX4) (T := TX4) (N := 8) (n := 8) hta (fun w hw => (zu_X4 w hw).1) (hta (.instantiable RX4 8) (List.mem_append_left _ (List.mem_of_getElem? (i := 257) (by decide +kernel))))
  obtain ⟨c5, i5, k5⟩ := u_known (C := RX5) (T := TX5) (N := 2) (n := 2) hta (fun w hw => (zu_X5 w hw).1) (hta (.instantiable RX5 2) (List.mem_append_left _ (List.mem_of_getElem? (i := 190) (by decide +kernel))))
  obtain ⟨c6, i6, k6⟩ := u_known (C := RX6) (T := TX6) (N := 9) (n := 9) hta (fun w hw => (zu_X6 w hw).1) (hta (.instantiable RX6 9) (List.mem_append_left _ (List.mem_of_getElem? (i := 130) (by decide +kernel))))
  obtain ⟨c7, i7, k7⟩ := u_known (C := RX7) (T := TX7) (N := 8) (n := 8) hta (fun w hw => (zu_X7 w hw).1) (hta (.instantiable RX7 8) (List.mem_append_left _ (List.mem_of_getElem? (i := 106) (by decide +kernel))))
  obtain ⟨c8, i8, k8⟩ := u_known (C := RJ4) (T := TJ4) (N := 4) (n := 4) hta (fun w hw => (zu_J4 w hw).1) (hta (.instantiable RJ4 4) (List.mem_append_left _ (List.mem_of_getElem? (i := 337) (by decide +kernel))))
  obtain ⟨c9, i9, k9⟩ := u_known (C := RJ0) (T := TJ0) (N := 4) (n := 4) hta (fun w hw => (zu_J0 w hw).1) (hta (.instantiable RJ0 4) (List.mem_append_left _ (List.mem_of_getElem? (i := 567) (by decide +kernel))))
  refine ⟨(fun k => if k = 0 then c0 else if k = 1 then c1 else if k = 2 then c2 else if k = 3 then c3 else if k = 4 then c4 else if k = 5 then c5 else if k = 6 then c6 else if k = 7 then c7 else if k = 8 then c8 else c9, fun k => if k = 0 then i0 else if k = 1 then i1 else if k = 2 then i2 else if k = 3 then i3 else if k = 4 then i4 else if k = 5 then i5 else if k = 6 then i6 else if k = 7 then i7 else if k = 8 then i8 else i9), fun c q hq => ?_⟩
  match c, hq with
  | 0, hq => cases hq; exact k0
  | 1, hq => cases hq; exact k1
  | 2, hq => cases hq; exact k2
  | 3, hq => cases hq; exact k3
  | 4, hq => cases hq; exact k4
  | 5, hq => cases hq; exact k5
  | 6, hq => cases hq; exact k6
  | 7, hq => cases hq; exact k7
  | 8, hq => cases hq; exact k8
  | 9, hq => cases hq; exact k9
  | c + 10, hq => simp [vwCl] at hq
/-- the arrays' classes -/
theorem ns_A (hts : ∀ w ∈ lw_tbl, w.before #[Value.ref b] s = true) : ∃ ar : Nat → ClassId, ∀ t, 0 < t → t < 8 → ArrOfT s (ar t) (zty t) ∧ va_RA s (ar t) (zty t) := by
  obtain ⟨c1, a1, b1⟩ := ns_ar (hts (.arrayClass .int) (List.mem_of_getElem? (i := 165) (by decide +kernel)))
  obtain ⟨c2, a2, b2⟩ := ns_ar (hts (.arrayClass .byte) (List.mem_of_getElem? (i := 128) (by decide +kernel)))
  obtain ⟨c6, a6, b6⟩ := ns_ao (hts (.arrayOver (.object "PathTrust$Reports")) (List.mem_of_getElem? (i := 189) (by decide +kernel)))
  obtain ⟨c7, a7, b7⟩ := ns_ao (hts (.arrayOver (.object "PathTrust$Desk")) (List.mem_of_getElem? (i := 296) (by decide +kernel)))
  refine ⟨fun t => if t = 2 then c2 else if t = 6 then c6 else if t = 7 then c7 else c1, fun t h0 h8 => ?_⟩
  have hc : t = 1 ∨ t = 2 ∨ t = 3 ∨ t = 4 ∨ t = 5 ∨ t = 6 ∨ t = 7 := by omega
  rcases hc with e | e | e | e | e | e | e <;> subst e
  · exact ⟨a1, b1⟩
  · exact ⟨a2, b2⟩
  · exact ⟨a1, b1⟩
  · exact ⟨a1, b1⟩
  · exact ⟨a1, b1⟩
  · exact ⟨a6, b6⟩
  · exact ⟨a7, b7⟩
theorem ns_u (v : Int32) : Int32.ofNat v.toBitVec.toNat = v := by
  refine Int32.toBitVec.inj (BitVec.eq_of_toNat_eq ?_)
  show (BitVec.ofNat 32 v.toBitVec.toNat).toNat = v.toBitVec.toNat
  rw [BitVec.toNat_ofNat]
  exact Nat.mod_eq_of_lt v.toBitVec.isLt
/-- a private method of the class above, chosen for the class below -/
theorem n_up {C : String} {z y : MethodName} {args : Array Value} (hy : y.cls ≠ "java/lang/invoke/MethodHandle" ∧ y.cls ≠ "java/lang/invoke/VarHandle") (hs : (Cond.selects C z z).before args s = true) (hz : z.cls = y.cls) (hp : (Cond.privateMethod y).before args s = true) (hi : (Cond.instanceMethod y).before args s = true) : (Cond.selects C y y).before args s = true := by
  obtain ⟨c, r, m, hc, -, hm, -, mk, hk, hni⟩ := Cond.selects_spec (args := args) (first := s) (o := none) (s := s) (idx := []) hs
  obtain ⟨mk2, methM, hnamed, hmethM, -, -⟩ := Cond.instanceMethod_spec hi
  have hfound : s.methodFound? y.cls y.name y.desc = some mk2 := State.methodFound?_of_named hnamed hy
  have hcls : mk2.cls = m.cls := by
    have h1 := findClass_of_methodNamed hnamed
    have h2 := findClass_of_methodNamed hm
    rw [hz] at h2
    exact Option.some.inj (h1.symm.trans h2)
  have hsel : selectMethod {} s.vm c mk2 = .method mk2 := selectMethod_private hmethM (Cond.privateMethod_at hp mk2 methM hnamed hmethM)
  simp only [Cond.before, Cond.holds, Cond.value, hc, hfound, hnamed, hsel, hcls, hk]
  simp
  exact hni
theorem ns_U (hts : ∀ w ∈ lw_tbl, w.before #[Value.ref b] s = true) : ∀ w ∈ lw_all, w.before #[Value.ref b] s = true := by
  intro w hw
  rcases List.mem_append.mp hw with h | h
  · exact hts w h
  · have hs : (Cond.selects "java/lang/StringBuilder" ⟨"java/lang/AbstractStringBuilder", "getValue", "()[B"⟩ ⟨"java/lang/AbstractStringBuilder", "getValue", "()[B"⟩).before #[Value.ref b] s = true := hts _ (List.mem_of_getElem? (i := 578) (by decide +kernel))
    unfold lw_up at h
    rcases List.mem_cons.mp h with h | h
    · rw [h]
      exact n_up (by decide +kernel) hs rfl (hts _ (List.mem_of_getElem? (i := 384) (by decide +kernel))) (hts _ (List.mem_of_getElem? (i := 385) (by decide +kernel)))
    rcases List.mem_cons.mp h with h | h
    · rw [h]
      exact n_up (by decide +kernel) hs rfl (hts _ (List.mem_of_getElem? (i := 388) (by decide +kernel))) (hts _ (List.mem_of_getElem? (i := 389) (by decide +kernel)))
    rcases List.mem_cons.mp h with h | h
    · rw [h]
      exact n_up (by decide +kernel) hs rfl (hts _ (List.mem_of_getElem? (i := 450) (by decide +kernel))) (hts _ (List.mem_of_getElem? (i := 451) (by decide +kernel)))
    rcases List.mem_cons.mp h with h | h
    · rw [h]
      exact n_up (by decide +kernel) hs rfl (hts _ (List.mem_of_getElem? (i := 454) (by decide +kernel))) (hts _ (List.mem_of_getElem? (i := 455) (by decide +kernel)))
    exact absurd h List.not_mem_nil
/-- all that is said of the start -/
theorem ns_Q {l : Launch} {L : Nat} {xs : Nat → Int32} (hg : ∀ w ∈ ns_F, w.before #[Value.ref b] s = true) (hts : ∀ w ∈ lw_tbl, w.before #[Value.ref b] s = true) (hX : va_X b L xs s s.heap) (hbl : b < s.heap.size) : ∃ g : zF, g.2.2.2.1 = l ∧ g.2.2.1 = s.heap.size ∧ zsl9 g = L ∧ g.2.2.2.2.2 200 = b ∧ zQ g s := by
  have hA : ∀ a : Nat, a < s.heap.size → ¬ (fun q : Nat => s.heap.size ≤ q) a := fun a h => Nat.not_le.mpr h
  have hta := ns_U hts
  obtain ⟨D, hD⟩ := ns_C hts hta
  obtain ⟨ar, har⟩ := ns_A hts
  obtain ⟨t0, z0, y0⟩ := ns_T hg hts hA (k := 0) (by decide)
  obtain ⟨t1, z1, y1⟩ := ns_T hg hts hA (k := 1) (by decide)
  obtain ⟨t2, z2, y2⟩ := ns_T hg hts hA (k := 2) (by decide)
  obtain ⟨t3, z3, y3⟩ := ns_D hg hts hA (k := 0) (by decide)
  obtain ⟨t4, z4, y4⟩ := ns_D hg hts hA (k := 1) (by decide)
  obtain ⟨adK, adV, hS, hE⟩ := ns_S hg hA
  obtain ⟨st, s0, s1, s2, s3, s4, s9, sj⟩ : ∃ st : Nat → Nat, st 0 = t0 ∧ st 1 = t1 ∧ st 2 = t2 ∧ st 3 = t3 ∧ st 4 = t4 ∧ st 999 = L ∧ ∀ j, st (1000 + j) = (xs j).toBitVec.toNat := by
    refine ⟨fun k => if k = 0 then t0 else if k = 1 then t1 else if k = 2 then t2 else if k = 3 then t3 else if k = 4 then t4 else if k = 999 then L else (xs (k - 1000)).toBitVec.toNat, rfl, rfl, rfl, rfl, rfl, rfl, fun j => ?_⟩
    dsimp only
    rw [if_neg (by omega), if_neg (by omega), if_neg (by omega), if_neg (by omega), if_neg (by omega), if_neg (by omega), show 1000 + j - 1000 = j by omega]
  obtain ⟨sa, a0, a1, a2⟩ : ∃ sa : Nat → Nat, (∀ i, i < 25 → sa i = adK i) ∧ (∀ i, i < 25 → sa (100 + i) = adV i) ∧ sa 200 = b := by
    refine ⟨fun k => if k < 25 then adK k else if k = 200 then b else adV (k - 100), fun i hi => if_pos hi, fun i hi => ?_, rfl⟩
    dsimp only
    rw [if_neg (by omega), if_neg (by omega), show 100 + i - 100 = i by omega]
  refine ⟨(D, ar, s.heap.size, l, st, sa), rfl, rfl, s9, a2, hD, har, fun w hw a => zok_keep hw.2 (State.WarmedH.refl s) (hta w hw.1) a, ?_⟩
  refine ⟨fun k hk => ?_, ⟨va_Zof (hts _ (List.mem_of_getElem? (i := 355) (by decide +kernel))) (hts _ (List.mem_of_getElem? (i := 90) (by decide +kernel))) (va_eqt (hg (Cond.eq (.static "java/lang/String" "COMPACT_STRINGS" "Z") (.int 1)) (by decide +kernel))) hA, va_Zqof (hts _ (List.mem_of_getElem? (i := 436) (by decide +kernel))) (hts _ (List.mem_of_getElem? (i := 95) (by decide +kernel))) (hg (Cond.isRef (.static "jdk/internal/util/Preconditions" "SIOOBE_FORMATTER" "Ljava/util/function/BiFunction;")) (by decide +kernel)) hA, ⟨⟨?_, ?_⟩, fun q hq => absurd hq List.not_mem_nil⟩, ?_⟩, fun q hq => ?_, ?_, fun q hq => ?_, vx_Zqof (hts _ (List.mem_of_getElem? (i := 668) (by decide +kernel))) (hts _ (List.mem_of_getElem? (i := 99) (by decide +kernel))) (hg (Cond.isRef (.static Bundle.tN "UNASSIGNED_STACK" Bundle.steD)) (by decide +kernel)) hA, vx_Zqof (hts _ (List.mem_of_getElem? (i := 670) (by decide +kernel))) (hts _ (List.mem_of_getElem? (i := 99) (by decide +kernel))) (hg (Cond.isRef (.static Bundle.tN "SUPPRESSED_SENTINEL" Bundle.listD)) (by decide +kernel)) hA⟩
  · have hc : k = 0 ∨ k = 1 ∨ k = 2 := by omega
    show va_Z "PathTrust" (zsn k) "[I" (.ref (st k)) _ s s.heap ∧ va_T .int (st k) 5 (fun j => .int (Int32.ofInt (zsv k j))) _ s s.heap
    rcases hc with e | e | e <;> subst e
    · rw [s0]; exact ⟨z0, y0⟩
    · rw [s1]; exact ⟨z1, y1⟩
    · rw [s2]; exact ⟨z2, y2⟩
  · show sa 200 < s.heap.size
    rw [a2]; exact hbl
  · show va_X (sa 200) (st 999) (fun j => Int32.ofInt (Int32.ofNat (st (1000 + j))).toInt) s s.heap
    rw [a2, s9]
    have e : (fun j => Int32.ofInt (Int32.ofNat (st (1000 + j))).toInt) = xs := by
      funext j
      rw [sj j, ns_u, Int32.ofInt_toInt]
    rw [e]
    exact hX
  · intro k hk3 hk5
    have hc : k = 3 ∨ k = 4 := by omega
    show va_Z "java/lang/Integer" (zsn k) "[B" (.ref (st k)) _ s s.heap ∧ va_T .byte (st k) 100 (fun j => .int (Int32.ofInt (zdg1 k j))) _ s s.heap
    rcases hc with e | e <;> subst e
    · rw [s3]; exact ⟨z3, y3⟩
    · rw [s4]; exact ⟨z4, y4⟩
  · obtain ⟨hi, hc⟩ := nr_11 q hq
    have h1 := hts _ (nr_10 q hq)
    show vk_R q.1 q.2.1 q.2.2.1 (sa q.2.2.2) s
    rw [a0 _ hi]
    refine vk_R.of h1 ?_
    rw [hc.1, hc.2]
    exact hE _ hi
  · refine ⟨fun i hi => ?_, fun i j hi hj e => ?_⟩
    · show va_O "java/lang/String" (sa i) _ s s.heap ∧ va_OF "java/lang/String" "coder" "B" (.int 0) (sa i) _ s s.heap ∧ va_OF "java/lang/String" "value" "[B" (.ref (sa (100 + i))) (sa i) _ s s.heap ∧ va_T .byte (sa (100 + i)) (ns_l.getD i 0) (fun j => .int ((ns_b.getD i []).getD j 0)) _ s s.heap
      rw [a0 i hi, a1 i hi]
      exact hS.1 i hi
    · have e : sa i = sa j := e
      rw [a0 i hi, a0 j hj] at e
      exact hS.2 i j hi hj e
  · obtain ⟨a, c, cA, kA, q1, -⟩ := Cond.exactly_spec (args := #[Value.ref b]) (first := s) (o := none) (s := s) (idx := []) (t := .string q.1 q.2.1) (cls := "java/lang/String") (hg _ (nr_7 q hq))
    exact ⟨a, vk_R.of (hts _ (nr_9 q hq)) q1⟩
end NS
theorem lw_forget {s t : State} {L : List Loc} {k n : Nat} (h : s.sameButNew t L k n) (hL : ∀ q ∈ L, s.heap.size ≤ q.base) : s.sameButNew t [] k n := by
  obtain ⟨h1, h2, h3, h4, h5, h6⟩ := h
  refine ⟨h1, h2, h3, h4, h5, fun a c hc => ?_⟩
  obtain ⟨c', g1, g2, g3, g4⟩ := h6 a c hc
  refine ⟨c', g1, g2, g3, fun i _ => g4 i (fun hm => ?_)⟩
  have h9 : a < s.heap.size := (Array.getElem?_eq_some_iff.mp hc).1
  exact absurd (hL _ hm) (Nat.not_le.mpr h9)
