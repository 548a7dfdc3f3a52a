/-! CORE: a world is (what stands at each address; references; the next address) and a memory of numbers; values are tagged integers -/
abbrev zK : Type := Nat × Int
abbrev zG : Type := (Int → Option zK) × (Int → Int → Int) × Int
abbrev zM : Type := Int → Int → Int
abbrev zS : Type := zG × zM
abbrev zV : Type := Nat × Int
abbrev zR : Type := Int ⊕ Nat
/-- what is fixed for the whole run: class numbers and slots, array classes by kind, the first address that may change, the launch, addresses of static arrays and of string constants -/
abbrev zF : Type := va_G × (Nat → ClassId) × Nat × Launch × (Nat → Nat) × (Nat → Nat)
def zI (z : Int) : Prop := -2147483648 ≤ z ∧ z < 2147483648
def zI64 (z : Int) : Prop := -9223372036854775808 ≤ z ∧ z < 9223372036854775808
/-- the value that a tagged integer stands for: 0 int, 1 long, 2 float, 3 double (their bits), 4 reference (negative: null), 5 static array, 6 string constant -/
def zv (g : zF) (v : zV) : Value := match v.1 with
  | 0 => .int (Int32.ofInt v.2)
  | 1 => .long (Int64.ofInt v.2)
  | 2 => .float (UInt32.ofNat v.2.toNat)
  | 3 => .double (UInt64.ofNat v.2.toNat)
  | 4 => if v.2 < 0 then .null else .ref v.2.toNat
  | 5 => .ref (g.2.2.2.2.1 v.2.toNat)
  | _ => .ref (g.2.2.2.2.2 v.2.toNat)
def zn (v : zV) : Prop := match v.1 with
  | 0 => zI v.2
  | 1 => zI64 v.2
  | _ => True
/-- the tags of a class's fields -/
def zft : Nat → List Nat := fun c => match c with
  | 0 => [4, 0]
  | 1 => [4, 4, 4, 4, 4, 4, 4, 4, 0]
  | 2 => [4, 0]
  | 3 => [4, 0]
  | 4 => [4, 4, 0, 0, 0, 0, 0, 0]
  | 5 => [4, 0]
  | 6 => [4, 4, 4, 4, 4, 4, 0, 0, 0]
  | 7 => [4, 4, 4, 4, 4, 4, 4, 4]
  | 8 => [4, 0, 0, 0]
  | _ => [4, 0, 0, 0]
def zfe (c k : Nat) : Nat := (zft c).getD k 0
/-- an array kind's elements: 1 int, 2 byte, 3 boolean, 4 long, 5 double, 6 Reports, 7 Desk -/
def zet : Nat → Nat := fun t => match t with
  | 6 => 4
  | 7 => 4
  | _ => 0
def zty : Nat → FieldType := fun t => match t with
  | 1 => .int
  | 2 => .byte
  | 3 => .int
  | 4 => .int
  | 5 => .int
  | 6 => .object "PathTrust$Reports"
  | _ => .object "PathTrust$Desk"
/-- the entry at (a, j), read with tag t -/
def ze (σ : zS) (a : Int) (t : Nat) (j : Int) : zV := (t, if t = 4 then σ.1.2.1 a j else σ.2 a j)
def zat (g : zF) (σ : zS) (a : Int) (k : zK) (H : Heap) : Prop := match k.1 with
  | 0 => ∃ r : vw_C, vwCl[k.2.toNat]? = some r ∧ t_OB a.toNat (g.1.1 k.2.toNat) r.2.2 (g.1.2 k.2.toNat) H (fun j => zv g (ze σ a (zfe k.2.toNat j) j))
  | t + 1 => t < 7 ∧ (0 ≤ k.2 ∧ k.2 < 2147483648) ∧ H[a.toNat]? = some (arrV (g.2.1 (t + 1)) k.2.toNat (fun j => zv g (ze σ a (zet (t + 1)) j)))
def zNM (σ : zS) : Prop := ∀ a i : Int, (∀ n : Int, σ.1.1 a ≠ some (5, n)) → zI (σ.2 a i)
def zW (g : zF) (σ : zS) (H : Heap) : Prop :=
  (∀ (a : Int) (k : zK), σ.1.1 a = some k → (g.2.2.1 : Int) ≤ a ∧ zat g σ a k H) ∧ zNM σ ∧ (H.size : Int) = σ.1.2.2 ∧ g.2.2.1 ≤ H.size
/-- the cells that may change: all that were made since the law began -/
def zA (g : zF) : Nat → Prop := fun q => g.2.2.1 ≤ q
/-- words that stay, whatever is resolved on the way -/
def zok (w : Cond) : Bool := goodWord w || match w with
  | .fieldLinkNest _ _ _ _ _ _ => true
  | .methodLinkNest _ _ _ _ => true
  | .arrayOver (.object _) => true
  | .declares _ => true
  | .castable _ _ => true
  | _ => false
def zL (w : Cond) : Prop := w ∈ lw_all ∧ zok w = true
theorem zok_keep {w : Cond} (hk : zok w = true) {s U : State} {args : Array Value} (hW : s.WarmedH U.vm) (h : w.before args s = true) (a : Array Value) : w.before a U = true := by
  unfold zok at hk
  by_cases hg : goodWord w = true
  · exact word_at hW (good_of_word hg) h
  · rw [Bool.eq_false_iff.mpr hg, Bool.false_or] at hk
    split at hk
    · exact va_Nw.use rfl (va_Nw.warmF hW (va_Nw.of rfl h))
    · exact va_Nw.use rfl (va_Nw.warmM hW (va_Nw.of rfl h))
    · exact va_AO.use (va_AO.moved hW.alike (va_AO.of h))
    · exact va_Nw.use rfl (va_Nw.warmD hW (va_Nw.of rfl h))
    · exact va_Nw.use rfl (va_Nw.warmC hW (va_Nw.of rfl h))
    · cases hk
/-- static arrays: 0 RULE_FROM, 1 RULE_TO, 2 RULE_AT_FIRST -/
def zsn : Nat → String := fun k => match k with
  | 0 => "RULE_FROM"
  | 1 => "RULE_TO"
  | 2 => "RULE_AT_FIRST"
  | 3 => "DigitOnes"
  | _ => "DigitTens"
def zsv : Nat → Int → Int := fun k j => match k with
  | 0 => if j < 3 then 0 else 1
  | 1 => if j = 0 then 20 else if j = 1 then 50 else if j = 2 then 10 else if j = 3 then 99 else 3
  | _ => if j = 0 then 1 else if j = 1 then 2 else if j = 2 then 3 else if j = 3 then 50 else 2
/-- the words of the language, as string constants: number, text -/
def zsw : List String := ["rules", "drift", "slack", "least", "age", "hops", "agent", "way", "link", "trust", "probe", "rules drift ", " slack ", " least ", " age ", " hops ", ";", "agent a", "way w", "link a", " a", " trust ", "probe a", " w", " "]
def zsb (i : Nat) : List Int32 := ((zsw.getD i "").toList.map fun c => Int32.ofNat c.toNat)
/-- where they are loaded: class, place in its pool, text, number -/
def zsr : List (String × Nat × String × Nat) := [("PathTrustLaw", 46, "rules drift ", 11), ("PathTrustLaw", 54, " slack ", 12), ("PathTrustLaw", 59, " least ", 13), ("PathTrustLaw", 61, " age ", 14), ("PathTrustLaw", 63, " hops ", 15), ("PathTrustLaw", 65, ";", 16), ("PathTrustLaw", 67, "agent a", 17), ("PathTrustLaw", 72, "way w", 18), ("PathTrustLaw", 74, "link a", 19), ("PathTrustLaw", 76, " a", 20), ("PathTrustLaw", 78, " trust ", 21), ("PathTrustLaw", 80, "probe a", 22), ("PathTrustLaw", 82, " w", 23), ("PathTrustLaw", 84, " ", 24), ("PathTrust$Parser", 77, "rules", 0), ("PathTrust$Parser", 82, "drift", 1), ("PathTrust$Parser", 88, "slack", 2), ("PathTrust$Parser", 90, "least", 3), ("PathTrust$Parser", 92, "age", 4), ("PathTrust$Parser", 94, "hops", 5), ("PathTrust$Parser", 44, "agent", 6), ("PathTrust$Parser", 58, "way", 7), ("PathTrust$Parser", 63, "link", 8), ("PathTrust$Parser", 148, "trust", 9), ("PathTrust$Parser", 68, "probe", 10)]
/-- the texts of exceptions -/
def zsm : List (String × Nat × String) := [("PathTrust", 64, "the input buffer is full"), ("PathTrust", 325, "a value is out of range"), ("PathTrust", 317, "no such agent"), ("PathTrust", 319, "no such way"), ("PathTrust", 256, "an agent has no link with itself"), ("PathTrust", 267, "no such rule or value"), ("PathTrust", 321, "no such report")]
/-- the classes of exceptions, by number -/
def zex : Nat → String := fun e => match e with
  | 0 => "java/lang/IllegalStateException"
  | 1 => "java/lang/IllegalArgumentException"
  | 2 => "java/lang/IndexOutOfBoundsException"
  | _ => "java/util/NoSuchElementException"
/-- the script: how many there are, and which -/
def zsl9 (g : zF) : Nat := g.2.2.2.2.1 999
def zscr (g : zF) (j : Nat) : Int := (Int32.ofNat (g.2.2.2.2.1 (1000 + j))).toInt
/-- pairs of exceptions, the first no case of the second -/
def znc : List (Nat × Nat) := []
/-- what else is said of the start -/
def zTs0 (g : zF) (U : State) : Prop := (g.2.2.2.2.2 200 < g.2.2.1 ∧ va_X (g.2.2.2.2.2 200) (zsl9 g) (fun j => Int32.ofInt (zscr g j)) U U.heap) ∧ ∀ q ∈ znc, va_Nc (zex q.1) (zex q.2) U
theorem zTs0.keep {g : zF} {s U : State} (h : zTs0 g s) (hv : s.vm.Alike U.vm) (hq : ∀ a : Nat, a < s.heap.size → ¬ zA g a → U.heap[a]? = s.heap[a]?)   : zTs0 g U := by
  obtain ⟨⟨h1, h2⟩, h3⟩ := h
  refine ⟨⟨h1, (va_X.moved hv h2).kept ?_⟩, fun q hq' => va_Nc.moved hv (h3 q hq')⟩
  obtain ⟨scr, e1, -⟩ := h2
  exact hq _ (Array.getElem?_eq_some_iff.mp e1).1 (by show ¬ g.2.2.1 ≤ _; omega)
/-- the digits of a number below 100 -/
def zdg1 (k : Nat) (j : Int) : Int := if k = 3 then 48 + j % 10 else 48 + j / 10
def zTd (g : zF) (U : State) : Prop := ∀ k, 3 ≤ k → k < 5 → va_Z "java/lang/Integer" (zsn k) "[B" (.ref (g.2.2.2.2.1 k)) (zA g) U U.heap ∧ va_T .byte (g.2.2.2.2.1 k) 100 (fun j => .int (Int32.ofInt (zdg1 k j))) (zA g) U U.heap
theorem zTd.keep {g : zF} {s U : State} (h : zTd g s) (hv : s.vm.Alike U.vm) (hq : ∀ a : Nat, a < s.heap.size → ¬ zA g a → U.heap[a]? = s.heap[a]?) : zTd g U := fun k h1 h2 => ⟨((h k h1 h2).1.moved hv).kept hq, ((h k h1 h2).2.moved hv).kept hq⟩
def zTs (g : zF) (U : State) : Prop := zTs0 g U ∧ zTd g U
theorem zTs.keep {g : zF} {s U : State} (h : zTs g s) (hv : s.vm.Alike U.vm) (hq : ∀ a : Nat, a < s.heap.size → ¬ zA g a → U.heap[a]? = s.heap[a]?) : zTs g U := ⟨zTs0.keep h.1 hv hq, zTd.keep h.2 hv hq⟩
def zT (g : zF) (U : State) : Prop :=
  (∀ k, k < 3 → va_Z "PathTrust" (zsn k) "[I" (.ref (g.2.2.2.2.1 k)) (zA g) U U.heap ∧ va_T .int (g.2.2.2.2.1 k) 5 (fun j => .int (Int32.ofInt (zsv k j))) (zA g) U U.heap) ∧
  (va_Z "java/lang/String" "COMPACT_STRINGS" "Z" (.int 1) (zA g) U U.heap ∧ va_Zq "jdk/internal/util/Preconditions" "SIOOBE_FORMATTER" "Ljava/util/function/BiFunction;" (zA g) U U.heap ∧ zTs g U) ∧
  (∀ q ∈ zsr, vk_R q.1 q.2.1 q.2.2.1 (g.2.2.2.2.2 q.2.2.2) U) ∧
  vk_S 25 ((List.range 25).map fun i => (zsb i).length) ((List.range 25).map zsb) g.2.2.2.2.2 (fun i => g.2.2.2.2.2 (100 + i)) (zA g) U U.heap ∧
  (∀ q ∈ zsm, ∃ a : Nat, vk_R q.1 q.2.1 q.2.2 a U) ∧
  vx_Zq Bundle.tN "UNASSIGNED_STACK" Bundle.steD (zA g) U U.heap ∧ vx_Zq Bundle.tN "SUPPRESSED_SENTINEL" Bundle.listD (zA g) U U.heap
/-- what is said of the machine's tables and of what nobody changes -/
def zQ (g : zF) (U : State) : Prop :=
  (∀ (c : Nat) (q : vw_C), vwCl[c]? = some q → u_Kn U q.1 q.2.1 q.2.2 (g.1.1 c) (g.1.2 c)) ∧ (∀ t, 0 < t → t < 8 → ArrOfT U (g.2.1 t) (zty t) ∧ va_RA U (g.2.1 t) (zty t)) ∧ (∀ w, zL w → ∀ a : Array Value, w.before a U = true) ∧ zT g U
theorem zT.keep {g : zF} {s U : State} (h : zT g s) (hW : s.WarmedH U.vm) (hq : ∀ a : Nat, a < s.heap.size → ¬ zA g a → U.heap[a]? = s.heap[a]?) : zT g U := by
  obtain ⟨h1, ⟨h2, h8, h9⟩, h3, h4, h5, h6, h7⟩ := h
  have hv := hW.alike
  refine ⟨fun k hk => ⟨((h1 k hk).1.moved hv).kept hq, ((h1 k hk).2.moved hv).kept hq⟩, ⟨(h2.moved hv).kept hq, (h8.moved hv).kept hq, h9.keep hv hq⟩, fun q hq' => (h3 q hq').warm hW, (h4.moved hv).kept hq, fun q hq' => ?_, (h6.moved hv).kept hq, (h7.moved hv).kept hq⟩
  obtain ⟨a, ha⟩ := h5 q hq'
  exact ⟨a, ha.warm hW⟩
theorem zQ.keep {g : zF} {s U : State} (h : zQ g s) (hW : s.WarmedH U.vm) (hq : ∀ a : Nat, a < s.heap.size → ¬ zA g a → U.heap[a]? = s.heap[a]?) : zQ g U := by
  obtain ⟨h1, h2, h3, h4⟩ := h
  have hv := hW.alike
  exact ⟨fun c q hc => u_Kn_moved hv (h1 c q hc), fun t h0 h8 => ⟨arrOfT_moved hv (h2 t h0 h8).1, (h2 t h0 h8).2.moved hv⟩, fun w hw a => zok_keep hw.2 hW (h3 w hw #[]) a, h4.keep hW hq⟩
/-- a method, as it is told apart: name, code, locals, answer -/
abbrev zY : Type := MethodName × ByteArray × Nat × Option FieldType × List (Nat × Nat × Nat × Nat)
/-- where a method's walk stands: what is known of machine and method -/
def zC (g : zF) (K : zY) (p : Program) (s : State) (m : MethodId) (meth : Method) (c : Code) : Prop :=
  p.tables.exec = Jvm.exec ∧ c.code = K.2.1 ∧ c.maxLocals = K.2.2.1 ∧ meth.sig.returnType = K.2.2.2.1 ∧ meth.locks = false ∧ s.vm.findClass K.1.cls = some m.cls ∧ zQ g s ∧ meth.name = K.1.name ∧ c.exceptionTable.toList = tableOf K.2.2.2.2
def zrt : Option FieldType → Option Nat := fun t => match t with
  | none => none
  | some (.object _) => some 4
  | some (.array _) => some 4
  | some .float => some 2
  | some .double => some 3
  | some .long => some 1
  | some _ => some 0
def zrv (g : zF) (t : Option FieldType) (v : Int) : Option Value := (zrt t).map fun k => zv g (k, v)
def zrn (t : Option FieldType) (v : Int) : Prop := ∀ k, zrt t = some k → zn (k, v)
def zQc (g : zF) (K : zY) (Q : zR × zS → Prop) : Array Value → State → Outcome → State → Prop := fun _ st o t =>
  ∃ (v : Int) (σ : zS), Q (.inl v, σ) ∧ o = .returned (zrv g K.2.2.2.1 v) ∧ zrn K.2.2.2.1 v ∧ zW g σ t.heap ∧ va_F (zA g) st t
def zXc (g : zF) (Q : zR × zS → Prop) : String → State → State → Prop := fun E st t =>
  ∃ (e : Nat) (σ : zS) (n : Int), Q (.inr e, σ) ∧ E = zex e ∧ σ.1.2.2 ≤ n ∧ zW g ((σ.1.1, σ.1.2.1, n), σ.2) t.heap ∧ va_F (zA g) st t
/-- the judgement: from here the method comes to an end with Q -/
def zw (g : zF) (K : zY) (R : Room) (pc : Nat) (L : List (Nat × zV)) (S : List zV) (σ : zS) (C D : Nat) (Q : zR × zS → Prop) : Prop :=
  ∀ (p : Program) (e : Env) (s : State) (m : MethodId) (args : Array Value) (below : List Frame) (meth : Method) (c : Code) (H : Heap) (locs : List Loc) (cells slots : Nat) (ls : Array Slot),
    zC g K p s m meth c → lv_has ls K.2.2.1 (L.map fun q => (q.1, zv g q.2)) → (∀ q ∈ L, zn q.2) → (∀ v ∈ S, zn v) → zW g σ H → va_S (zA g) s.heap H locs → cells + C ≤ R.cells → slots + D ≤ R.slots →
    W p g.2.2.2.1 e R s m args below meth c H locs cells slots (vx_MQ below (zQc g K Q) (zXc g Q) args s R.cells R.slots (zA g)) (F0 m pc ls (S.map (zv g)))
/-- a function's result is there, and has Q -/
def zo (F : Option (zR × zS)) (Q : zR × zS → Prop) : Prop := ∃ r, F = some r ∧ Q r
def zcw (K : zY) : Cond := match K.2.2.2.2 with
  | [] => .code K.1 K.2.1 K.2.2.1 K.2.2.2.1
  | h => .codeWith K.1 K.2.1 K.2.2.1 K.2.2.2.1 h
/-- a method's contract -/
def zm (g : zF) (K : zY) (R : Room) (as : List zV) (σ : zS) (Q : zR × zS → Prop) : Prop :=
  (∀ v ∈ as, zn v) → vx_Met g.2.2.2.1 K.1 [zcw K] R (va_Pc (as.map (zv g)) (fun U => zW g σ U.heap ∧ zQ g U)) (zQc g K Q) (zXc g Q) R.cells R.slots (zA g)
