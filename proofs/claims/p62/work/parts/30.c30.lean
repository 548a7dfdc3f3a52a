/-! C 30: working out the functions over a known shape -/
theorem w32_e {z : Int} (h : -2147483648 ≤ z ∧ z < 2147483648) : w32 z = z := w32_id h
section C30
variable {S : zG} {μ : zM} {a i v : Int} {ci k : Nat} {F : Int → zFn} {G : zS → zFn}
theorem e_gf (j : Int) (h : S.1 a = some (0, (ci : Int))) (hj : (k : Int) = j) : zgf ci k a (S, μ) F = F (μ a j) := by rw [← hj]; exact if_pos h
theorem e_gr {r : Int} (h : S.1 a = some (0, (ci : Int))) (hr : S.2.1 a (k : Int) = r) : zgr ci k a (S, μ) F = F r := by rw [← hr]; exact if_pos h
theorem e_pf (h : S.1 a = some (0, (ci : Int))) : zpf ci k a v (S, μ) G = G (S, zup μ a (k : Int) v) := if_pos h
theorem e_ob {A : zFn} (h : S.1 a = some (0, (ci : Int))) : zob ci a (S, μ) A = A := if_pos h
theorem e_in {t : Nat} {n : Int} (h : S.1 a = some (t, n)) (hi : 0 ≤ i ∧ i < n) : zin (S, μ) t a i := by
  unfold zin
  show match S.1 a with | some k => k.1 = t ∧ 0 ≤ i ∧ i < k.2 | none => False
  rw [h]
  exact ⟨rfl, hi⟩
theorem e_ld {t : Nat} {n : Int} (h : S.1 a = some (t, n)) (hi : 0 ≤ i ∧ i < n) : zld t a i (S, μ) F = F (μ a i) := if_pos (e_in h hi)
theorem e_lr {t : Nat} {n : Int} (h : S.1 a = some (t, n)) (hi : 0 ≤ i ∧ i < n) : zlr t a i (S, μ) F = F (S.2.1 a i) := if_pos (e_in h hi)
theorem e_si {t : Nat} {n : Int} (h : S.1 a = some (t, n)) (hi : 0 ≤ i ∧ i < n) : zsi t a i v (S, μ) G = G (S, zup μ a i v) := if_pos (e_in h hi)
theorem e_al {t : Nat} {n : Int} (h : S.1 a = some (t + 1, n)) : zal a (S, μ) F = F n := by
  unfold zal
  show (match S.1 a with | some k => if k.1 = 0 then none else F k.2 | none => none) = _
  rw [h]
  rfl
theorem zcp_b {a0 sp dp m b j : Int} (h : b ≠ a) : zcp μ a0 sp a dp m b j = μ b j := if_neg (fun q => h q.1)
theorem zcp_j {a0 sp dp m b j : Int} (h : ¬ (dp ≤ j ∧ j < dp + m)) : zcp μ a0 sp a dp m b j = μ b j := if_neg (fun q => h q.2)
theorem zcp_in {a0 sp dp m j : Int} (h : dp ≤ j ∧ j < dp + m) : zcp μ a0 sp a dp m a j = μ a0 (sp + (j - dp)) := if_pos ⟨rfl, h⟩
theorem e_ac {a0 sp dp m n0 n1 : Int} (h0 : S.1 a0 = some (1, n0)) (h1 : S.1 a = some (1, n1)) (h : 0 ≤ sp ∧ 0 ≤ dp ∧ 0 ≤ m ∧ sp + m ≤ n0 ∧ dp + m ≤ n1) : zac a0 sp a dp m (S, μ) G = G (S, zcp μ a0 sp a dp m) := by
  refine if_pos ?_
  unfold zak
  show match S.1 a0, S.1 a with | some k0, some k1 => k0.1 = 1 ∧ k1.1 = 1 ∧ 0 ≤ sp ∧ 0 ≤ dp ∧ 0 ≤ m ∧ sp + m ≤ k0.2 ∧ dp + m ≤ k1.2 | _, _ => False
  rw [h0, h1]
  exact ⟨rfl, rfl, h⟩
theorem e_bn {v : Int} {τ : zS} {H : Int → zS → zFn} : zbn (some (.inl v, τ)) H = H v τ := rfl
theorem zup_at : zup μ a i v a i = v := if_pos ⟨rfl, rfl⟩
theorem zup_b {b j : Int} (h : b ≠ a) : zup μ a i v b j = μ b j := if_neg (fun q => h q.1)
theorem zup_j {b j : Int} (h : j ≠ i) : zup μ a i v b j = μ b j := if_neg (fun q => h q.2)
end C30
def RSh (S : zG) (a n : Int) : Prop := (S.1 a = some (0, 5)) ∧ (S.2.1 a 0 = a + 1) ∧ (S.1 (a + 1) = some (1, n))
theorem RSh.mk {S : zG} {a n : Int} (h : (S.1 a = some (0, 5)) ∧ (S.2.1 a 0 = a + 1) ∧ (S.1 (a + 1) = some (1, n))) : RSh S a n := h
theorem RSh.o {S : zG} {a n : Int} (h : RSh S a n) : S.1 a = some (0, 5) := h.1
theorem RSh.r {S : zG} {a n : Int} (h : RSh S a n) : S.2.1 a 0 = a + 1 := h.2.1
theorem RSh.c {S : zG} {a n : Int} (h : RSh S a n) : S.1 (a + 1) = some (1, n) := h.2.2
def NSh (S : zG) (a : Int) : Prop := (S.1 a = some (0, 3)) ∧ (S.2.1 a 0 = a + 1) ∧ (S.1 (a + 1) = some (1, 6))
theorem NSh.mk {S : zG} {a : Int} (h : (S.1 a = some (0, 3)) ∧ (S.2.1 a 0 = a + 1) ∧ (S.1 (a + 1) = some (1, 6))) : NSh S a := h
theorem NSh.o {S : zG} {a : Int} (h : NSh S a) : S.1 a = some (0, 3) := h.1
theorem NSh.r {S : zG} {a : Int} (h : NSh S a) : S.2.1 a 0 = a + 1 := h.2.1
theorem NSh.c {S : zG} {a : Int} (h : NSh S a) : S.1 (a + 1) = some (1, 6) := h.2.2
def DSh (S : zG) (d : Int) : Prop := (S.1 d = some (0, 1)) ∧ (S.2.1 d 0 = d + 1) ∧ (S.2.1 d 1 = d + 2) ∧ (S.2.1 d 2 = d + 4) ∧ (S.2.1 d 3 = d + 6) ∧ (S.2.1 d 4 = d + 7) ∧ (S.2.1 d 5 = d + 8) ∧ (S.2.1 d 6 = d + 10) ∧ (S.2.1 d 7 = d + 12) ∧ (S.1 (d + 1) = some (1, 5)) ∧ (NSh S (d + 2)) ∧ (NSh S (d + 4)) ∧ (S.1 (d + 6) = some (1, 36)) ∧ (S.1 (d + 7) = some (6, 6)) ∧ (∀ i : Int, 0 ≤ i → i < 6 → S.2.1 (d + 7) i = d + 13 + 2 * i) ∧ (RSh S (d + 8) 0) ∧ (RSh S (d + 10) 800) ∧ (S.1 (d + 12) = some (1, 30)) ∧ (∀ i : Int, 0 ≤ i → i < 6 → RSh S (d + 13 + 2 * i) 288)
theorem DSh.mk {S : zG} {d : Int} (h : (S.1 d = some (0, 1)) ∧ (S.2.1 d 0 = d + 1) ∧ (S.2.1 d 1 = d + 2) ∧ (S.2.1 d 2 = d + 4) ∧ (S.2.1 d 3 = d + 6) ∧ (S.2.1 d 4 = d + 7) ∧ (S.2.1 d 5 = d + 8) ∧ (S.2.1 d 6 = d + 10) ∧ (S.2.1 d 7 = d + 12) ∧ (S.1 (d + 1) = some (1, 5)) ∧ (NSh S (d + 2)) ∧ (NSh S (d + 4)) ∧ (S.1 (d + 6) = some (1, 36)) ∧ (S.1 (d + 7) = some (6, 6)) ∧ (∀ i : Int, 0 ≤ i → i < 6 → S.2.1 (d + 7) i = d + 13 + 2 * i) ∧ (RSh S (d + 8) 0) ∧ (RSh S (d + 10) 800) ∧ (S.1 (d + 12) = some (1, 30)) ∧ (∀ i : Int, 0 ≤ i → i < 6 → RSh S (d + 13 + 2 * i) 288)) : DSh S d := h
theorem DSh.o {S : zG} {d : Int} (h : DSh S d) : S.1 d = some (0, 1) := h.1
theorem DSh.r0 {S : zG} {d : Int} (h : DSh S d) : S.2.1 d 0 = d + 1 := h.2.1
theorem DSh.r1 {S : zG} {d : Int} (h : DSh S d) : S.2.1 d 1 = d + 2 := h.2.2.1
theorem DSh.r2 {S : zG} {d : Int} (h : DSh S d) : S.2.1 d 2 = d + 4 := h.2.2.2.1
theorem DSh.r3 {S : zG} {d : Int} (h : DSh S d) : S.2.1 d 3 = d + 6 := h.2.2.2.2.1
theorem DSh.r4 {S : zG} {d : Int} (h : DSh S d) : S.2.1 d 4 = d + 7 := h.2.2.2.2.2.1
theorem DSh.r5 {S : zG} {d : Int} (h : DSh S d) : S.2.1 d 5 = d + 8 := h.2.2.2.2.2.2.1
theorem DSh.r6 {S : zG} {d : Int} (h : DSh S d) : S.2.1 d 6 = d + 10 := h.2.2.2.2.2.2.2.1
theorem DSh.r7 {S : zG} {d : Int} (h : DSh S d) : S.2.1 d 7 = d + 12 := h.2.2.2.2.2.2.2.2.1
theorem DSh.ru {S : zG} {d : Int} (h : DSh S d) : S.1 (d + 1) = some (1, 5) := h.2.2.2.2.2.2.2.2.2.1
theorem DSh.ag {S : zG} {d : Int} (h : DSh S d) : NSh S (d + 2) := h.2.2.2.2.2.2.2.2.2.2.1
theorem DSh.wa {S : zG} {d : Int} (h : DSh S d) : NSh S (d + 4) := h.2.2.2.2.2.2.2.2.2.2.2.1
theorem DSh.tr {S : zG} {d : Int} (h : DSh S d) : S.1 (d + 6) = some (1, 36) := h.2.2.2.2.2.2.2.2.2.2.2.2.1
theorem DSh.li {S : zG} {d : Int} (h : DSh S d) : S.1 (d + 7) = some (6, 6) := h.2.2.2.2.2.2.2.2.2.2.2.2.2.1
theorem DSh.lr {S : zG} {d : Int} (h : DSh S d) : ∀ i : Int, 0 ≤ i → i < 6 → S.2.1 (d + 7) i = d + 13 + 2 * i := h.2.2.2.2.2.2.2.2.2.2.2.2.2.2.1
theorem DSh.em {S : zG} {d : Int} (h : DSh S d) : RSh S (d + 8) 0 := h.2.2.2.2.2.2.2.2.2.2.2.2.2.2.2.1
theorem DSh.qu {S : zG} {d : Int} (h : DSh S d) : RSh S (d + 10) 800 := h.2.2.2.2.2.2.2.2.2.2.2.2.2.2.2.2.1
theorem DSh.ac {S : zG} {d : Int} (h : DSh S d) : S.1 (d + 12) = some (1, 30) := h.2.2.2.2.2.2.2.2.2.2.2.2.2.2.2.2.2.1
theorem DSh.ls {S : zG} {d : Int} (h : DSh S d) : ∀ i : Int, 0 ≤ i → i < 6 → RSh S (d + 13 + 2 * i) 288 := h.2.2.2.2.2.2.2.2.2.2.2.2.2.2.2.2.2.2
section C30b
variable {S : zG} {μ : zM} {a d n : Int}
theorem c_X5_get {k c : Int} (A : RSh S a n) (hk : 0 ≤ k ∧ k < μ a 1) (hc : 0 ≤ c ∧ c < 8) (hn : 8 * μ a 1 ≤ n) (hn2 : n ≤ 800) : f_X5_get a k c (S, μ) = some (.inl (μ (a + 1) (8 * k + c)), (S, μ)) := by
  unfold f_X5_get
  have e1 : w32 (k * 8) = 8 * k := by rw [w32_e (by omega)]; omega
  rw [e1, w32_e (by omega), if_neg (by omega), e_gf 1 A.o rfl, if_pos hk.2, if_neg (by omega), if_pos hc.2, if_neg (by omega), e_gr A.o A.r, e_al A.c, if_pos (by omega), e_gr A.o A.r, e_ld A.c (by omega)]
theorem c_X1_trustIn {i j : Int} (D : DSh S d) (hi : 0 ≤ i ∧ i < 6) (hj : 0 ≤ j ∧ j < 6) : f_X1_trustIn d i j (S, μ) = some (.inl (μ (d + 6) (6 * i + j)), (S, μ)) := by
  unfold f_X1_trustIn
  have e1 : w32 (i * 6) = 6 * i := by rw [w32_e (by omega)]; omega
  rw [e1, w32_e (by omega), if_neg (by omega), if_pos hi.2, if_neg (by omega), if_pos hj.2, e_gr D.o D.r3, e_al D.tr, if_pos (by omega), e_gr D.o D.r3, e_ld D.tr (by omega)]
theorem c_X1_listOf {i : Int} (D : DSh S d) (hi : 0 ≤ i ∧ i < 6) (hd : 0 ≤ d) : f_X1_listOf d i (S, μ) = some (.inl (d + 13 + 2 * i), (S, μ)) := by
  unfold f_X1_listOf
  rw [if_neg (by omega), e_gr D.o D.r4, e_al D.li, if_pos hi.2, e_gr D.o D.r4, e_lr D.li hi, D.lr i hi.1 hi.2]
  unfold f_X1_listOf_23
  rw [if_neg (by omega)]
theorem c_X5_put {k c v : Int} (A : RSh S a n) (hk : 0 ≤ k ∧ k < μ a 1) (hc : 0 ≤ c ∧ c < 8) (hn : 8 * μ a 1 ≤ n) (hn2 : n ≤ 800) : f_X5_put a k c v (S, μ) = some (.inl 0, (S, zup μ (a + 1) (8 * k + c) v)) := by
  unfold f_X5_put
  have e1 : w32 (k * 8) = 8 * k := by rw [w32_e (by omega)]; omega
  rw [e1, w32_e (by omega), if_neg (by omega), e_gf 1 A.o rfl, if_pos hk.2, if_neg (by omega), if_pos hc.2, if_neg (by omega), e_gr A.o A.r, e_al A.c, if_pos (by omega), e_gr A.o A.r, e_si A.c (by omega)]
theorem c_X1_putTrust {i j v : Int} (D : DSh S d) (hi : 0 ≤ i ∧ i < 6) (hj : 0 ≤ j ∧ j < 6) : f_X1_putTrust d i j v (S, μ) = some (.inl 0, (S, zup μ (d + 6) (6 * i + j) v)) := by
  unfold f_X1_putTrust
  have e1 : w32 (i * 6) = 6 * i := by rw [w32_e (by omega)]; omega
  rw [e1, w32_e (by omega), if_neg (by omega), if_pos hi.2, if_neg (by omega), if_pos hj.2, e_gr D.o D.r3, e_al D.tr, if_pos (by omega), e_gr D.o D.r3, e_si D.tr (by omega)]
theorem c_X1_rule {i : Int} (D : DSh S d) (hi : 0 ≤ i ∧ i < 5) : f_X1_rule d i (S, μ) = some (.inl (μ (d + 1) i), (S, μ)) := by
  unfold f_X1_rule
  rw [if_neg (by omega), e_gr D.o D.r0, e_al D.ru, if_pos hi.2, e_gr D.o D.r0, e_ld D.ru hi]
theorem c_X1_putRule {i v : Int} (D : DSh S d) (hi : 0 ≤ i ∧ i < 5) : f_X1_putRule d i v (S, μ) = some (.inl 0, (S, zup μ (d + 1) i v)) := by
  unfold f_X1_putRule
  rw [if_neg (by omega), e_gr D.o D.r0, e_al D.ru, if_pos hi.2, e_gr D.o D.r0, e_si D.ru hi]
theorem c_X1_isLinked {i j : Int} (D : DSh S d) (hi : 0 ≤ i ∧ i < 6) (hj : 0 ≤ j ∧ j < 6) : f_X1_isLinked d i j (S, μ) = some (.inl (if μ (d + 6) (6 * i + j) = -1 then 0 else 1), (S, μ)) := by
  unfold f_X1_isLinked
  rw [e_ob D.o, c_X1_trustIn D hi hj, e_bn]
  split <;> rfl
theorem c_X1_accountPlace {i j : Int} {σ : zS} (hi : 0 ≤ i ∧ i < 6) (hj : 0 ≤ j ∧ j < 5) : f_X1_accountPlace i j σ = some (.inl (5 * i + j), σ) := by
  unfold f_X1_accountPlace
  have e1 : w32 (i * 5) = 5 * i := by rw [w32_e (by omega)]; omega
  rw [if_neg (by omega), if_pos hi.2, if_neg (by omega), if_pos hj.2]
  unfold f_X1_accountPlace_24
  rw [if_neg (by decide), e1, w32_e (by omega)]
theorem c_X1_tally {i j : Int} (D : DSh S d) (hi : 0 ≤ i ∧ i < 6) (hj : 0 ≤ j ∧ j < 5) : f_X1_tally d i j (S, μ) = some (.inl 0, (S, zup μ (d + 12) (5 * i + j) (w32 (μ (d + 12) (5 * i + j) + 1)))) := by
  unfold f_X1_tally
  rw [c_X1_accountPlace hi hj, e_bn, if_neg (by omega), e_gr D.o D.r7, e_al D.ac, if_pos (by omega), e_gr D.o D.r7, e_ld D.ac (by omega), e_si D.ac (by omega)]
end C30b
abbrev zP : Type := Nat → Int
def LRp (w : Nat) (μ : zM) (a : Int) (l : List zP) : Prop := μ a 1 = (l.length : Int) ∧ ∀ (k : Nat) (p : zP), l[k]? = some p → ∀ c : Nat, c < w → μ (a + 1) (8 * (k : Int) + (c : Int)) = p c
def zfi (q : zP → Prop) (hq : ∀ p, Decidable (q p)) : List zP → Int → Int
  | [], _ => -1
  | p :: r, k => @ite _ (q p) (hq p) k (zfi q hq r (k + 1))
def zq (o w : Int) : zP → Prop := fun p => p 0 = o ∧ p 3 = w
def zqD (o w : Int) : ∀ p, Decidable (zq o w p) := fun p => by unfold zq; infer_instance
section C30c
variable {S : zG} {μ : zM} {a d n : Int} {w : Nat} {l : List zP}
theorem c_get {k c : Nat} {p : zP} (A : RSh S a n) (h : LRp w μ a l) (hn : 8 * (l.length : Int) ≤ n) (hn2 : n ≤ 800) (hw : w ≤ 8) (hk : l[k]? = some p) (hc : c < w) : f_X5_get a (k : Int) (c : Int) (S, μ) = some (.inl (p c), (S, μ)) := by
  have hl : k < l.length := (List.getElem?_eq_some_iff.mp hk).1
  rw [c_X5_get A (by rw [h.1]; omega) (by omega) (by rw [h.1]; exact hn) hn2, h.2 k p hk c hc]
theorem c_get0 {k : Nat} {p : zP} (A : RSh S a n) (h : LRp w μ a l) (hn : 8 * (l.length : Int) ≤ n) (hn2 : n ≤ 800) (hw : w ≤ 8) (hk : l[k]? = some p) (hc : 0 < w) : f_X5_get a (k : Int) 0 (S, μ) = some (.inl (p 0), (S, μ)) := c_get (c := 0) A h hn hn2 hw hk hc
theorem c_get1 {k : Nat} {p : zP} (A : RSh S a n) (h : LRp w μ a l) (hn : 8 * (l.length : Int) ≤ n) (hn2 : n ≤ 800) (hw : w ≤ 8) (hk : l[k]? = some p) (hc : 1 < w) : f_X5_get a (k : Int) 1 (S, μ) = some (.inl (p 1), (S, μ)) := c_get (c := 1) A h hn hn2 hw hk hc
theorem c_get2 {k : Nat} {p : zP} (A : RSh S a n) (h : LRp w μ a l) (hn : 8 * (l.length : Int) ≤ n) (hn2 : n ≤ 800) (hw : w ≤ 8) (hk : l[k]? = some p) (hc : 2 < w) : f_X5_get a (k : Int) 2 (S, μ) = some (.inl (p 2), (S, μ)) := c_get (c := 2) A h hn hn2 hw hk hc
theorem c_get3 {k : Nat} {p : zP} (A : RSh S a n) (h : LRp w μ a l) (hn : 8 * (l.length : Int) ≤ n) (hn2 : n ≤ 800) (hw : w ≤ 8) (hk : l[k]? = some p) (hc : 3 < w) : f_X5_get a (k : Int) 3 (S, μ) = some (.inl (p 3), (S, μ)) := c_get (c := 3) A h hn hn2 hw hk hc
theorem c_get4 {k : Nat} {p : zP} (A : RSh S a n) (h : LRp w μ a l) (hn : 8 * (l.length : Int) ≤ n) (hn2 : n ≤ 800) (hw : w ≤ 8) (hk : l[k]? = some p) (hc : 4 < w) : f_X5_get a (k : Int) 4 (S, μ) = some (.inl (p 4), (S, μ)) := c_get (c := 4) A h hn hn2 hw hk hc
theorem c_get5 {k : Nat} {p : zP} (A : RSh S a n) (h : LRp w μ a l) (hn : 8 * (l.length : Int) ≤ n) (hn2 : n ≤ 800) (hw : w ≤ 8) (hk : l[k]? = some p) (hc : 5 < w) : f_X5_get a (k : Int) 5 (S, μ) = some (.inl (p 5), (S, μ)) := c_get (c := 5) A h hn hn2 hw hk hc
theorem c_get6 {k : Nat} {p : zP} (A : RSh S a n) (h : LRp w μ a l) (hn : 8 * (l.length : Int) ≤ n) (hn2 : n ≤ 800) (hw : w ≤ 8) (hk : l[k]? = some p) (hc : 6 < w) : f_X5_get a (k : Int) 6 (S, μ) = some (.inl (p 6), (S, μ)) := c_get (c := 6) A h hn hn2 hw hk hc
theorem c_get7 {k : Nat} {p : zP} (A : RSh S a n) (h : LRp w μ a l) (hn : 8 * (l.length : Int) ≤ n) (hn2 : n ≤ 800) (hw : w ≤ 8) (hk : l[k]? = some p) (hc : 7 < w) : f_X5_get a (k : Int) 7 (S, μ) = some (.inl (p 7), (S, μ)) := c_get (c := 7) A h hn hn2 hw hk hc
theorem c_find_go {o w9 : Int} (A : RSh S a n) (hn : 8 * (l.length : Int) ≤ n) (hn2 : n ≤ 800) (h : LRp 7 μ a l) : ∀ (suf pre : List zP) (m : Nat), l = pre ++ suf → suf.length < m → f_X5_rowOf_2 m a o w9 (pre.length : Int) (S, μ) = some (.inl (zfi (zq o w9) (zqD o w9) suf (pre.length : Int)), (S, μ)) := by
  intro suf
  induction suf with
  | nil =>
    intro pre m e hm
    cases m with
    | zero => exact absurd hm (by omega)
    | succ m =>
      have hl : (l.length : Int) = pre.length := by rw [e, List.append_nil]
      unfold f_X5_rowOf_2
      rw [e_gf 1 A.o rfl]
      show (if (pre.length : Int) < μ a 1 then _ else _) = _
      rw [h.1, if_neg (by omega)]
      rfl
  | cons p r ih =>
    intro pre m e hm
    cases m with
    | zero => exact absurd hm (by omega)
    | succ m =>
      have hl : (l.length : Int) = pre.length + (r.length + 1) := by rw [e, List.length_append, List.length_cons]; push_cast; rfl
      have hk : l[pre.length]? = some p := by rw [e, List.getElem?_append_right (Nat.le_refl _), Nat.sub_self]; rfl
      have e2 : w32 ((pre.length : Int) + 1) = (((pre ++ [p]).length : Nat) : Int) := by rw [w32_e (by omega), List.length_append]; rfl
      have ih := ih (pre ++ [p]) m (by rw [e, List.append_assoc]; rfl) (by rw [List.length_cons] at hm; omega)
      have e3 : (((pre ++ [p]).length : Nat) : Int) = (pre.length : Int) + 1 := by rw [List.length_append]; rfl
      unfold f_X5_rowOf_2
      rw [e_gf 1 A.o rfl]
      show (if (pre.length : Int) < μ a 1 then _ else _) = _
      rw [h.1, if_pos (by omega), e_ob A.o, c_get0 A h hn hn2 (by decide) hk (by decide), e_bn]
      unfold zfi
      by_cases h0 : p 0 = o
      · rw [if_pos h0, e_ob A.o, c_get3 A h hn hn2 (by decide) hk (by decide), e_bn]
        by_cases h3 : p 3 = w9
        · rw [if_pos h3, if_pos ⟨h0, h3⟩]
        · rw [if_neg h3, if_neg (fun z => h3 z.2)]
          unfold f_X5_rowOf_32
          rw [e2, ih, e3]
      · rw [if_neg h0, if_neg (fun z => h0 z.1)]
        unfold f_X5_rowOf_32
        rw [e2, ih, e3]
theorem c_find {o w9 : Int} (A : RSh S a n) (hn : 8 * (l.length : Int) ≤ n) (hn2 : n ≤ 800) (h : LRp 7 μ a l) : f_X5_rowOf a o w9 (S, μ) = some (.inl (zfi (zq o w9) (zqD o w9) l 0), (S, μ)) := by
  unfold f_X5_rowOf
  exact c_find_go A hn hn2 h l [] zFU rfl (by show l.length < 1000000; omega)
end C30c
