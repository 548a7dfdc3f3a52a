/-! ROWS 1: numbers, locals, stack, branches -/
def w32 (z : Int) : Int := z.bmod 4294967296
def w8 (z : Int) : Int := z.bmod 256
def zand (a b : Int) : Int := (Int32.ofInt a &&& Int32.ofInt b).toInt
def zor (a b : Int) : Int := (Int32.ofInt a ||| Int32.ofInt b).toInt
def zshl (a b : Int) : Int := (Int32.ofInt a <<< (Int32.ofInt b &&& 31)).toInt
def zshr (a b : Int) : Int := (Int32.ofInt a >>> (Int32.ofInt b &&& 31)).toInt
def zush (a b : Int) : Int := ((Int32.ofInt a).toUInt32 >>> ((Int32.ofInt b).toUInt32 &&& Int32.toUInt32 31)).toInt32.toInt
def zlc (a b : Int) : Int := if b < a then 1 else if a = b then 0 else -1
theorem zI_w (z : Int) : zI (w32 z) := by
  unfold zI w32
  have h1 := Int.le_bmod (x := z) (m := 4294967296) (by decide)
  have h2 := Int.bmod_lt (x := z) (m := 4294967296) (by decide)
  omega
theorem w32_id {z : Int} (h : zI z) : w32 z = z := by
  unfold zI at h
  unfold w32
  rw [Int.bmod_def]
  split <;> omega
theorem z_of (z : Int) : Int32.ofInt (w32 z) = Int32.ofInt z := by
  apply Int32.toInt_inj.mp
  rw [Int32.toInt_ofInt, Int32.toInt_ofInt]
  unfold w32
  exact Int.bmod_bmod
theorem z_to {a : Int} (h : zI a) : (Int32.ofInt a).toInt = a := by
  unfold zI at h
  exact Int32.toInt_ofInt_of_le (by omega) (by omega)
theorem z_in (x : Int32) : zI x.toInt := by
  have h1 := Int32.le_toInt x
  have h2 := Int32.toInt_lt x
  unfold zI
  omega
theorem z_back (x : Int32) : Int32.ofInt x.toInt = x := Int32.ofInt_toInt x
theorem z_lt {a b : Int} (ha : zI a) (hb : zI b) : Int32.ofInt a < Int32.ofInt b ↔ a < b := by
  rw [Int32.lt_iff_toInt_lt, z_to ha, z_to hb]
theorem z_eq {a b : Int} (ha : zI a) (hb : zI b) : Int32.ofInt a = Int32.ofInt b ↔ a = b := by
  rw [← Int32.toInt_inj, z_to ha, z_to hb]
theorem zI_0 : zI 0 := by unfold zI; omega
theorem z_add (a b : Int) : Int32.ofInt a + Int32.ofInt b = Int32.ofInt (w32 (a + b)) := by rw [z_of, Int32.ofInt_add]
theorem z_sub (a b : Int) : Int32.ofInt a - Int32.ofInt b = Int32.ofInt (w32 (a - b)) := by rw [z_of, Int32.ofInt_sub]
theorem z_mul (a b : Int) : Int32.ofInt a * Int32.ofInt b = Int32.ofInt (w32 (a * b)) := by rw [z_of, Int32.ofInt_mul]
theorem zmap_at {g : zF} {L : List (Nat × zV)} {j i : Nat} {v : zV} (h : L[j]? = some (i, v)) : (L.map fun q => (q.1, zv g q.2))[j]? = some (i, zv g v) := by rw [List.getElem?_map, h]; rfl
theorem zmem_at {L : List (Nat × zV)} {j i : Nat} {v : zV} (hL : ∀ q ∈ L, zn q.2) (h : L[j]? = some (i, v)) : zn v := hL (i, v) (List.mem_of_getElem? h)
def zst (i : Nat) (v : zV) (L : List (Nat × zV)) : List (Nat × zV) := (i, v) :: L.filter (fun q => !(q.1 == i) && !(q.1 + 1 == i && (q.2.1 == 1 || q.2.1 == 3)))
theorem zv_4 (g : zF) (z : Int) : zv g (4, z) = if z < 0 then .null else .ref z.toNat := rfl
theorem zv_r (g : zF) (t : Nat) (z : Int) : zv g (t + 4, z) = .null ∨ ∃ q, zv g (t + 4, z) = .ref q := by
  match t with
  | 0 =>
    show zv g (4, z) = .null ∨ ∃ q, zv g (4, z) = .ref q
    rw [zv_4]
    split
    · exact Or.inl rfl
    · exact Or.inr ⟨_, rfl⟩
  | 1 => exact Or.inr ⟨_, rfl⟩
  | t + 2 => exact Or.inr ⟨_, rfl⟩
theorem zcat (g : zF) (v : zV) : ((zv g v).category == 2) = (v.1 == 1 || v.1 == 3) := by
  obtain ⟨t, z⟩ := v
  match t with
  | 0 => rfl
  | 1 => rfl
  | 2 => rfl
  | 3 => rfl
  | 4 => rw [zv_4]; split <;> rfl
  | 5 => rfl
  | t + 6 => rfl
theorem zcat1 (g : zF) (v : zV) (h : (v.1 == 1 || v.1 == 3) = false) : (zv g v).category = 1 := by
  have h1 := zcat g v
  rw [h] at h1
  rcases lv_cat (zv g v) with h2 | h2
  · exact h2
  · rw [h2] at h1; cases h1
theorem zst_map (g : zF) (i : Nat) (v : zV) (L : List (Nat × zV)) : (i, zv g v) :: (L.map fun q => (q.1, zv g q.2)).filter (fun q => !(q.1 == i) && !(q.1 + 1 == i && q.2.category == 2)) = (zst i v L).map fun q => (q.1, zv g q.2) := by
  unfold zst
  rw [List.map_cons, List.filter_map]
  congr 2
  congr 1
  funext q
  show (!(q.1 == i) && !(q.1 + 1 == i && (zv g q.2).category == 2)) = _
  rw [zcat]
theorem zst_n {i : Nat} {v : zV} {L : List (Nat × zV)} (hL : ∀ q ∈ L, zn q.2) (hv : zn v) : ∀ q ∈ zst i v L, zn q.2 := by
  intro q hq
  rcases List.mem_cons.mp hq with h | h
  · rw [h]; exact hv
  · exact hL q (List.mem_filter.mp h).1
theorem zS_1 {v : zV} {S : List zV} (h : ∀ x ∈ v :: S, zn x) : zn v := h v List.mem_cons_self
theorem zS_t {v : zV} {S : List zV} (h : ∀ x ∈ v :: S, zn x) : ∀ x ∈ S, zn x := fun x hx => h x (List.mem_cons_of_mem _ hx)
theorem zS_c {v : zV} {S : List zV} (hv : zn v) (h : ∀ x ∈ S, zn x) : ∀ x ∈ v :: S, zn x := fun x hx => (List.mem_cons.mp hx).elim (fun e => by rw [e]; exact hv) (h x)
theorem zo_if {c : Prop} [Decidable c] {A B : Option (zR × zS)} {Q : zR × zS → Prop} (h : zo (if c then A else B) Q) : (c → zo A Q) ∧ (¬ c → zo B Q) := ⟨fun hc => by rw [if_pos hc] at h; exact h, fun hc => by rw [if_neg hc] at h; exact h⟩
theorem zb8 {v : Int} (h : -128 ≤ v ∧ v < 128) : (Int8.ofInt v).toInt32 = Int32.ofInt v := by
  apply Int32.toInt_inj.mp
  rw [Int8.toInt_toInt32, Int8.toInt_ofInt_of_le (by omega) (by omega), Int32.toInt_ofInt_of_le (by omega) (by omega)]
theorem zb16 {v : Int} (h : -32768 ≤ v ∧ v < 32768) : (Int16.ofInt v).toInt32 = Int32.ofInt v := by
  apply Int32.toInt_inj.mp
  rw [Int16.toInt_toInt32, Int16.toInt_ofInt_of_le (by omega) (by omega), Int32.toInt_ofInt_of_le (by omega) (by omega)]
theorem z_64 {a : Int} (h : zI a) : (Int32.ofInt a).toInt64 = Int64.ofInt a := by
  unfold zI at h
  apply Int64.toInt_inj.mp
  rw [Int32.toInt_toInt64, Int32.toInt_ofInt_of_le (by omega) (by omega), Int64.toInt_ofInt_of_le (by omega) (by omega)]
theorem z_64i {a : Int} (h : zI a) : zI64 a := by unfold zI at h; unfold zI64; omega
theorem z_64t (x : Int64) : zI64 x.toInt := by
  have h1 := Int64.le_toInt x
  have h2 := Int64.toInt_lt x
  unfold zI64
  omega
theorem z_lcmp {a b : Int} (ha : zI64 a) (hb : zI64 b) : lg_cmp (Int64.ofInt a) (Int64.ofInt b) = Int32.ofInt (zlc a b) := by
  unfold zI64 at ha hb
  have ea : (Int64.ofInt a).toInt = a := Int64.toInt_ofInt_of_le (by omega) (by omega)
  have eb : (Int64.ofInt b).toInt = b := Int64.toInt_ofInt_of_le (by omega) (by omega)
  unfold lg_cmp zlc
  have h1 : Int64.ofInt a > Int64.ofInt b ↔ b < a := by
    show Int64.ofInt b < Int64.ofInt a ↔ _
    rw [Int64.lt_iff_toInt_lt, ea, eb]
  have h2 : Int64.ofInt a = Int64.ofInt b ↔ a = b := by rw [← Int64.toInt_inj, ea, eb]
  by_cases q1 : b < a
  · rw [if_pos q1, if_pos (h1.mpr q1)]; rfl
  · rw [if_neg q1, if_neg (fun z => q1 (h1.mp z))]
    by_cases q2 : a = b
    · rw [if_pos q2, if_pos (h2.mpr q2)]; rfl
    · rw [if_neg q2, if_neg (fun z => q2 (h2.mp z))]; rfl
section ZR1
variable {g : zF} {K : zY} {R : Room} {L : List (Nat × zV)} {S : List zV} {σ : zS} {C D : Nat} {Q : zR × zS → Prop} {pc : Nat}
theorem r_iconst {n : Int} {v : Int} (d : decode K.2.1 pc = .ok (.iconst n, 1)) (hv : v = n) (hi : (decide (-2147483648 ≤ v ∧ v < 2147483648)) = true) (k : zw g K R (pc + 1) L ((0, v) :: S) σ C D Q) : zw g K R pc L S σ C D Q := by
  intro p e s m args below meth c H locs cells slots ls hC hl hL hS hW hV h1 h2
  have hi := of_decide_eq_true hi
  subst hv
  exact lv_iconst hC.1 hC.2.1 d (rfl) (k p e s m args below meth c H locs cells slots ls hC hl hL (zS_c (by show zI _; unfold zI; omega) hS) hW hV h1 h2)
theorem r_bipush {n : Int} {v : Int} (d : decode K.2.1 pc = .ok (.bipush n, 2)) (hv : v = n) (hi : (decide (-128 ≤ v ∧ v < 128)) = true) (k : zw g K R (pc + 2) L ((0, v) :: S) σ C D Q) : zw g K R pc L S σ C D Q := by
  intro p e s m args below meth c H locs cells slots ls hC hl hL hS hW hV h1 h2
  have hi := of_decide_eq_true hi
  subst hv
  exact lv_bipush hC.1 hC.2.1 d (zb8 hi) (k p e s m args below meth c H locs cells slots ls hC hl hL (zS_c (by show zI _; unfold zI; omega) hS) hW hV h1 h2)
theorem r_sipush {n : Int} {v : Int} (d : decode K.2.1 pc = .ok (.sipush n, 3)) (hv : v = n) (hi : (decide (-32768 ≤ v ∧ v < 32768)) = true) (k : zw g K R (pc + 3) L ((0, v) :: S) σ C D Q) : zw g K R pc L S σ C D Q := by
  intro p e s m args below meth c H locs cells slots ls hC hl hL hS hW hV h1 h2
  have hi := of_decide_eq_true hi
  subst hv
  exact lv_sipush hC.1 hC.2.1 d (zb16 hi) (k p e s m args below meth c H locs cells slots ls hC hl hL (zS_c (by show zI _; unfold zI; omega) hS) hW hV h1 h2)
theorem r_iload_n {k : Fin 4} {x : Int} (j : Nat) (d : decode K.2.1 pc = .ok (.iload_n k, 1)) (hj : L[j]? = some ((k : Nat), (0, x))) (kk : zw g K R (pc + 1) L ((0, x) :: S) σ C D Q) : zw g K R pc L S σ C D Q := by
  intro p e s m args below meth c H locs cells slots ls hC hl hL hS hW hV h1 h2
  exact lv_iload_n hC.1 hC.2.1 d rfl (lv_at hl j (zmap_at hj)) (kk p e s m args below meth c H locs cells slots ls hC hl hL (zS_c (zmem_at hL hj) hS) hW hV h1 h2)
theorem r_iload {i : Nat} {x : Int} (j : Nat) (d : decode K.2.1 pc = .ok (.iload i, 2)) (hj : L[j]? = some (i, (0, x))) (kk : zw g K R (pc + 2) L ((0, x) :: S) σ C D Q) : zw g K R pc L S σ C D Q := by
  intro p e s m args below meth c H locs cells slots ls hC hl hL hS hW hV h1 h2
  exact lv_iload hC.1 hC.2.1 d (lv_at hl j (zmap_at hj)) (kk p e s m args below meth c H locs cells slots ls hC hl hL (zS_c (zmem_at hL hj) hS) hW hV h1 h2)
theorem r_lload_n {k : Fin 4} {x : Int} (j : Nat) (d : decode K.2.1 pc = .ok (.lload_n k, 1)) (hj : L[j]? = some ((k : Nat), (1, x))) (kk : zw g K R (pc + 1) L ((1, x) :: S) σ C D Q) : zw g K R pc L S σ C D Q := by
  intro p e s m args below meth c H locs cells slots ls hC hl hL hS hW hV h1 h2
  exact lv_lload_n hC.1 hC.2.1 d rfl (lv_at hl j (zmap_at hj)) (kk p e s m args below meth c H locs cells slots ls hC hl hL (zS_c (zmem_at hL hj) hS) hW hV h1 h2)
theorem r_lload {i : Nat} {x : Int} (j : Nat) (d : decode K.2.1 pc = .ok (.lload i, 2)) (hj : L[j]? = some (i, (1, x))) (kk : zw g K R (pc + 2) L ((1, x) :: S) σ C D Q) : zw g K R pc L S σ C D Q := by
  intro p e s m args below meth c H locs cells slots ls hC hl hL hS hW hV h1 h2
  exact lv_lload hC.1 hC.2.1 d (lv_at hl j (zmap_at hj)) (kk p e s m args below meth c H locs cells slots ls hC hl hL (zS_c (zmem_at hL hj) hS) hW hV h1 h2)
theorem r_fload_n {k : Fin 4} {x : Int} (j : Nat) (d : decode K.2.1 pc = .ok (.fload_n k, 1)) (hj : L[j]? = some ((k : Nat), (2, x))) (kk : zw g K R (pc + 1) L ((2, x) :: S) σ C D Q) : zw g K R pc L S σ C D Q := by
  intro p e s m args below meth c H locs cells slots ls hC hl hL hS hW hV h1 h2
  exact lv_fload_n hC.1 hC.2.1 d rfl (lv_at hl j (zmap_at hj)) (kk p e s m args below meth c H locs cells slots ls hC hl hL (zS_c (zmem_at hL hj) hS) hW hV h1 h2)
theorem r_fload {i : Nat} {x : Int} (j : Nat) (d : decode K.2.1 pc = .ok (.fload i, 2)) (hj : L[j]? = some (i, (2, x))) (kk : zw g K R (pc + 2) L ((2, x) :: S) σ C D Q) : zw g K R pc L S σ C D Q := by
  intro p e s m args below meth c H locs cells slots ls hC hl hL hS hW hV h1 h2
  exact lv_fload hC.1 hC.2.1 d (lv_at hl j (zmap_at hj)) (kk p e s m args below meth c H locs cells slots ls hC hl hL (zS_c (zmem_at hL hj) hS) hW hV h1 h2)
theorem r_aload_n {k : Fin 4} {t : Nat} {x : Int} (j : Nat) (d : decode K.2.1 pc = .ok (.aload_n k, 1)) (hj : L[j]? = some ((k : Nat), (t + 4, x))) (kk : zw g K R (pc + 1) L ((t + 4, x) :: S) σ C D Q) : zw g K R pc L S σ C D Q := by
  intro p e s m args below meth c H locs cells slots ls hC hl hL hS hW hV h1 h2
  have kk := kk p e s m args below meth c H locs cells slots ls hC hl hL (zS_c (zmem_at hL hj) hS) hW hV h1 h2
  have hx := lv_at hl j (zmap_at (g := g) hj)
  have kk : W p g.2.2.2.1 e R s m args below meth c H locs cells slots _ (F0 m (pc + 1) ls (zv g (t + 4, x) :: S.map (zv g))) := kk
  obtain ⟨v, hv⟩ : ∃ v, v = zv g (t + 4, x) := ⟨_, rfl⟩
  rw [← hv] at kk hx
  have : v = .null ∨ ∃ q, v = .ref q := by
    rw [hv]
    exact zv_r g t x
  rcases this with rfl | ⟨q, rfl⟩
  · exact lv_aload_nN hC.1 hC.2.1 d rfl hx kk
  · exact lv_aload_n hC.1 hC.2.1 d rfl hx kk
theorem r_aload {i t : Nat} {x : Int} (j : Nat) (d : decode K.2.1 pc = .ok (.aload i, 2)) (hj : L[j]? = some (i, (t + 4, x))) (kk : zw g K R (pc + 2) L ((t + 4, x) :: S) σ C D Q) : zw g K R pc L S σ C D Q := by
  intro p e s m args below meth c H locs cells slots ls hC hl hL hS hW hV h1 h2
  have kk := kk p e s m args below meth c H locs cells slots ls hC hl hL (zS_c (zmem_at hL hj) hS) hW hV h1 h2
  have hx := lv_at hl j (zmap_at (g := g) hj)
  have kk : W p g.2.2.2.1 e R s m args below meth c H locs cells slots _ (F0 m (pc + 2) ls (zv g (t + 4, x) :: S.map (zv g))) := kk
  obtain ⟨v, hv⟩ : ∃ v, v = zv g (t + 4, x) := ⟨_, rfl⟩
  rw [← hv] at kk hx
  have : v = .null ∨ ∃ q, v = .ref q := by
    rw [hv]
    exact zv_r g t x
  rcases this with rfl | ⟨q, rfl⟩
  · exact lv_aloadN hC.1 hC.2.1 d hx kk
  · exact lv_aload hC.1 hC.2.1 d hx kk
theorem r_istore {i : Nat} {x : Int} {L' : List (Nat × zV)} (d : decode K.2.1 pc = .ok (.istore i, 2)) (hn : i < K.2.2.1) (hs : zst i (0, x) L = L') (kk : zw g K R (pc + 2) L' S σ C D Q) : zw g K R pc L ((0, x) :: S) σ C D Q := by
  intro p e s m args below meth c H locs cells slots ls hC hl hL hS hW hV h1 h2
  subst hs
  exact lv_istore hC.1 hC.2.1 d hl hn (zst_map g i (0, x) L) (fun ls' hl' => kk p e s m args below meth c H locs cells slots ls' hC hl' (zst_n hL (zS_1 hS)) (zS_t hS) hW hV h1 h2)
theorem r_fstore {i : Nat} {x : Int} {L' : List (Nat × zV)} (d : decode K.2.1 pc = .ok (.fstore i, 2)) (hn : i < K.2.2.1) (hs : zst i (2, x) L = L') (kk : zw g K R (pc + 2) L' S σ C D Q) : zw g K R pc L ((2, x) :: S) σ C D Q := by
  intro p e s m args below meth c H locs cells slots ls hC hl hL hS hW hV h1 h2
  subst hs
  exact lv_fstore hC.1 hC.2.1 d hl hn (zst_map g i (2, x) L) (fun ls' hl' => kk p e s m args below meth c H locs cells slots ls' hC hl' (zst_n hL (zS_1 hS)) (zS_t hS) hW hV h1 h2)
theorem r_istore_n {k : Fin 4} {x : Int} {L' : List (Nat × zV)} (d : decode K.2.1 pc = .ok (.istore_n k, 1)) (hn : (k : Nat) < K.2.2.1) (hs : zst (k : Nat) (0, x) L = L') (kk : zw g K R (pc + 1) L' S σ C D Q) : zw g K R pc L ((0, x) :: S) σ C D Q := by
  intro p e s m args below meth c H locs cells slots ls hC hl hL hS hW hV h1 h2
  subst hs
  exact lv_istore_n hC.1 hC.2.1 d rfl hl hn (zst_map g (k : Nat) (0, x) L) (fun ls' hl' => kk p e s m args below meth c H locs cells slots ls' hC hl' (zst_n hL (zS_1 hS)) (zS_t hS) hW hV h1 h2)
theorem r_astore_n {k : Fin 4} {x : Int} {L' : List (Nat × zV)} (d : decode K.2.1 pc = .ok (.astore_n k, 1)) (hn : (k : Nat) < K.2.2.1) (hs : zst (k : Nat) (4, x) L = L') (kk : zw g K R (pc + 1) L' S σ C D Q) : zw g K R pc L ((4, x) :: S) σ C D Q := by
  intro p e s m args below meth c H locs cells slots ls hC hl hL hS hW hV h1 h2
  subst hs
  have kk := fun ls' hl' => kk p e s m args below meth c H locs cells slots ls' hC hl' (zst_n hL (zS_1 hS)) (zS_t hS) hW hV h1 h2
  have hz := zst_map g (k : Nat) (4, x) L
  by_cases hx : x < 0
  · have e0 : zv g (4, x) = .null := by rw [zv_4]; exact if_pos hx
    rw [e0] at hz
    rw [List.map_cons, e0]
    exact lv_astore_nN hC.1 hC.2.1 d rfl hl hn hz kk
  · have e0 : zv g (4, x) = .ref x.toNat := by rw [zv_4]; exact if_neg hx
    rw [e0] at hz
    rw [List.map_cons, e0]
    exact lv_astore_n hC.1 hC.2.1 d rfl hl hn hz kk
theorem r_astore {i : Nat} {x : Int} {L' : List (Nat × zV)} (d : decode K.2.1 pc = .ok (.astore i, 2)) (hn : i < K.2.2.1) (hs : zst i (4, x) L = L') (kk : zw g K R (pc + 2) L' S σ C D Q) : zw g K R pc L ((4, x) :: S) σ C D Q := by
  intro p e s m args below meth c H locs cells slots ls hC hl hL hS hW hV h1 h2
  subst hs
  have kk := fun ls' hl' => kk p e s m args below meth c H locs cells slots ls' hC hl' (zst_n hL (zS_1 hS)) (zS_t hS) hW hV h1 h2
  have hz := zst_map g i (4, x) L
  by_cases hx : x < 0
  · have e0 : zv g (4, x) = .null := by rw [zv_4]; exact if_pos hx
    rw [e0] at hz
    rw [List.map_cons, e0]
    exact lv_astoreN hC.1 hC.2.1 d hl hn hz kk
  · have e0 : zv g (4, x) = .ref x.toNat := by rw [zv_4]; exact if_neg hx
    rw [e0] at hz
    rw [List.map_cons, e0]
    exact lv_astore hC.1 hC.2.1 d hl hn hz kk
theorem r_iinc {i : Nat} {n x : Int} {L' : List (Nat × zV)} (j : Nat) (d : decode K.2.1 pc = .ok (.iinc i n, 3)) (hj : L[j]? = some (i, (0, x))) (hn : i < K.2.2.1) (hs : zst i (0, w32 (x + n)) L = L') (kk : zw g K R (pc + 3) L' S σ C D Q) : zw g K R pc L S σ C D Q := by
  intro p e s m args below meth c H locs cells slots ls hC hl hL hS hW hV h1 h2
  subst hs
  exact lv_iinc (v := Int32.ofInt (w32 (x + n))) hC.1 hC.2.1 d hl (zmap_at hj) (z_add x n) hn (zst_map g i (0, w32 (x + n)) L) (fun ls' hl' => kk p e s m args below meth c H locs cells slots ls' hC hl' (zst_n hL (zI_w _)) hS hW hV h1 h2)
theorem r_weak {L' : List (Nat × zV)} (js : List Nat) (hj : js.filterMap (fun j => L[j]?) = L') (kk : zw g K R pc L' S σ C D Q) : zw g K R pc L S σ C D Q := by
  intro p e s m args below meth c H locs cells slots ls hC hl hL hS hW hV h1 h2
  have h : lv_pick (L.map fun q => (q.1, zv g q.2)) js = L'.map fun q => (q.1, zv g q.2) := by
    rw [← hj]
    unfold lv_pick
    rw [List.map_filterMap]
    congr 1
    funext j
    rw [List.getElem?_map]
  refine kk p e s m args below meth c H locs cells slots ls hC (lv_sub hl js h) (fun q hq => ?_) hS hW hV h1 h2
  rw [← hj] at hq
  obtain ⟨j, -, hj'⟩ := List.mem_filterMap.mp hq
  exact hL q (List.mem_of_getElem? hj')
theorem r_room {C' D' : Nat} (hC' : C' ≤ C) (hD' : D' ≤ D) (kk : zw g K R pc L S σ C' D' Q) : zw g K R pc L S σ C D Q := by
  intro p e s m args below meth c H locs cells slots ls hC hl hL hS hW hV h1 h2
  exact kk p e s m args below meth c H locs cells slots ls hC hl hL hS hW hV (by omega) (by omega)
theorem r_iadd {a b : Int} (d : decode K.2.1 pc = .ok (.iadd, 1)) (kk : zw g K R (pc + 1) L ((0, w32 (a + b)) :: S) σ C D Q) : zw g K R pc L ((0, b) :: (0, a) :: S) σ C D Q := by
  intro p e s m args below meth c H locs cells slots ls hC hl hL hS hW hV h1 h2
  refine lv_iadd hC.1 hC.2.1 d ?_
  rw [z_add a b]
  exact kk p e s m args below meth c H locs cells slots ls hC hl hL (zS_c (zI_w _) (zS_t (zS_t hS))) hW hV h1 h2
theorem r_isub {a b : Int} (d : decode K.2.1 pc = .ok (.isub, 1)) (kk : zw g K R (pc + 1) L ((0, w32 (a - b)) :: S) σ C D Q) : zw g K R pc L ((0, b) :: (0, a) :: S) σ C D Q := by
  intro p e s m args below meth c H locs cells slots ls hC hl hL hS hW hV h1 h2
  refine lv_isub hC.1 hC.2.1 d ?_
  rw [z_sub a b]
  exact kk p e s m args below meth c H locs cells slots ls hC hl hL (zS_c (zI_w _) (zS_t (zS_t hS))) hW hV h1 h2
theorem r_imul {a b : Int} (d : decode K.2.1 pc = .ok (.imul, 1)) (kk : zw g K R (pc + 1) L ((0, w32 (a * b)) :: S) σ C D Q) : zw g K R pc L ((0, b) :: (0, a) :: S) σ C D Q := by
  intro p e s m args below meth c H locs cells slots ls hC hl hL hS hW hV h1 h2
  refine lv_imul hC.1 hC.2.1 d ?_
  rw [z_mul a b]
  exact kk p e s m args below meth c H locs cells slots ls hC hl hL (zS_c (zI_w _) (zS_t (zS_t hS))) hW hV h1 h2
theorem r_iand {a b : Int} (d : decode K.2.1 pc = .ok (.iand, 1)) (kk : zw g K R (pc + 1) L ((0, zand a b) :: S) σ C D Q) : zw g K R pc L ((0, b) :: (0, a) :: S) σ C D Q := by
  intro p e s m args below meth c H locs cells slots ls hC hl hL hS hW hV h1 h2
  have kk := kk p e s m args below meth c H locs cells slots ls hC hl hL (zS_c (z_in _) (zS_t (zS_t hS))) hW hV h1 h2
  refine lv_iand hC.1 hC.2.1 d ?_
  have e0 : zv g (0, zand a b) = .int _ := congrArg Value.int (z_back _)
  rw [List.map_cons, e0] at kk
  exact kk
theorem r_ior {a b : Int} (d : decode K.2.1 pc = .ok (.ior, 1)) (kk : zw g K R (pc + 1) L ((0, zor a b) :: S) σ C D Q) : zw g K R pc L ((0, b) :: (0, a) :: S) σ C D Q := by
  intro p e s m args below meth c H locs cells slots ls hC hl hL hS hW hV h1 h2
  have kk := kk p e s m args below meth c H locs cells slots ls hC hl hL (zS_c (z_in _) (zS_t (zS_t hS))) hW hV h1 h2
  refine lv_ior hC.1 hC.2.1 d ?_
  have e0 : zv g (0, zor a b) = .int _ := congrArg Value.int (z_back _)
  rw [List.map_cons, e0] at kk
  exact kk
theorem r_ishl {a b : Int} (d : decode K.2.1 pc = .ok (.ishl, 1)) (kk : zw g K R (pc + 1) L ((0, zshl a b) :: S) σ C D Q) : zw g K R pc L ((0, b) :: (0, a) :: S) σ C D Q := by
  intro p e s m args below meth c H locs cells slots ls hC hl hL hS hW hV h1 h2
  have kk := kk p e s m args below meth c H locs cells slots ls hC hl hL (zS_c (z_in _) (zS_t (zS_t hS))) hW hV h1 h2
  refine lv_ishl hC.1 hC.2.1 d ?_
  have e0 : zv g (0, zshl a b) = .int _ := congrArg Value.int (z_back _)
  rw [List.map_cons, e0] at kk
  exact kk
theorem r_ishr {a b : Int} (d : decode K.2.1 pc = .ok (.ishr, 1)) (kk : zw g K R (pc + 1) L ((0, zshr a b) :: S) σ C D Q) : zw g K R pc L ((0, b) :: (0, a) :: S) σ C D Q := by
  intro p e s m args below meth c H locs cells slots ls hC hl hL hS hW hV h1 h2
  have kk := kk p e s m args below meth c H locs cells slots ls hC hl hL (zS_c (z_in _) (zS_t (zS_t hS))) hW hV h1 h2
  refine lv_ishr hC.1 hC.2.1 d ?_
  have e0 : zv g (0, zshr a b) = .int _ := congrArg Value.int (z_back _)
  rw [List.map_cons, e0] at kk
  exact kk
theorem r_iushr {a b : Int} (d : decode K.2.1 pc = .ok (.iushr, 1)) (kk : zw g K R (pc + 1) L ((0, zush a b) :: S) σ C D Q) : zw g K R pc L ((0, b) :: (0, a) :: S) σ C D Q := by
  intro p e s m args below meth c H locs cells slots ls hC hl hL hS hW hV h1 h2
  have kk := kk p e s m args below meth c H locs cells slots ls hC hl hL (zS_c (z_in _) (zS_t (zS_t hS))) hW hV h1 h2
  refine lv_iushr hC.1 hC.2.1 d rfl ?_
  have e0 : zv g (0, zush a b) = .int _ := congrArg Value.int (z_back _)
  rw [List.map_cons, e0] at kk
  exact kk
theorem r_idiv {a b : Int} {A : Option (zR × zS)} (d : decode K.2.1 pc = .ok (.idiv, 1)) (h : zo (if b = 0 then none else A) Q) (kk : zo A Q → zw g K R (pc + 1) L ((0, w32 (a.tdiv b)) :: S) σ C D Q) : zw g K R pc L ((0, b) :: (0, a) :: S) σ C D Q := by
  intro p e s m args below meth c H locs cells slots ls hC hl hL hS hW hV h1 h2
  have ha : zI a := zS_1 (zS_t hS)
  have hb : zI b := zS_1 hS
  by_cases h0 : b = 0
  · obtain ⟨r, h, -⟩ := (zo_if h).1 h0; cases h
  · refine lv_idiv hC.1 hC.2.1 d (fun q => h0 ((z_eq hb zI_0).mp q)) ?_
    have e0 : Int32.ofInt a / Int32.ofInt b = Int32.ofInt (w32 (a.tdiv b)) := by
      rw [z_of, ← z_back (Int32.ofInt a / Int32.ofInt b)]
      rw [Int32.toInt_div, z_to ha, z_to hb]
      exact z_of _
    rw [e0]
    exact kk ((zo_if h).2 h0) p e s m args below meth c H locs cells slots ls hC hl hL (zS_c (zI_w _) (zS_t (zS_t hS))) hW hV h1 h2
theorem r_irem {a b : Int} {A : Option (zR × zS)} (d : decode K.2.1 pc = .ok (.irem, 1)) (h : zo (if b = 0 then none else A) Q) (kk : zo A Q → zw g K R (pc + 1) L ((0, a.tmod b) :: S) σ C D Q) : zw g K R pc L ((0, b) :: (0, a) :: S) σ C D Q := by
  intro p e s m args below meth c H locs cells slots ls hC hl hL hS hW hV h1 h2
  have ha : zI a := zS_1 (zS_t hS)
  have hb : zI b := zS_1 hS
  by_cases h0 : b = 0
  · obtain ⟨r, h, -⟩ := (zo_if h).1 h0; cases h
  · refine lv_irem hC.1 hC.2.1 d (fun q => h0 ((z_eq hb zI_0).mp q)) ?_
    have e1 : (Int32.ofInt a - Int32.ofInt a / Int32.ofInt b * Int32.ofInt b).toInt = a.tmod b := by rw [rem_toInt, z_to ha, z_to hb]
    have e0 : Int32.ofInt a - Int32.ofInt a / Int32.ofInt b * Int32.ofInt b = Int32.ofInt (a.tmod b) := by rw [← e1, z_back]
    rw [e0]
    exact kk ((zo_if h).2 h0) p e s m args below meth c H locs cells slots ls hC hl hL (zS_c (by show zI _; rw [← e1]; exact z_in _) (zS_t (zS_t hS))) hW hV h1 h2
theorem r_i2b {a : Int} (d : decode K.2.1 pc = .ok (.i2b, 1)) (kk : zw g K R (pc + 1) L ((0, w8 a) :: S) σ C D Q) : zw g K R pc L ((0, a) :: S) σ C D Q := by
  intro p e s m args below meth c H locs cells slots ls hC hl hL hS hW hV h1 h2
  have ha : zI a := zS_1 hS
  have e1 : (Int32.ofInt a).toInt8.toInt32.toInt = w8 a := by rw [Int8.toInt_toInt32, Int32.toInt_toInt8, z_to ha]; rfl
  exact lv_i2b (v := Int32.ofInt (w8 a)) hC.1 hC.2.1 d (by rw [← e1, z_back]) (kk p e s m args below meth c H locs cells slots ls hC hl hL (zS_c (by show zI _; rw [← e1]; exact z_in _) (zS_t hS)) hW hV h1 h2)
theorem r_i2l {a : Int} (d : decode K.2.1 pc = .ok (.i2l, 1)) (kk : zw g K R (pc + 1) L ((1, a) :: S) σ C D Q) : zw g K R pc L ((0, a) :: S) σ C D Q := by
  intro p e s m args below meth c H locs cells slots ls hC hl hL hS hW hV h1 h2
  have ha : zI a := zS_1 hS
  exact lv_i2l (v := Int64.ofInt a) hC.1 hC.2.1 d (z_64 ha) (kk p e s m args below meth c H locs cells slots ls hC hl hL (zS_c (z_64i ha) (zS_t hS)) hW hV h1 h2)
theorem r_lconst {n : Fin 2} (d : decode K.2.1 pc = .ok (.lconst n, 1)) (kk : zw g K R (pc + 1) L ((1, ((n : Nat) : Int)) :: S) σ C D Q) : zw g K R pc L S σ C D Q := by
  intro p e s m args below meth c H locs cells slots ls hC hl hL hS hW hV h1 h2
  exact lv_lconst (v := Int64.ofInt ((n : Nat) : Int)) hC.1 hC.2.1 d (by rw [Int64.ofInt_eq_ofNat]) (kk p e s m args below meth c H locs cells slots ls hC hl hL (zS_c (by show zI64 _; unfold zI64; have := n.isLt; omega) hS) hW hV h1 h2)
theorem r_lcmp {a b : Int} (d : decode K.2.1 pc = .ok (.lcmp, 1)) (kk : zw g K R (pc + 1) L ((0, zlc a b) :: S) σ C D Q) : zw g K R pc L ((1, b) :: (1, a) :: S) σ C D Q := by
  intro p e s m args below meth c H locs cells slots ls hC hl hL hS hW hV h1 h2
  have ha : zI64 a := zS_1 (zS_t hS)
  have hb : zI64 b := zS_1 hS
  refine W.lcmp hC.1 hC.2.1 d ?_
  rw [z_lcmp ha hb]
  exact kk p e s m args below meth c H locs cells slots ls hC hl hL (zS_c (by show zI _; unfold zI zlc; split <;> (try split) <;> omega) (zS_t (zS_t hS))) hW hV h1 h2
theorem r_ldc {i : Nat} {v : Int32} (hw : zL (.constant K.1.cls i v)) (d : decode K.2.1 pc = .ok (.ldc i, 2)) (kk : zw g K R (pc + 2) L ((0, v.toInt) :: S) σ C D Q) : zw g K R pc L S σ C D Q := by
  intro p e s m args below meth c H locs cells slots ls hC hl hL hS hW hV h1 h2
  have kk := kk p e s m args below meth c H locs cells slots ls hC hl hL (zS_c (z_in v) hS) hW hV h1 h2
  have e0 : zv g (0, v.toInt) = .int v := congrArg Value.int (z_back v)
  rw [List.map_cons, e0] at kk
  exact lv_ldc hC.1 hC.2.1 hC.2.2.2.2.2.1 (hC.2.2.2.2.2.2.1.2.2.1 _ hw _) d kk
theorem r_ldc2 {i : Nat} {v : Int64} (hw : zL (.constantLong K.1.cls i v)) (d : decode K.2.1 pc = .ok (.ldc2_w i, 3)) (kk : zw g K R (pc + 3) L ((1, v.toInt) :: S) σ C D Q) : zw g K R pc L S σ C D Q := by
  intro p e s m args below meth c H locs cells slots ls hC hl hL hS hW hV h1 h2
  have kk := kk p e s m args below meth c H locs cells slots ls hC hl hL (zS_c (z_64t v) hS) hW hV h1 h2
  have e0 : zv g (1, v.toInt) = .long v := congrArg Value.long (Int64.ofInt_toInt v)
  rw [List.map_cons, e0] at kk
  exact lv_ldc2 hC.1 hC.2.1 hC.2.2.2.2.2.1 (hC.2.2.2.2.2.2.1.2.2.1 _ hw _) d kk
theorem r_dup {v : zV} (d : decode K.2.1 pc = .ok (.dup, 1)) (hv : (v.1 == 1 || v.1 == 3) = false) (kk : zw g K R (pc + 1) L (v :: v :: S) σ C D Q) : zw g K R pc L (v :: S) σ C D Q := by
  intro p e s m args below meth c H locs cells slots ls hC hl hL hS hW hV h1 h2
  exact lv_dup hC.1 hC.2.1 d (zcat1 g v hv) (kk p e s m args below meth c H locs cells slots ls hC hl hL (zS_c (zS_1 hS) hS) hW hV h1 h2)
theorem r_pop {v : zV} (d : decode K.2.1 pc = .ok (.pop, 1)) (hv : (v.1 == 1 || v.1 == 3) = false) (kk : zw g K R (pc + 1) L S σ C D Q) : zw g K R pc L (v :: S) σ C D Q := by
  intro p e s m args below meth c H locs cells slots ls hC hl hL hS hW hV h1 h2
  exact lv_pop hC.1 hC.2.1 d (zcat1 g v hv) (kk p e s m args below meth c H locs cells slots ls hC hl hL (zS_t hS) hW hV h1 h2)
theorem r_dup2 {v u : zV} (d : decode K.2.1 pc = .ok (.dup2, 1)) (hv : (v.1 == 1 || v.1 == 3) = false) (hu : (u.1 == 1 || u.1 == 3) = false) (kk : zw g K R (pc + 1) L (v :: u :: v :: u :: S) σ C D Q) : zw g K R pc L (v :: u :: S) σ C D Q := by
  intro p e s m args below meth c H locs cells slots ls hC hl hL hS hW hV h1 h2
  exact lv_dup2_11 hC.1 hC.2.1 d (zcat1 g v hv) (zcat1 g u hu) (kk p e s m args below meth c H locs cells slots ls hC hl hL (zS_c (zS_1 hS) (zS_c (zS_1 (zS_t hS)) hS)) hW hV h1 h2)
theorem r_goto {off : Int} (tgt : Nat) (d : decode K.2.1 pc = .ok (.goto off, 3)) (ht : (pc : Int) + off = (tgt : Int)) (kk : zw g K R tgt L S σ C D Q) : zw g K R pc L S σ C D Q := by
  intro p e s m args below meth c H locs cells slots ls hC hl hL hS hW hV h1 h2
  exact lv_goto hC.1 hC.2.1 d ht (kk p e s m args below meth c H locs cells slots ls hC hl hL hS hW hV h1 h2)
theorem r_icmp_lt {a b off : Int} {A B : Option (zR × zS)} (tgt : Nat) (d : decode K.2.1 pc = .ok (.if_icmp .lt off, 3)) (ht : (pc : Int) + off = (tgt : Int)) (h : zo (if a < b then A else B) Q) (kt : zo A Q → zw g K R tgt L S σ C D Q) (kf : zo B Q → zw g K R (pc + 3) L S σ C D Q) : zw g K R pc L ((0, b) :: (0, a) :: S) σ C D Q := by
  intro p e s m args below meth c H locs cells slots ls hC hl hL hS hW hV h1 h2
  have ha : zI a := zS_1 (zS_t hS)
  have hb : zI b := zS_1 hS
  have hh := zo_if h
  have kt := fun q => kt q p e s m args below meth c H locs cells slots ls hC hl hL (zS_t (zS_t hS)) hW hV h1 h2
  have kf := fun q => kf q p e s m args below meth c H locs cells slots ls hC hl hL (zS_t (zS_t hS)) hW hV h1 h2
  refine lv_icmp_lt hC.1 hC.2.1 d ht (fun q => kt ?_) (fun q => kf ?_)
  · exact hh.1 ((z_lt ha hb).mp q)
  · exact hh.2 (fun z => q ((z_lt ha hb).mpr z))
theorem r_icmp_ge {a b off : Int} {A B : Option (zR × zS)} (tgt : Nat) (d : decode K.2.1 pc = .ok (.if_icmp .ge off, 3)) (ht : (pc : Int) + off = (tgt : Int)) (h : zo (if a < b then A else B) Q) (kt : zo B Q → zw g K R tgt L S σ C D Q) (kf : zo A Q → zw g K R (pc + 3) L S σ C D Q) : zw g K R pc L ((0, b) :: (0, a) :: S) σ C D Q := by
  intro p e s m args below meth c H locs cells slots ls hC hl hL hS hW hV h1 h2
  have ha : zI a := zS_1 (zS_t hS)
  have hb : zI b := zS_1 hS
  have hh := zo_if h
  have kt := fun q => kt q p e s m args below meth c H locs cells slots ls hC hl hL (zS_t (zS_t hS)) hW hV h1 h2
  have kf := fun q => kf q p e s m args below meth c H locs cells slots ls hC hl hL (zS_t (zS_t hS)) hW hV h1 h2
  refine lv_icmp_ge hC.1 hC.2.1 d ht (fun q => kt ?_) (fun q => kf ?_)
  · exact hh.2 (fun z => by have z2 := (z_lt ha hb).mpr z; have z2 : (_ : Int32) < _ := z2; rw [Int32.lt_iff_toInt_lt] at z2; rw [Int32.le_iff_toInt_le] at q; exact absurd z2 (Int.not_lt.mpr q))
  · exact hh.1 ((z_lt ha hb).mp (by rw [Int32.le_iff_toInt_le] at q; rw [Int32.lt_iff_toInt_lt]; exact Int.not_le.mp q))
theorem r_icmp_gt {a b off : Int} {A B : Option (zR × zS)} (tgt : Nat) (d : decode K.2.1 pc = .ok (.if_icmp .gt off, 3)) (ht : (pc : Int) + off = (tgt : Int)) (h : zo (if b < a then A else B) Q) (kt : zo A Q → zw g K R tgt L S σ C D Q) (kf : zo B Q → zw g K R (pc + 3) L S σ C D Q) : zw g K R pc L ((0, b) :: (0, a) :: S) σ C D Q := by
  intro p e s m args below meth c H locs cells slots ls hC hl hL hS hW hV h1 h2
  have ha : zI a := zS_1 (zS_t hS)
  have hb : zI b := zS_1 hS
  have hh := zo_if h
  have kt := fun q => kt q p e s m args below meth c H locs cells slots ls hC hl hL (zS_t (zS_t hS)) hW hV h1 h2
  have kf := fun q => kf q p e s m args below meth c H locs cells slots ls hC hl hL (zS_t (zS_t hS)) hW hV h1 h2
  refine lv_icmp_gt hC.1 hC.2.1 d ht (fun q => kt ?_) (fun q => kf ?_)
  · exact hh.1 ((z_lt hb ha).mp q)
  · exact hh.2 (fun z => q ((z_lt hb ha).mpr z))
theorem r_icmp_le {a b off : Int} {A B : Option (zR × zS)} (tgt : Nat) (d : decode K.2.1 pc = .ok (.if_icmp .le off, 3)) (ht : (pc : Int) + off = (tgt : Int)) (h : zo (if b < a then A else B) Q) (kt : zo B Q → zw g K R tgt L S σ C D Q) (kf : zo A Q → zw g K R (pc + 3) L S σ C D Q) : zw g K R pc L ((0, b) :: (0, a) :: S) σ C D Q := by
  intro p e s m args below meth c H locs cells slots ls hC hl hL hS hW hV h1 h2
  have ha : zI a := zS_1 (zS_t hS)
  have hb : zI b := zS_1 hS
  have hh := zo_if h
  have kt := fun q => kt q p e s m args below meth c H locs cells slots ls hC hl hL (zS_t (zS_t hS)) hW hV h1 h2
  have kf := fun q => kf q p e s m args below meth c H locs cells slots ls hC hl hL (zS_t (zS_t hS)) hW hV h1 h2
  refine lv_icmp_le hC.1 hC.2.1 d ht (fun q => kt ?_) (fun q => kf ?_)
  · exact hh.2 (fun z => by have z2 := (z_lt hb ha).mpr z; have z2 : (_ : Int32) < _ := z2; rw [Int32.lt_iff_toInt_lt] at z2; rw [Int32.le_iff_toInt_le] at q; exact absurd z2 (Int.not_lt.mpr q))
  · exact hh.1 ((z_lt hb ha).mp (by rw [Int32.le_iff_toInt_le] at q; rw [Int32.lt_iff_toInt_lt]; exact Int.not_le.mp q))
theorem r_icmp_eq {a b off : Int} {A B : Option (zR × zS)} (tgt : Nat) (d : decode K.2.1 pc = .ok (.if_icmp .eq off, 3)) (ht : (pc : Int) + off = (tgt : Int)) (h : zo (if a = b then A else B) Q) (kt : zo A Q → zw g K R tgt L S σ C D Q) (kf : zo B Q → zw g K R (pc + 3) L S σ C D Q) : zw g K R pc L ((0, b) :: (0, a) :: S) σ C D Q := by
  intro p e s m args below meth c H locs cells slots ls hC hl hL hS hW hV h1 h2
  have ha : zI a := zS_1 (zS_t hS)
  have hb : zI b := zS_1 hS
  have hh := zo_if h
  have kt := fun q => kt q p e s m args below meth c H locs cells slots ls hC hl hL (zS_t (zS_t hS)) hW hV h1 h2
  have kf := fun q => kf q p e s m args below meth c H locs cells slots ls hC hl hL (zS_t (zS_t hS)) hW hV h1 h2
  refine lv_icmp_eq hC.1 hC.2.1 d ht (fun q => kt ?_) (fun q => kf ?_)
  · exact hh.1 ((z_eq ha hb).mp q)
  · exact hh.2 (fun z => q ((z_eq ha hb).mpr z))
theorem r_icmp_ne {a b off : Int} {A B : Option (zR × zS)} (tgt : Nat) (d : decode K.2.1 pc = .ok (.if_icmp .ne off, 3)) (ht : (pc : Int) + off = (tgt : Int)) (h : zo (if a = b then A else B) Q) (kt : zo B Q → zw g K R tgt L S σ C D Q) (kf : zo A Q → zw g K R (pc + 3) L S σ C D Q) : zw g K R pc L ((0, b) :: (0, a) :: S) σ C D Q := by
  intro p e s m args below meth c H locs cells slots ls hC hl hL hS hW hV h1 h2
  have ha : zI a := zS_1 (zS_t hS)
  have hb : zI b := zS_1 hS
  have hh := zo_if h
  have kt := fun q => kt q p e s m args below meth c H locs cells slots ls hC hl hL (zS_t (zS_t hS)) hW hV h1 h2
  have kf := fun q => kf q p e s m args below meth c H locs cells slots ls hC hl hL (zS_t (zS_t hS)) hW hV h1 h2
  refine lv_icmp_ne hC.1 hC.2.1 d ht (fun q => kt ?_) (fun q => kf ?_)
  · exact hh.2 (fun z => q ((z_eq ha hb).mpr z))
  · exact hh.1 ((z_eq ha hb).mp q)
theorem r_if_eq {a off : Int} {A B : Option (zR × zS)} (tgt : Nat) (d : decode K.2.1 pc = .ok (.ifCond .eq off, 3)) (ht : (pc : Int) + off = (tgt : Int)) (h : zo (if a = 0 then A else B) Q) (kt : zo A Q → zw g K R tgt L S σ C D Q) (kf : zo B Q → zw g K R (pc + 3) L S σ C D Q) : zw g K R pc L ((0, a) :: S) σ C D Q := by
  intro p e s m args below meth c H locs cells slots ls hC hl hL hS hW hV h1 h2
  have ha : zI a := zS_1 hS
  have hh := zo_if h
  have kt := fun q => kt q p e s m args below meth c H locs cells slots ls hC hl hL (zS_t hS) hW hV h1 h2
  have kf := fun q => kf q p e s m args below meth c H locs cells slots ls hC hl hL (zS_t hS) hW hV h1 h2
  refine lv_if_eq hC.1 hC.2.1 d ht (fun q => kt ?_) (fun q => kf ?_)
  · exact hh.1 ((z_eq ha zI_0).mp q)
  · exact hh.2 (fun z => q ((z_eq ha zI_0).mpr z))
theorem r_if_ne {a off : Int} {A B : Option (zR × zS)} (tgt : Nat) (d : decode K.2.1 pc = .ok (.ifCond .ne off, 3)) (ht : (pc : Int) + off = (tgt : Int)) (h : zo (if a = 0 then A else B) Q) (kt : zo B Q → zw g K R tgt L S σ C D Q) (kf : zo A Q → zw g K R (pc + 3) L S σ C D Q) : zw g K R pc L ((0, a) :: S) σ C D Q := by
  intro p e s m args below meth c H locs cells slots ls hC hl hL hS hW hV h1 h2
  have ha : zI a := zS_1 hS
  have hh := zo_if h
  have kt := fun q => kt q p e s m args below meth c H locs cells slots ls hC hl hL (zS_t hS) hW hV h1 h2
  have kf := fun q => kf q p e s m args below meth c H locs cells slots ls hC hl hL (zS_t hS) hW hV h1 h2
  refine lv_if_ne hC.1 hC.2.1 d ht (fun q => kt ?_) (fun q => kf ?_)
  · exact hh.2 (fun z => q ((z_eq ha zI_0).mpr z))
  · exact hh.1 ((z_eq ha zI_0).mp q)
theorem r_if_lt {a off : Int} {A B : Option (zR × zS)} (tgt : Nat) (d : decode K.2.1 pc = .ok (.ifCond .lt off, 3)) (ht : (pc : Int) + off = (tgt : Int)) (h : zo (if a < 0 then A else B) Q) (kt : zo A Q → zw g K R tgt L S σ C D Q) (kf : zo B Q → zw g K R (pc + 3) L S σ C D Q) : zw g K R pc L ((0, a) :: S) σ C D Q := by
  intro p e s m args below meth c H locs cells slots ls hC hl hL hS hW hV h1 h2
  have ha : zI a := zS_1 hS
  have hh := zo_if h
  have kt := fun q => kt q p e s m args below meth c H locs cells slots ls hC hl hL (zS_t hS) hW hV h1 h2
  have kf := fun q => kf q p e s m args below meth c H locs cells slots ls hC hl hL (zS_t hS) hW hV h1 h2
  refine lv_if_lt hC.1 hC.2.1 d ht (fun q => kt ?_) (fun q => kf ?_)
  · exact hh.1 ((z_lt ha zI_0).mp q)
  · exact hh.2 (fun z => q ((z_lt ha zI_0).mpr z))
theorem r_if_ge {a off : Int} {A B : Option (zR × zS)} (tgt : Nat) (d : decode K.2.1 pc = .ok (.ifCond .ge off, 3)) (ht : (pc : Int) + off = (tgt : Int)) (h : zo (if a < 0 then A else B) Q) (kt : zo B Q → zw g K R tgt L S σ C D Q) (kf : zo A Q → zw g K R (pc + 3) L S σ C D Q) : zw g K R pc L ((0, a) :: S) σ C D Q := by
  intro p e s m args below meth c H locs cells slots ls hC hl hL hS hW hV h1 h2
  have ha : zI a := zS_1 hS
  have hh := zo_if h
  have kt := fun q => kt q p e s m args below meth c H locs cells slots ls hC hl hL (zS_t hS) hW hV h1 h2
  have kf := fun q => kf q p e s m args below meth c H locs cells slots ls hC hl hL (zS_t hS) hW hV h1 h2
  refine lv_if_ge hC.1 hC.2.1 d ht (fun q => kt ?_) (fun q => kf ?_)
  · exact hh.2 (fun z => by have z2 := (z_lt ha zI_0).mpr z; have z2 : (_ : Int32) < _ := z2; rw [Int32.lt_iff_toInt_lt] at z2; rw [Int32.le_iff_toInt_le] at q; exact absurd z2 (Int.not_lt.mpr q))
  · exact hh.1 ((z_lt ha zI_0).mp (by rw [Int32.le_iff_toInt_le] at q; rw [Int32.lt_iff_toInt_lt]; exact Int.not_le.mp q))
theorem r_if_gt {a off : Int} {A B : Option (zR × zS)} (tgt : Nat) (d : decode K.2.1 pc = .ok (.ifCond .gt off, 3)) (ht : (pc : Int) + off = (tgt : Int)) (h : zo (if 0 < a then A else B) Q) (kt : zo A Q → zw g K R tgt L S σ C D Q) (kf : zo B Q → zw g K R (pc + 3) L S σ C D Q) : zw g K R pc L ((0, a) :: S) σ C D Q := by
  intro p e s m args below meth c H locs cells slots ls hC hl hL hS hW hV h1 h2
  have ha : zI a := zS_1 hS
  have hh := zo_if h
  have kt := fun q => kt q p e s m args below meth c H locs cells slots ls hC hl hL (zS_t hS) hW hV h1 h2
  have kf := fun q => kf q p e s m args below meth c H locs cells slots ls hC hl hL (zS_t hS) hW hV h1 h2
  refine lv_if_gt hC.1 hC.2.1 d ht (fun q => kt ?_) (fun q => kf ?_)
  · exact hh.1 ((z_lt zI_0 ha).mp q)
  · exact hh.2 (fun z => q ((z_lt zI_0 ha).mpr z))
theorem r_if_le {a off : Int} {A B : Option (zR × zS)} (tgt : Nat) (d : decode K.2.1 pc = .ok (.ifCond .le off, 3)) (ht : (pc : Int) + off = (tgt : Int)) (h : zo (if 0 < a then A else B) Q) (kt : zo B Q → zw g K R tgt L S σ C D Q) (kf : zo A Q → zw g K R (pc + 3) L S σ C D Q) : zw g K R pc L ((0, a) :: S) σ C D Q := by
  intro p e s m args below meth c H locs cells slots ls hC hl hL hS hW hV h1 h2
  have ha : zI a := zS_1 hS
  have hh := zo_if h
  have kt := fun q => kt q p e s m args below meth c H locs cells slots ls hC hl hL (zS_t hS) hW hV h1 h2
  have kf := fun q => kf q p e s m args below meth c H locs cells slots ls hC hl hL (zS_t hS) hW hV h1 h2
  refine lv_if_le hC.1 hC.2.1 d ht (fun q => kt ?_) (fun q => kf ?_)
  · exact hh.2 (fun z => by have z2 := (z_lt zI_0 ha).mpr z; have z2 : (_ : Int32) < _ := z2; rw [Int32.lt_iff_toInt_lt] at z2; rw [Int32.le_iff_toInt_le] at q; exact absurd z2 (Int.not_lt.mpr q))
  · exact hh.1 ((z_lt zI_0 ha).mp (by rw [Int32.le_iff_toInt_le] at q; rw [Int32.lt_iff_toInt_lt]; exact Int.not_le.mp q))
end ZR1
