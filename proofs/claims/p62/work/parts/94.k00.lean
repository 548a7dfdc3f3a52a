/-! R10: the parse of the law's text -/
section R10
variable {l r w u : List Int} {k b f : Nat} {v y c n a : Int} {X : zD} {t : zTk}
def At (l : List Int) (k : Nat) (r : List Int) : Prop := l.drop k = r
theorem at_get (h : At l k r) (i : Nat) : l[k + i]? = r[i]? := by
  unfold At at h
  rw [← h, List.getElem?_drop]
theorem at_more (h : At l k (w ++ r)) : At l (k + w.length) r := by
  unfold At at h ⊢
  rw [← List.drop_drop, h, List.drop_left]
theorem at_len (h : At l k r) : l.length - k = r.length := by
  unfold At at h
  rw [← h, List.length_drop]
theorem kd_at (h : At l k (v :: r)) (hv : 0 ≤ v) : zkd l k = zks v := by
  have e : l[k]? = some v := at_get h 0
  unfold zkd
  rw [e]
  show zks (zu v) = zks v
  unfold zu
  rw [if_neg (by omega)]
theorem sk_0 (h : ¬ zkd l k = 4) : ∀ f : Nat, zsk l f k = k
  | 0 => rfl
  | f + 1 => if_neg h
theorem sk_1 (h : zkd l k = 4) (h2 : ¬ zkd l (k + 1) = 4) : ∀ f : Nat, 1 ≤ f → zsk l f k = k + 1
  | 0, h3 => absurd h3 (by omega)
  | f + 1, _ => (if_pos h).trans (sk_0 h2 f)
theorem en_at : ∀ (w : List Int) (k f : Nat), w.length ≤ f → (∀ z, z ∈ w → 0 ≤ z ∧ zks z = c) → At l k (w ++ r) → ¬ zkd l (k + w.length) = c → zen l c f k = k + w.length := by
  intro w
  induction w with
  | nil =>
    intro k f _ _ _ h
    cases f with
    | zero => rfl
    | succ f => exact if_neg h
  | cons z w ih =>
    intro k f hf hw h hy
    have hl : (z :: w).length = w.length + 1 := rfl
    cases f with
    | zero => omega
    | succ f =>
      have h1 := hw z List.mem_cons_self
      have h2 : zkd l k = c := (kd_at h h1.1).trans h1.2
      have h3 : At l (k + 1) (w ++ r) := at_more (w := [z]) h
      have h4 := ih (k + 1) f (by omega) (fun y hy => hw y (List.mem_cons_of_mem _ hy)) h3 (by rw [show k + 1 + w.length = k + (z :: w).length by omega]; exact hy)
      show (if zkd l k = c then zen l c f (k + 1) else k) = _
      rw [if_pos h2, h4]
      omega
/-- the next token is w -/
def Tw (l : List Int) (k : Nat) (c : Int) (w : List Int) (b : Nat) (r : List Int) : Prop := ztk l k = (c, b, b + w.length) ∧ zsg l (ztk l k) = w ∧ At l (b + w.length) r
theorem tok (hc : c = 1 ∨ c = 2) (hw : ∀ z, z ∈ w → 0 ≤ z ∧ zks z = c) (hn : ¬ w = []) (hy : 0 ≤ y ∧ ¬ zks y = c) (h : At l k (w ++ y :: r)) : Tw l k c w k (y :: r) := by
  cases w with
  | nil => exact absurd rfl hn
  | cons z w =>
    have h1 := hw z List.mem_cons_self
    have h2 : zkd l k = c := (kd_at h h1.1).trans h1.2
    have h3 : At l (k + 1) (w ++ y :: r) := at_more (w := [z]) h
    have h4 := at_more h
    have hl : (z :: w).length = w.length + 1 := rfl
    have h5 : zkd l (k + 1 + w.length) = zks y := by
      rw [show k + 1 + w.length = k + (z :: w).length by omega]
      exact kd_at h4 hy.1
    have h6 := at_len h
    rw [List.length_append, hl, List.length_cons] at h6
    have e : ztk l k = (c, k, k + (z :: w).length) := by
      unfold ztk
      rw [sk_0 (by rw [h2]; omega), h2, if_neg (by omega), if_neg (by omega), en_at w (k + 1) _ (by omega) (fun y hy => hw y (List.mem_cons_of_mem _ hy)) h3 (by rw [h5]; exact hy.2), hl]
      exact Prod.ext rfl (Prod.ext rfl (by show k + 1 + w.length = k + (w.length + 1); omega))
    refine ⟨e, ?_, h4⟩
    rw [e]
    show (l.drop k).take (k + (z :: w).length - k) = _
    rw [show l.drop k = (z :: w) ++ y :: r from h, show k + (z :: w).length - k = (z :: w).length by omega, List.take_left]
theorem tokS (hc : c = 1 ∨ c = 2) (hw : ∀ z, z ∈ w → 0 ≤ z ∧ zks z = c) (hn : ¬ w = []) (hy : 0 ≤ y ∧ ¬ zks y = c) (h : At l k (32 :: (w ++ y :: r))) : Tw l k c w (k + 1) (y :: r) := by
  have h1 : At l (k + 1) (w ++ y :: r) := at_more (w := [32]) h
  obtain ⟨e, g, m⟩ := tok hc hw hn hy h1
  have h2 : zkd l k = 4 := kd_at h (by decide)
  have h3 : ¬ zkd l (k + 1) = 4 := by
    cases w with
    | nil => exact absurd rfl hn
    | cons z w =>
      rw [kd_at h1 (hw z List.mem_cons_self).1, (hw z List.mem_cons_self).2]
      omega
  have h6 := at_len h
  rw [List.length_cons] at h6
  have e2 : ztk l k = ztk l (k + 1) := by
    unfold ztk
    rw [sk_1 h2 h3 _ (by omega), sk_0 h3]
  exact ⟨e2.trans e, by rw [e2]; exact g, m⟩
theorem tok_semi (h : At l k (59 :: r)) : ztk l k = (3, k, k + 1) ∧ At l (k + 1) r := by
  have h2 : zkd l k = 3 := kd_at h (by decide)
  refine ⟨?_, at_more (w := [59]) h⟩
  unfold ztk
  rw [sk_0 (by rw [h2]; decide), h2]
  rfl
theorem tok_end (h : At l k []) : (ztk l k).1 = 0 := by
  have e : l[k]? = none := at_get h 0
  have h2 : zkd l k = 0 := by
    unfold zkd
    rw [e]
  unfold ztk
  rw [sk_0 (by rw [h2]; decide), h2]
theorem p_end (h : At l k (59 :: r)) : pEnd l X (ztk l k) = .inr (ztk l (k + 1), X) := by
  obtain ⟨e, _⟩ := tok_semi h
  have g : l[k]? = some 59 := at_get h 0
  unfold pEnd pSemi
  rw [e]
  show pBnd (if (3 : Int) = 3 ∧ l[k]? = some 59 then .inr (ztk l (k + 1)) else .inl (1, k)) _ = _
  rw [if_pos ⟨rfl, g⟩]
  rfl
theorem nv_dgt (hn : 0 ≤ n ∧ n < 1000) : znv (zdgt n) = n := by
  by_cases h1 : n < 10
  · rw [zdgt1 h1]
    show 10 * 0 + (48 + n - 48) = n
    omega
  · by_cases h2 : n < 100
    · rw [zdgt2 h1 h2]
      show 10 * (10 * 0 + (48 + n / 10 - 48)) + (48 + n % 10 - 48) = n
      omega
    · rw [zdgt3 h2]
      show 10 * (10 * (10 * 0 + (48 + n / 100 - 48)) + (48 + n / 10 % 10 - 48)) + (48 + n % 10 - 48) = n
      omega
theorem dgt_k (hn : 0 ≤ n ∧ n < 1000) : (∀ z, z ∈ zdgt n → 0 ≤ z ∧ zks z = 2) ∧ ¬ zdgt n = [] := by
  refine ⟨fun z hz => ?_, fun e => ?_⟩
  · have := dc_g hn z hz
    refine ⟨by omega, ?_⟩
    unfold zks
    rw [if_neg (by omega), if_pos (by omega)]
  · have := dc_len hn
    rw [e] at this
    exact absurd this.1 (by decide)
theorem kw_k : ∀ i : Fin 11, (∀ z, z ∈ zwrd (i : Nat) → 0 ≤ z ∧ zks z = 1) ∧ ¬ zwrd (i : Nat) = [] ∧ 3 ≤ (zwrd (i : Nat)).length := by decide +kernel
theorem kw_ne : ∀ i j : Fin 11, zwrd (i : Nat) = zwrd (j : Nat) → i = j := by decide +kernel
theorem w_eq : zwrd 11 = zwrd 0 ++ 32 :: (zwrd 1 ++ [32]) ∧ zwrd 12 = 32 :: (zwrd 2 ++ [32]) ∧ zwrd 13 = 32 :: (zwrd 3 ++ [32]) ∧ zwrd 14 = 32 :: (zwrd 4 ++ [32]) ∧ zwrd 15 = 32 :: (zwrd 5 ++ [32]) ∧ zwrd 16 = [59] ∧ zwrd 17 = zwrd 6 ++ [32, 97] ∧ zwrd 18 = zwrd 7 ++ [32, 119] ∧ zwrd 19 = zwrd 8 ++ [32, 97] ∧ zwrd 20 = [32, 97] ∧ zwrd 21 = 32 :: (zwrd 9 ++ [32]) ∧ zwrd 22 = zwrd 10 ++ [32, 97] ∧ zwrd 23 = [32, 119] ∧ zwrd 24 = [32] := by decide +kernel
/-- a number in its place -/
theorem p_num (h : Tw l k 2 (zdgt n) b r) (hn : 0 ≤ n ∧ n < 1000) {lo hi : Int} (hb : lo ≤ n ∧ n ≤ hi) : pNum l lo hi (ztk l k) = .inr (ztk l (b + (zdgt n).length)) ∧ znv (zsg l (ztk l k)) = n := by
  obtain ⟨e, g, _⟩ := h
  have e2 : znv (zsg l (ztk l k)) = n := by rw [g]; exact nv_dgt hn
  refine ⟨?_, e2⟩
  unfold pNum
  rw [e2, if_pos hb, e]
  exact if_pos rfl
theorem p_word (h : Tw l k 1 (zwrd f) b r) : pWord l f (ztk l k) = .inr (ztk l (b + (zwrd f).length)) := by
  obtain ⟨e, g, _⟩ := h
  unfold pWord
  rw [if_pos ⟨by rw [e], g⟩, e]
theorem no_kw {i : Nat} (h : Tw l k 1 w b r) (hw : w.length = 2) (hi : i < 11) : ¬ ziw l (ztk l k) i := by
  intro z
  have z1 := z.2
  rw [h.2.1] at z1
  have z2 := (kw_k ⟨i, hi⟩).2.2
  dsimp only at z2
  rw [← z1] at z2
  omega
theorem is_nm (h : Tw l k 1 w b r) (hw : w.length = 2) : zisN l (ztk l k) := by
  refine ⟨by rw [h.1], ?_, ?_⟩
  · rw [h.1]
    show b + w.length - b ≤ 6
    omega
  · rintro ⟨i, hi, z⟩
    exact no_kw h hw hi z
theorem p_told (h : Tw l k 1 w b r) (hw : w.length = 2) {ns : List (List Int)} (hz : zni (znm w) ns 0 = v) (hv : ¬ v = -1) : pTold l ns (ztk l k) = .inr v := by
  unfold pTold
  rw [if_pos (is_nm h hw), h.2.1, hz, if_neg hv]
/-- the names -/
def zan (n : Nat) : List (List Int) := (List.range n).map (fun k : Nat => [1, 1 + (k : Int)])
def zwn (n : Nat) : List (List Int) := (List.range n).map (fun k : Nat => [23, 1 + (k : Int)])
theorem zan_s (n : Nat) : zan (n + 1) = zan n ++ [[1, 1 + (n : Int)]] := by
  unfold zan
  rw [List.range_succ, List.map_append]
  rfl
theorem zwn_s (n : Nat) : zwn (n + 1) = zwn n ++ [[23, 1 + (n : Int)]] := by
  unfold zwn
  rw [List.range_succ, List.map_append]
  rfl
theorem zan_l (n : Nat) : (zan n).length = n := by
  unfold zan
  rw [List.length_map, List.length_range]
theorem zwn_l (n : Nat) : (zwn n).length = n := by
  unfold zwn
  rw [List.length_map, List.length_range]
theorem ni_fin : ∀ n a : Fin 7, zni [1, 1 + ((a : Nat) : Int)] (zan (n : Nat)) 0 = (if (a : Nat) < (n : Nat) then ((a : Nat) : Int) else -1) ∧ zni [23, 1 + ((a : Nat) : Int)] (zwn (n : Nat)) 0 = (if (a : Nat) < (n : Nat) then ((a : Nat) : Int) else -1) := by decide +kernel
theorem ni_an {n a : Nat} (hn : n ≤ 6) (ha : a ≤ 6) : zni [1, 1 + (a : Int)] (zan n) 0 = (if a < n then (a : Int) else -1) ∧ zni [23, 1 + (a : Int)] (zwn n) 0 = (if a < n then (a : Int) else -1) := ni_fin ⟨n, by omega⟩ ⟨a, by omega⟩
theorem nm_2 (c d : Int) : znm [c, 97 + d] = [c - 96, 1 + d] := by
  show [c - 96, 97 + d - 96] = _
  rw [show 97 + d - 96 = 1 + d by omega]
theorem lt_k {c : Nat} (ha : c ≤ 20) {x : Int} (hx : x = 97 ∨ x = 119) : ∀ z, z ∈ [x, 97 + (c : Int)] → 0 ≤ z ∧ zks z = 1 := by
  intro z hz
  have h : 97 ≤ z ∧ z ≤ 122 := by
    rcases List.mem_cons.mp hz with h | h
    · omega
    · have := List.mem_singleton.mp h
      omega
  refine ⟨by omega, ?_⟩
  unfold zks
  rw [if_pos h]
/-- statements: what kind, and four numbers -/
abbrev zSt : Type := Nat × Nat × Nat × Int × Int
noncomputable def zxec (X : zD) (s : zSt) : zD := match s.1 with
  | 0 => X.wan (X.an ++ [[1, 1 + (s.2.1 : Int)]])
  | 1 => X.wwn (X.wn ++ [[23, 1 + (s.2.1 : Int)]])
  | 2 => X.wT (zup2 (zup2 X.T (s.2.1 : Int) (s.2.2.1 : Int) s.2.2.2.1) (s.2.2.1 : Int) (s.2.1 : Int) s.2.2.2.1)
  | _ => (X.prb (s.2.1 : Int) (s.2.2.1 : Int) s.2.2.2.1 s.2.2.2.2).1
def zok1 (X : zD) (s : zSt) : Prop := match s.1 with
  | 0 => s.2.1 < 6 ∧ X.an = zan s.2.1
  | 1 => s.2.1 < 6 ∧ X.wn = zwn s.2.1
  | 2 => ∃ n : Nat, n ≤ 6 ∧ X.an = zan n ∧ s.2.1 < n ∧ s.2.2.1 < n ∧ ¬ s.2.1 = s.2.2.1 ∧ X.T (s.2.1 : Int) (s.2.2.1 : Int) = -1 ∧ 0 ≤ s.2.2.2.1 ∧ s.2.2.2.1 ≤ 10
  | _ => ∃ n m : Nat, n ≤ 6 ∧ m ≤ 6 ∧ X.an = zan n ∧ X.wn = zwn m ∧ s.2.1 < n ∧ s.2.2.1 < m ∧ 0 ≤ s.2.2.2.1 ∧ s.2.2.2.1 ≤ s.2.2.2.2 ∧ s.2.2.2.2 ≤ 999
def zrnd (s : zSt) : List Int := match s.1 with
  | 0 => zwrd 17 ++ [97 + (s.2.1 : Int)] ++ zwrd 16
  | 1 => zwrd 18 ++ [97 + (s.2.1 : Int)] ++ zwrd 16
  | 2 => zwrd 19 ++ [97 + (s.2.1 : Int)] ++ zwrd 20 ++ [97 + (s.2.2.1 : Int)] ++ zwrd 21 ++ zdgt s.2.2.2.1 ++ zwrd 16
  | _ => zwrd 22 ++ [97 + (s.2.1 : Int)] ++ zwrd 23 ++ [97 + (s.2.2.1 : Int)] ++ zwrd 24 ++ zdgt s.2.2.2.1 ++ zwrd 24 ++ zdgt s.2.2.2.2 ++ zwrd 16
theorem st_0 (ag : Bool) {i : Nat} (hi : i < 11) (x : Int) (hx : x = 97 ∨ x = 119) {a : Nat} (ha : a < 6) (hl : ¬ (X.nms ag).length = 6) (hz : zni [x - 96, 1 + (a : Int)] (X.nms ag) 0 = -1) (h : At l k (zwrd i ++ 32 :: x :: (97 + (a : Int)) :: 59 :: r)) : ziw l (ztk l k) i ∧ (ztk l k).1 = 1 ∧ ∃ k', pNew l ag X (ztk l k) = .inr (ztk l k', X.ads [x - 96, 1 + (a : Int)] ag) ∧ At l k' r := by
  have kw := kw_k ⟨i, hi⟩
  have t1 := tok (Or.inl rfl) kw.1 kw.2.1 (y := 32) (by decide) h
  have t2 := tokS (w := [x, 97 + (a : Int)]) (y := 59) (r := r) (Or.inl rfl) (lt_k (by omega) hx) (by simp) (by decide) t1.2.2
  have e2 : (ztk l k).2.2 = k + (zwrd i).length := by rw [t1.1]
  have e3 : (ztk l (k + (zwrd i).length)).2.2 = k + (zwrd i).length + 1 + [x, 97 + (a : Int)].length := by rw [t2.1]
  refine ⟨⟨by rw [t1.1], t1.2.1⟩, by rw [t1.1], _, ?_, (tok_semi t2.2.2).2⟩
  unfold pNew
  rw [if_neg hl, e2, if_pos (is_nm t2 rfl), t2.2.1, nm_2, if_pos hz, e3]
  exact p_end t2.2.2
theorem no_iw {i j : Nat} (hi : i < 11) (hj : j < 11) (h : ziw l t i) (hne : ¬ i = j) : ¬ ziw l t j := by
  intro z
  have e := kw_ne ⟨i, hi⟩ ⟨j, hj⟩ (h.2.symm.trans z.2)
  exact hne (Fin.mk.inj e)
theorem st_agent {a : Nat} (ha : a < 6) (hX : X.an = zan a) (h : At l k (zrnd (0, a, 0, 0, 0) ++ r)) : ¬ (ztk l k).1 = 0 ∧ ∃ k', pStat l X (ztk l k) = .inr (ztk l k', zxec X (0, a, 0, 0, 0)) ∧ At l k' r := by
  have w := w_eq
  have e : zrnd (0, a, 0, 0, 0) ++ r = zwrd 6 ++ 32 :: 97 :: (97 + (a : Int)) :: 59 :: r := by
    show zwrd 17 ++ [97 + (a : Int)] ++ zwrd 16 ++ r = _
    rw [w.2.2.2.2.2.1, w.2.2.2.2.2.2.1]
    simp only [List.append_assoc, List.cons_append, List.nil_append]
  rw [e] at h
  obtain ⟨h1, h2, k', h3, h4⟩ := st_0 (X := X) true (by decide) 97 (Or.inl rfl) ha (by show ¬ X.an.length = 6; rw [hX, zan_l]; omega) (by show zni _ X.an 0 = -1; rw [hX]; exact ((ni_an (n := a) (a := a) (by omega) (by omega)).1).trans (if_neg (by omega))) h
  refine ⟨by omega, k', ?_, h4⟩
  unfold pStat
  rw [if_pos h1]
  exact h3
theorem st_way {a : Nat} (ha : a < 6) (hX : X.wn = zwn a) (h : At l k (zrnd (1, a, 0, 0, 0) ++ r)) : ¬ (ztk l k).1 = 0 ∧ ∃ k', pStat l X (ztk l k) = .inr (ztk l k', zxec X (1, a, 0, 0, 0)) ∧ At l k' r := by
  have w := w_eq
  have e : zrnd (1, a, 0, 0, 0) ++ r = zwrd 7 ++ 32 :: 119 :: (97 + (a : Int)) :: 59 :: r := by
    show zwrd 18 ++ [97 + (a : Int)] ++ zwrd 16 ++ r = _
    rw [w.2.2.2.2.2.1, w.2.2.2.2.2.2.2.1]
    simp only [List.append_assoc, List.cons_append, List.nil_append]
  rw [e] at h
  obtain ⟨h1, h2, k', h3, h4⟩ := st_0 (X := X) false (by decide) 119 (Or.inr rfl) ha (by show ¬ X.wn.length = 6; rw [hX, zwn_l]; omega) (by show zni _ X.wn 0 = -1; rw [hX]; exact ((ni_an (n := a) (a := a) (by omega) (by omega)).2).trans (if_neg (by omega))) h
  refine ⟨by omega, k', ?_, h4⟩
  unfold pStat
  rw [if_neg (no_iw (by decide) (by decide) h1 (by decide)), if_pos h1]
  exact h3
theorem st_link {i j n : Nat} {v : Int} (hn : n ≤ 6) (hX : X.an = zan n) (hi : i < n) (hj : j < n) (hij : ¬ i = j) (hT : X.T (i : Int) (j : Int) = -1) (hv : 0 ≤ v ∧ v ≤ 10) (h : At l k (zrnd (2, i, j, v, 0) ++ r)) : ¬ (ztk l k).1 = 0 ∧ ∃ k', pStat l X (ztk l k) = .inr (ztk l k', zxec X (2, i, j, v, 0)) ∧ At l k' r := by
  have w := w_eq
  have e : zrnd (2, i, j, v, 0) ++ r = zwrd 8 ++ 32 :: 97 :: (97 + (i : Int)) :: 32 :: 97 :: (97 + (j : Int)) :: 32 :: (zwrd 9 ++ 32 :: (zdgt v ++ 59 :: r)) := by
    show zwrd 19 ++ [97 + (i : Int)] ++ zwrd 20 ++ [97 + (j : Int)] ++ zwrd 21 ++ zdgt v ++ zwrd 16 ++ r = _
    rw [w.2.2.2.2.2.1, w.2.2.2.2.2.2.2.2.1, w.2.2.2.2.2.2.2.2.2.1, w.2.2.2.2.2.2.2.2.2.2.1]
    simp only [List.append_assoc, List.cons_append, List.nil_append]
  rw [e] at h
  have kw := kw_k ⟨8, by decide⟩
  have kt := kw_k ⟨9, by decide⟩
  have kd := dgt_k (n := v) (by omega)
  have t1 := tok (Or.inl rfl) kw.1 kw.2.1 (y := 32) (by decide) h
  have t2 := tokS (w := [97, 97 + (i : Int)]) (y := 32) (Or.inl rfl) (lt_k (by omega) (Or.inl rfl)) (by simp) (by decide) t1.2.2
  have t3 := tokS (w := [97, 97 + (j : Int)]) (y := 32) (Or.inl rfl) (lt_k (by omega) (Or.inl rfl)) (by simp) (by decide) t2.2.2
  have t4 := tokS (w := zwrd 9) (y := 32) (Or.inl rfl) kt.1 kt.2.1 (by decide) t3.2.2
  have t5 := tokS (w := zdgt v) (y := 59) (Or.inr rfl) kd.1 kd.2 (by decide) t4.2.2
  have iw : ziw l (ztk l k) 8 := ⟨by rw [t1.1], t1.2.1⟩
  refine ⟨by rw [t1.1]; show ¬ (1 : Int) = 0; decide, _, ?_, (tok_semi t5.2.2).2⟩
  have n1 := (ni_an (n := n) (a := i) hn (by omega)).1.trans (if_pos hi)
  have n2 := (ni_an (n := n) (a := j) hn (by omega)).1.trans (if_pos hj)
  have r1 : pTold l X.an (ztk l (k + (zwrd 8).length)) = .inr (i : Int) := p_told t2 rfl (by rw [nm_2, hX]; exact n1) (by omega)
  have e1 : (ztk l k).2.2 = k + (zwrd 8).length := by rw [t1.1]
  have e2 : (ztk l (k + (zwrd 8).length)).2.2 = k + (zwrd 8).length + 1 + [97, 97 + (i : Int)].length := by rw [t2.1]
  have r2 := p_told (ns := X.an) (v := (j : Int)) t3 rfl (by rw [nm_2, hX]; exact n2) (by omega)
  unfold pStat
  rw [if_neg (no_iw (by decide) (by decide) iw (by decide)), if_neg (no_iw (by decide) (by decide) iw (by decide)), if_pos iw]
  unfold pLink
  rw [e1, r1, e2]
  show pBnd (pTold l X.an (ztk l (k + (zwrd 8).length + 1 + [97, 97 + (i : Int)].length))) (fun j' => if j' = (i : Int) ∨ ¬ X.T (i : Int) j' = -1 then _ else pLnT l X (i : Int) j' (ztk l (ztk l (k + (zwrd 8).length + 1 + [97, 97 + (i : Int)].length)).2.2)) = _
  rw [r2]
  show (if (j : Int) = (i : Int) ∨ ¬ X.T (i : Int) (j : Int) = -1 then _ else pLnT l X (i : Int) (j : Int) (ztk l (ztk l (k + (zwrd 8).length + 1 + [97, 97 + (i : Int)].length)).2.2)) = _
  rw [if_neg (fun z => z.elim (fun z => by omega) (fun z => z hT)), t3.1]
  show pLnT l X (i : Int) (j : Int) (ztk l (k + (zwrd 8).length + 1 + [97, 97 + (i : Int)].length + 1 + [97, 97 + (j : Int)].length)) = _
  unfold pLnT
  rw [if_pos ⟨by rw [t4.1], t4.2.1⟩, t4.1]
  obtain ⟨p1, p2⟩ := p_num t5 (by omega) hv
  show pBnd (pNum l 0 10 (ztk l _)) (fun t5 => pLnk l X (i : Int) (j : Int) (znv (zsg l (ztk l _))) t5) = _
  rw [p1, p2]
  show pLnk l X (i : Int) (j : Int) v (ztk l _) = _
  unfold pLnk
  exact p_end t5.2.2
theorem st_probe {i j n m : Nat} {lo hi : Int} (hn : n ≤ 6) (hm : m ≤ 6) (hX : X.an = zan n) (hW : X.wn = zwn m) (hi1 : i < n) (hj : j < m) (hv : 0 ≤ lo ∧ lo ≤ hi ∧ hi ≤ 999) (h : At l k (zrnd (3, i, j, lo, hi) ++ r)) : ¬ (ztk l k).1 = 0 ∧ ∃ k', pStat l X (ztk l k) = .inr (ztk l k', zxec X (3, i, j, lo, hi)) ∧ At l k' r := by
  have w := w_eq
  have e : zrnd (3, i, j, lo, hi) ++ r = zwrd 10 ++ 32 :: 97 :: (97 + (i : Int)) :: 32 :: 119 :: (97 + (j : Int)) :: 32 :: (zdgt lo ++ 32 :: (zdgt hi ++ 59 :: r)) := by
    show zwrd 22 ++ [97 + (i : Int)] ++ zwrd 23 ++ [97 + (j : Int)] ++ zwrd 24 ++ zdgt lo ++ zwrd 24 ++ zdgt hi ++ zwrd 16 ++ r = _
    rw [w.2.2.2.2.2.1, w.2.2.2.2.2.2.2.2.2.2.2.1, w.2.2.2.2.2.2.2.2.2.2.2.2.1, w.2.2.2.2.2.2.2.2.2.2.2.2.2]
    simp only [List.append_assoc, List.cons_append, List.nil_append]
  rw [e] at h
  have kw := kw_k ⟨10, by decide⟩
  have k1 := dgt_k (n := lo) (by omega)
  have k2 := dgt_k (n := hi) (by omega)
  have t1 := tok (Or.inl rfl) kw.1 kw.2.1 (y := 32) (by decide) h
  have t2 := tokS (w := [97, 97 + (i : Int)]) (y := 32) (Or.inl rfl) (lt_k (by omega) (Or.inl rfl)) (by simp) (by decide) t1.2.2
  have t3 := tokS (w := [119, 97 + (j : Int)]) (y := 32) (Or.inl rfl) (lt_k (by omega) (Or.inr rfl)) (by simp) (by decide) t2.2.2
  have t4 := tokS (w := zdgt lo) (y := 32) (Or.inr rfl) k1.1 k1.2 (by decide) t3.2.2
  have t5 := tokS (w := zdgt hi) (y := 59) (Or.inr rfl) k2.1 k2.2 (by decide) t4.2.2
  have iw : ziw l (ztk l k) 10 := ⟨by rw [t1.1], t1.2.1⟩
  refine ⟨by rw [t1.1]; show ¬ (1 : Int) = 0; decide, _, ?_, (tok_semi t5.2.2).2⟩
  have n1 := (ni_an (n := n) (a := i) hn (by omega)).1.trans (if_pos hi1)
  have n2 := (ni_an (n := m) (a := j) hm (by omega)).2.trans (if_pos hj)
  have r1 : pTold l X.an (ztk l (k + (zwrd 10).length)) = .inr (i : Int) := p_told t2 rfl (by rw [nm_2, hX]; exact n1) (by omega)
  have e1 : (ztk l k).2.2 = k + (zwrd 10).length := by rw [t1.1]
  have e2 : (ztk l (k + (zwrd 10).length)).2.2 = k + (zwrd 10).length + 1 + [97, 97 + (i : Int)].length := by rw [t2.1]
  have r2 := p_told (ns := X.wn) (v := (j : Int)) t3 rfl (by rw [nm_2, hW]; exact n2) (by omega)
  unfold pStat
  rw [if_neg (no_iw (by decide) (by decide) iw (by decide)), if_neg (no_iw (by decide) (by decide) iw (by decide)), if_neg (no_iw (by decide) (by decide) iw (by decide)), if_pos iw]
  unfold pProbe
  rw [e1, r1, e2]
  show pBnd (pTold l X.wn (ztk l (k + (zwrd 10).length + 1 + [97, 97 + (i : Int)].length))) (fun w' => pPrN l X (i : Int) w' (ztk l (ztk l (k + (zwrd 10).length + 1 + [97, 97 + (i : Int)].length)).2.2)) = _
  rw [r2]
  show pPrN l X (i : Int) (j : Int) (ztk l (ztk l (k + (zwrd 10).length + 1 + [97, 97 + (i : Int)].length)).2.2) = _
  rw [t3.1]
  show pPrN l X (i : Int) (j : Int) (ztk l (k + (zwrd 10).length + 1 + [97, 97 + (i : Int)].length + 1 + [119, 97 + (j : Int)].length)) = _
  unfold pPrN
  obtain ⟨p1, p2⟩ := p_num (lo := 0) (hi := 999) t4 (by omega) (by omega)
  obtain ⟨q1, q2⟩ := p_num (lo := lo) (hi := 999) t5 (by omega) (by omega)
  rw [p1, p2]
  show pBnd (pNum l lo 999 (ztk l _)) (fun t5 => pEnd l (X.prb (i : Int) (j : Int) lo (znv (zsg l (ztk l _)))).1 t5) = _
  rw [q1, q2]
  exact p_end t5.2.2
end R10
