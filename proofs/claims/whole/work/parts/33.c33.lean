/-! C 33: the desk -/
/-- a name's letters (1 to 26) as one number, to the base b -/
def zcode (b : Int) : List Int → Int := fun l => l.foldl (fun c x => b * c + x) 0
/-- a desk -/
structure zD where
  ru : Int → Int
  an : List (List Int)
  wn : List (List Int)
  T : Int → Int → Int
  li : Int → List zP
  qu : List zP
  ac : Int → Int → Int
  tm : Int
/-- the class's desk at d holds M -/
structure D7 (S : zG) (μ : zM) (d : Int) (M : zD) : Prop where
  sh : DSh S d
  d0 : 0 ≤ d
  ru : ∀ i, 0 ≤ i → i < 5 → μ (d + 1) i = M.ru i
  an0 : μ (d + 2) 1 = (M.an.length : Int)
  an : ∀ (k : Nat) (nm : List Int), M.an[k]? = some nm → μ (d + 3) (k : Int) = zcode 32 nm
  wn0 : μ (d + 4) 1 = (M.wn.length : Int)
  wn : ∀ (k : Nat) (nm : List Int), M.wn[k]? = some nm → μ (d + 5) (k : Int) = zcode 32 nm
  T : ∀ i j, 0 ≤ i → i < 6 → 0 ≤ j → j < 6 → μ (d + 6) (6 * i + j) = M.T i j
  em : μ (d + 8) 1 = 0
  li : ∀ i, 0 ≤ i → i < 6 → RL 7 μ (d + 13 + 2 * i) (M.li i)
  qu : RL 8 μ (d + 10) M.qu
  ac : ∀ i j, 0 ≤ i → i < 6 → 0 ≤ j → j < 5 → μ (d + 12) (5 * i + j) = M.ac i j
  tm : μ d 8 = M.tm
/-- nothing changes but the desk at d -/
def FR (d : Int) (μ μ' : zM) : Prop := ∀ x, (x < d ∨ d + 25 ≤ x) → μ' x = μ x
theorem FR.rf {d : Int} {μ : zM} : FR d μ μ := fun _ _ => rfl
theorem FR.tr {d : Int} {μ μ1 μ2 : zM} (h : FR d μ μ1) (k : FR d μ1 μ2) : FR d μ μ2 := fun x hx => (k x hx).trans (h x hx)
def zup2 (T : Int → Int → Int) (i j v : Int) : Int → Int → Int := fun x y => if x = i ∧ y = j then v else T x y
def zup1 (f : Int → Int) (i v : Int) : Int → Int := fun x => if x = i then v else f x
section C33
variable {S : zG} {μ μ' : zM} {d : Int} {M : zD}
/-- a desk elsewhere stays -/
theorem D7.keep (h : D7 S μ d M) (hf : ∀ x, d ≤ x → x < d + 25 → μ' x = μ x) : D7 S μ' d M where
  sh := h.sh
  d0 := h.d0
  ru := fun i h1 h2 => by rw [hf _ (by omega) (by omega)]; exact h.ru i h1 h2
  an0 := by rw [hf _ (by omega) (by omega)]; exact h.an0
  an := fun k nm hk => by rw [hf _ (by omega) (by omega)]; exact h.an k nm hk
  wn0 := by rw [hf _ (by omega) (by omega)]; exact h.wn0
  wn := fun k nm hk => by rw [hf _ (by omega) (by omega)]; exact h.wn k nm hk
  T := fun i j h1 h2 h3 h4 => by rw [hf _ (by omega) (by omega)]; exact h.T i j h1 h2 h3 h4
  em := by rw [hf _ (by omega) (by omega)]; exact h.em
  li := fun i h1 h2 => (h.li i h1 h2).frame (fun j => by rw [hf _ (by omega) (by omega)]) (fun j => by rw [hf _ (by omega) (by omega)])
  qu := h.qu.frame (fun j => by rw [hf _ (by omega) (by omega)]) (fun j => by rw [hf _ (by omega) (by omega)])
  ac := fun i j h1 h2 h3 h4 => by rw [hf _ (by omega) (by omega)]; exact h.ac i j h1 h2 h3 h4
  tm := by rw [hf _ (by omega) (by omega)]; exact h.tm
theorem D7.setLi (h : D7 S μ d M) {i : Int} {l : List zP} (h1 : 0 ≤ i) (h2 : i < 6) (hR : RL 7 μ' (d + 13 + 2 * i) l) (hf : ∀ x, x ≠ d + 13 + 2 * i → x ≠ d + 13 + 2 * i + 1 → μ' x = μ x) : D7 S μ' d { M with li := fun j => if j = i then l else M.li j } where
  sh := h.sh
  d0 := h.d0
  ru := fun i h1 h2 => by rw [hf _ (by omega) (by omega)]; exact h.ru i h1 h2
  an0 := by rw [hf _ (by omega) (by omega)]; exact h.an0
  an := fun k nm hk => by rw [hf _ (by omega) (by omega)]; exact h.an k nm hk
  wn0 := by rw [hf _ (by omega) (by omega)]; exact h.wn0
  wn := fun k nm hk => by rw [hf _ (by omega) (by omega)]; exact h.wn k nm hk
  T := fun i j h1 h2 h3 h4 => by rw [hf _ (by omega) (by omega)]; exact h.T i j h1 h2 h3 h4
  em := by rw [hf _ (by omega) (by omega)]; exact h.em
  li := fun j h3 h4 => by
    show RL 7 μ' _ (if j = i then l else M.li j)
    by_cases e : j = i
    · rw [if_pos e, e]; exact hR
    · rw [if_neg e]
      exact (h.li j h3 h4).frame (fun k => by rw [hf _ (by omega) (by omega)]) (fun k => by rw [hf _ (by omega) (by omega)])
  qu := h.qu.frame (fun j => by rw [hf _ (by omega) (by omega)]) (fun j => by rw [hf _ (by omega) (by omega)])
  ac := fun i j h1 h2 h3 h4 => by rw [hf _ (by omega) (by omega)]; exact h.ac i j h1 h2 h3 h4
  tm := by rw [hf _ (by omega) (by omega)]; exact h.tm
theorem D7.setQu (h : D7 S μ d M) {l : List zP} (hR : RL 8 μ' (d + 10) l) (hf : ∀ x, x ≠ d + 10 → x ≠ d + 10 + 1 → μ' x = μ x) : D7 S μ' d { M with qu := l } where
  sh := h.sh
  d0 := h.d0
  ru := fun i h1 h2 => by rw [hf _ (by omega) (by omega)]; exact h.ru i h1 h2
  an0 := by rw [hf _ (by omega) (by omega)]; exact h.an0
  an := fun k nm hk => by rw [hf _ (by omega) (by omega)]; exact h.an k nm hk
  wn0 := by rw [hf _ (by omega) (by omega)]; exact h.wn0
  wn := fun k nm hk => by rw [hf _ (by omega) (by omega)]; exact h.wn k nm hk
  T := fun i j h1 h2 h3 h4 => by rw [hf _ (by omega) (by omega)]; exact h.T i j h1 h2 h3 h4
  em := by rw [hf _ (by omega) (by omega)]; exact h.em
  li := fun i h1 h2 => (h.li i h1 h2).frame (fun j => by rw [hf _ (by omega) (by omega)]) (fun j => by rw [hf _ (by omega) (by omega)])
  qu := hR
  ac := fun i j h1 h2 h3 h4 => by rw [hf _ (by omega) (by omega)]; exact h.ac i j h1 h2 h3 h4
  tm := by rw [hf _ (by omega) (by omega)]; exact h.tm
theorem D7.setT (h : D7 S μ d M) {i j v : Int} (h1 : 0 ≤ i ∧ i < 6) (h2 : 0 ≤ j ∧ j < 6) : D7 S (zup μ (d + 6) (6 * i + j) v) d { M with T := zup2 M.T i j v } where
  sh := h.sh
  d0 := h.d0
  ru := fun i h1 h2 => by rw [zup_b (by omega)]; exact h.ru i h1 h2
  an0 := by rw [zup_b (by omega)]; exact h.an0
  an := fun k nm hk => by rw [zup_b (by omega)]; exact h.an k nm hk
  wn0 := by rw [zup_b (by omega)]; exact h.wn0
  wn := fun k nm hk => by rw [zup_b (by omega)]; exact h.wn k nm hk
  T := fun x y h3 h4 h5 h6 => by
    show _ = if x = i ∧ y = j then v else M.T x y
    by_cases e : x = i ∧ y = j
    · rw [if_pos e, e.1, e.2, zup_at]
    · rw [if_neg e, zup_j (by omega)]
      exact h.T x y h3 h4 h5 h6
  em := by rw [zup_b (by omega)]; exact h.em
  li := fun i h1 h2 => (h.li i h1 h2).frame (fun j => by rw [zup_b (by omega)]) (fun j => by rw [zup_b (by omega)])
  qu := h.qu.frame (fun j => by rw [zup_b (by omega)]) (fun j => by rw [zup_b (by omega)])
  ac := fun i j h1 h2 h3 h4 => by rw [zup_b (by omega)]; exact h.ac i j h1 h2 h3 h4
  tm := by rw [zup_b (by omega)]; exact h.tm
theorem D7.setAc (h : D7 S μ d M) {i j v : Int} (h1 : 0 ≤ i ∧ i < 6) (h2 : 0 ≤ j ∧ j < 5) : D7 S (zup μ (d + 12) (5 * i + j) v) d { M with ac := zup2 M.ac i j v } where
  sh := h.sh
  d0 := h.d0
  ru := fun i h1 h2 => by rw [zup_b (by omega)]; exact h.ru i h1 h2
  an0 := by rw [zup_b (by omega)]; exact h.an0
  an := fun k nm hk => by rw [zup_b (by omega)]; exact h.an k nm hk
  wn0 := by rw [zup_b (by omega)]; exact h.wn0
  wn := fun k nm hk => by rw [zup_b (by omega)]; exact h.wn k nm hk
  T := fun x y h3 h4 h5 h6 => by rw [zup_b (by omega)]; exact h.T x y h3 h4 h5 h6
  em := by rw [zup_b (by omega)]; exact h.em
  li := fun i h1 h2 => (h.li i h1 h2).frame (fun j => by rw [zup_b (by omega)]) (fun j => by rw [zup_b (by omega)])
  qu := h.qu.frame (fun j => by rw [zup_b (by omega)]) (fun j => by rw [zup_b (by omega)])
  ac := fun x y h3 h4 h5 h6 => by
    show _ = if x = i ∧ y = j then v else M.ac x y
    by_cases e : x = i ∧ y = j
    · rw [if_pos e, e.1, e.2, zup_at]
    · rw [if_neg e, zup_j (by omega)]
      exact h.ac x y h3 h4 h5 h6
  tm := by rw [zup_b (by omega)]; exact h.tm
theorem d_trustIn (h : D7 S μ d M) {i j : Int} (hi : 0 ≤ i ∧ i < 6) (hj : 0 ≤ j ∧ j < 6) : f_X1_trustIn d i j (S, μ) = some (.inl (M.T i j), (S, μ)) := by
  rw [c_X1_trustIn h.sh hi hj, h.T i j hi.1 hi.2 hj.1 hj.2]
theorem d_isLinked (h : D7 S μ d M) {i j : Int} (hi : 0 ≤ i ∧ i < 6) (hj : 0 ≤ j ∧ j < 6) : f_X1_isLinked d i j (S, μ) = some (.inl (if M.T i j = -1 then 0 else 1), (S, μ)) := by
  rw [c_X1_isLinked h.sh hi hj, h.T i j hi.1 hi.2 hj.1 hj.2]
theorem d_rule (h : D7 S μ d M) {i : Int} (hi : 0 ≤ i ∧ i < 5) : f_X1_rule d i (S, μ) = some (.inl (M.ru i), (S, μ)) := by
  rw [c_X1_rule h.sh hi, h.ru i hi.1 hi.2]
theorem d_listOf (h : D7 S μ d M) {i : Int} (hi : 0 ≤ i ∧ i < 6) : f_X1_listOf d i (S, μ) = some (.inl (d + 13 + 2 * i), (S, μ)) := c_X1_listOf h.sh hi h.d0
end C33
