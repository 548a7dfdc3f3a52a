/-! C 33: steps of walking, the desk -/
section C33a
variable {S : zG} {μ : zM} {a i v : Int} {ci k : Nat} {F : Int → zFn} {G : zS → zFn} {Q : zR × zS → Prop} {A B : zFn}
theorem zo_pos {c : Prop} {hd : Decidable c} (h : c) (q : zo A Q) : zo (@ite _ c hd A B) Q := by rw [if_pos h]; exact q
theorem zo_neg {c : Prop} {hd : Decidable c} (h : ¬ c) (q : zo B Q) : zo (@ite _ c hd A B) Q := by rw [if_neg h]; exact q
theorem zo_ite {c : Prop} {hd : Decidable c} (h : c → zo A Q) (q : ¬ c → zo B Q) : zo (@ite _ c hd A B) Q := by
  by_cases e : c
  · exact zo_pos e (h e)
  · exact zo_neg e (q e)
theorem zo_rt {r : zR × zS} (h : Q r) : zo (some r) Q := ⟨r, rfl, h⟩
theorem zo_un {r : zR × zS} (h : zo A (fun x => x = r)) : A = some r := by
  obtain ⟨x, e, hx⟩ := h
  rw [e, hx]
theorem zo_mono {P : zR × zS → Prop} (h : zo A P) (k : ∀ r, P r → Q r) : zo A Q := by
  obtain ⟨r, e, hr⟩ := h
  exact ⟨r, e, k r hr⟩
theorem zo_bn {v : Int} {τ : zS} {H : Int → zS → zFn} (e : A = some (.inl v, τ)) (q : zo (H v τ) Q) : zo (zbn A H) Q := by rw [e]; exact q
theorem zo_gf {x j : Int} (h : S.1 a = some (0, x)) (hv : μ a j = v) (hc : (ci : Int) = x) (hj : (k : Int) = j) (q : zo (F v) Q) : zo (zgf ci k a (S, μ) F) Q := by
  subst hc
  rw [e_gf j h hj, hv]
  exact q
theorem zo_gr {x j r : Int} (h : S.1 a = some (0, x)) (hr : S.2.1 a j = r) (hc : (ci : Int) = x) (hj : (k : Int) = j) (q : zo (F r) Q) : zo (zgr ci k a (S, μ) F) Q := by
  subst hc
  rw [← hj] at hr
  rw [e_gr h hr]
  exact q
theorem zo_pf {x : Int} (j : Int) (h : S.1 a = some (0, x)) (hc : (ci : Int) = x) (hj : (k : Int) = j) (q : zo (G (S, zup μ a j v)) Q) : zo (zpf ci k a v (S, μ) G) Q := by
  subst hc
  subst hj
  rw [e_pf h]
  exact q
theorem zo_ob {x : Int} (h : S.1 a = some (0, x)) (hc : (ci : Int) = x) (q : zo A Q) : zo (zob ci a (S, μ) A) Q := by
  subst hc
  rw [e_ob h]
  exact q
theorem zo_ld {t : Nat} {n : Int} (h : S.1 a = some (t, n)) (hi : 0 ≤ i ∧ i < n) (hv : μ a i = v) (q : zo (F v) Q) : zo (zld t a i (S, μ) F) Q := by rw [e_ld h hi, hv]; exact q
theorem zo_lr {t : Nat} {n r : Int} (h : S.1 a = some (t, n)) (hi : 0 ≤ i ∧ i < n) (hr : S.2.1 a i = r) (q : zo (F r) Q) : zo (zlr t a i (S, μ) F) Q := by rw [e_lr h hi, hr]; exact q
theorem zo_si {t : Nat} {n : Int} (h : S.1 a = some (t, n)) (hi : 0 ≤ i ∧ i < n) (q : zo (G (S, zup μ a i v)) Q) : zo (zsi t a i v (S, μ) G) Q := by rw [e_si h hi]; exact q
theorem zo_al {t : Nat} {n : Int} (h : S.1 a = some (t + 1, n)) (q : zo (F n) Q) : zo (zal a (S, μ) F) Q := by rw [e_al h]; exact q
theorem zo_lp {β : Type} {F : Nat → β → zFn} (I : β → Prop) (ms : β → Nat) (st : ∀ m b, I b → (∀ b', I b' → ms b' < ms b → zo (F m b') Q) → zo (F (m + 1) b) Q) : ∀ m b, I b → ms b < m → zo (F m b) Q := by
  intro m
  induction m with
  | zero => intro b _ h; exact absurd h (by omega)
  | succ m ih => intro b hb hm; exact st m b hb (fun b' hb' hl => ih b' hb' (by omega))
theorem zo_l1 {α : Type} {F : Nat → α → zFn} (I : α → Prop) (ms : α → Nat) (st : ∀ m a, I a → (∀ a', I a' → ms a' < ms a → zo (F m a') Q) → zo (F (m + 1) a) Q) : ∀ m a, I a → ms a < m → zo (F m a) Q := zo_lp I ms st
theorem zo_l2 {α β : Type} {F : Nat → α → β → zFn} (I : α → β → Prop) (ms : α → β → Nat) (st : ∀ m a b, I a b → (∀ a' b', I a' b' → ms a' b' < ms a b → zo (F m a' b') Q) → zo (F (m + 1) a b) Q) : ∀ m a b, I a b → ms a b < m → zo (F m a b) Q :=
  fun m a b => zo_lp (F := fun m (x : α × β) => F m x.1 x.2) (fun x => I x.1 x.2) (fun x => ms x.1 x.2) (fun m x h ih => st m x.1 x.2 h (fun a' b' => ih (a', b'))) m (a, b)
theorem zo_l3 {α β γ : Type} {F : Nat → α → β → γ → zFn} (I : α → β → γ → Prop) (ms : α → β → γ → Nat) (st : ∀ m a b c, I a b c → (∀ a' b' c', I a' b' c' → ms a' b' c' < ms a b c → zo (F m a' b' c') Q) → zo (F (m + 1) a b c) Q) : ∀ m a b c, I a b c → ms a b c < m → zo (F m a b c) Q :=
  fun m a b c => zo_lp (F := fun m (x : α × β × γ) => F m x.1 x.2.1 x.2.2) (fun x => I x.1 x.2.1 x.2.2) (fun x => ms x.1 x.2.1 x.2.2) (fun m x h ih => st m x.1 x.2.1 x.2.2 h (fun a' b' c' => ih (a', b', c'))) m (a, b, c)
theorem zo_l4 {α β γ δ : Type} {F : Nat → α → β → γ → δ → zFn} (I : α → β → γ → δ → Prop) (ms : α → β → γ → δ → Nat) (st : ∀ m a b c d, I a b c d → (∀ a' b' c' d', I a' b' c' d' → ms a' b' c' d' < ms a b c d → zo (F m a' b' c' d') Q) → zo (F (m + 1) a b c d) Q) : ∀ m a b c d, I a b c d → ms a b c d < m → zo (F m a b c d) Q :=
  fun m a b c d => zo_lp (F := fun m (x : α × β × γ × δ) => F m x.1 x.2.1 x.2.2.1 x.2.2.2) (fun x => I x.1 x.2.1 x.2.2.1 x.2.2.2) (fun x => ms x.1 x.2.1 x.2.2.1 x.2.2.2) (fun m x h ih => st m x.1 x.2.1 x.2.2.1 x.2.2.2 h (fun a' b' c' d' => ih (a', b', c', d'))) m (a, b, c, d)
end C33a
noncomputable def zbl (p : Prop) : Int := @ite _ p (Classical.propDecidable p) 1 0
theorem zbl_p {p : Prop} (h : p) : zbl p = 1 := if_pos h
theorem zbl_n {p : Prop} (h : ¬ p) : zbl p = 0 := if_neg h
theorem zbl_01 (p : Prop) : zbl p = 0 ∨ zbl p = 1 := by
  by_cases h : p
  · exact Or.inr (zbl_p h)
  · exact Or.inl (zbl_n h)
theorem zo_zb {p : Prop} {hd : Decidable (zbl p = 0)} {A B : zFn} {Q : zR × zS → Prop} (h : ¬ p → zo A Q) (q : p → zo B Q) : zo (@ite _ (zbl p = 0) hd A B) Q := by
  by_cases e : p
  · exact zo_neg (by rw [zbl_p e]; decide) (q e)
  · exact zo_pos (zbl_n e) (h e)
theorem zo_zp {p : Prop} {hd : Decidable (zbl p = 0)} {A B : zFn} {Q : zR × zS → Prop} (h : p) (q : zo B Q) : zo (@ite _ (zbl p = 0) hd A B) Q := zo_neg (by rw [zbl_p h]; decide) q
theorem zo_zn {p : Prop} {hd : Decidable (zbl p = 0)} {A B : zFn} {Q : zR × zS → Prop} (h : ¬ p) (q : zo A Q) : zo (@ite _ (zbl p = 0) hd A B) Q := zo_pos (zbl_n h) q
theorem zo_zm {p : Prop} {hd : Decidable (zbl (¬ p) = 0)} {A B : zFn} {Q : zR × zS → Prop} (h : p) (q : zo A Q) : zo (@ite _ (zbl (¬ p) = 0) hd A B) Q := zo_zn (fun z => z h) q
theorem zbl_ite {p : Prop} {hd : Decidable p} : (@ite _ p hd (0 : Int) 1) = zbl (¬ p) := by
  by_cases h : p
  · rw [if_pos h, zbl_n (fun q => q h)]
  · rw [if_neg h, zbl_p h]
def zcode (b : Int) : List Int → Int := fun l => l.foldl (fun c x => b * c + x) 0
abbrev zD : Type := (Int → Int) × (List (List Int)) × (List (List Int)) × (Int → Int → Int) × (Int → List zP) × (List zP) × (Int → Int → Int) × (Int)
def zD.ru (M : zD) : Int → Int := M.1
def zD.an (M : zD) : List (List Int) := M.2.1
def zD.wn (M : zD) : List (List Int) := M.2.2.1
def zD.T (M : zD) : Int → Int → Int := M.2.2.2.1
def zD.li (M : zD) : Int → List zP := M.2.2.2.2.1
def zD.qu (M : zD) : List zP := M.2.2.2.2.2.1
def zD.ac (M : zD) : Int → Int → Int := M.2.2.2.2.2.2.1
def zD.tm (M : zD) : Int := M.2.2.2.2.2.2.2
def zD.wru (M : zD) (x : Int → Int) : zD := (x, M.an, M.wn, M.T, M.li, M.qu, M.ac, M.tm)
def zD.wan (M : zD) (x : List (List Int)) : zD := (M.ru, x, M.wn, M.T, M.li, M.qu, M.ac, M.tm)
def zD.wwn (M : zD) (x : List (List Int)) : zD := (M.ru, M.an, x, M.T, M.li, M.qu, M.ac, M.tm)
def zD.wT (M : zD) (x : Int → Int → Int) : zD := (M.ru, M.an, M.wn, x, M.li, M.qu, M.ac, M.tm)
def zD.wli (M : zD) (x : Int → List zP) : zD := (M.ru, M.an, M.wn, M.T, x, M.qu, M.ac, M.tm)
def zD.wqu (M : zD) (x : List zP) : zD := (M.ru, M.an, M.wn, M.T, M.li, x, M.ac, M.tm)
def zD.wac (M : zD) (x : Int → Int → Int) : zD := (M.ru, M.an, M.wn, M.T, M.li, M.qu, x, M.tm)
def zD.wtm (M : zD) (x : Int) : zD := (M.ru, M.an, M.wn, M.T, M.li, M.qu, M.ac, x)
def D7 (S : zG) (μ : zM) (d : Int) (M : zD) : Prop := (DSh S d) ∧ (0 ≤ d) ∧ (M.an.length ≤ 6) ∧ (M.wn.length ≤ 6) ∧ (∀ i, 0 ≤ i → i < 6 → (M.li i).length ≤ 36) ∧ (M.qu.length ≤ 100) ∧ (∀ i, 0 ≤ i → i < 5 → μ (d + 1) i = M.ru i) ∧ (μ (d + 2) 1 = (M.an.length : Int)) ∧ (∀ (k : Nat) (nm : List Int), M.an[k]? = some nm → μ (d + 3) (k : Int) = zcode 32 nm) ∧ (μ (d + 4) 1 = (M.wn.length : Int)) ∧ (∀ (k : Nat) (nm : List Int), M.wn[k]? = some nm → μ (d + 5) (k : Int) = zcode 32 nm) ∧ (∀ i j, 0 ≤ i → i < 6 → 0 ≤ j → j < 6 → μ (d + 6) (6 * i + j) = M.T i j) ∧ (μ (d + 8) 1 = 0) ∧ (∀ i, 0 ≤ i → i < 6 → LRp 7 μ (d + 13 + 2 * i) (M.li i)) ∧ (LRp 8 μ (d + 10) M.qu) ∧ (∀ i j, 0 ≤ i → i < 6 → 0 ≤ j → j < 5 → μ (d + 12) (5 * i + j) = M.ac i j) ∧ (μ d 8 = M.tm)
theorem D7.mk {S : zG} {μ : zM} {d : Int} {M : zD} (h : (DSh S d) ∧ (0 ≤ d) ∧ (M.an.length ≤ 6) ∧ (M.wn.length ≤ 6) ∧ (∀ i, 0 ≤ i → i < 6 → (M.li i).length ≤ 36) ∧ (M.qu.length ≤ 100) ∧ (∀ i, 0 ≤ i → i < 5 → μ (d + 1) i = M.ru i) ∧ (μ (d + 2) 1 = (M.an.length : Int)) ∧ (∀ (k : Nat) (nm : List Int), M.an[k]? = some nm → μ (d + 3) (k : Int) = zcode 32 nm) ∧ (μ (d + 4) 1 = (M.wn.length : Int)) ∧ (∀ (k : Nat) (nm : List Int), M.wn[k]? = some nm → μ (d + 5) (k : Int) = zcode 32 nm) ∧ (∀ i j, 0 ≤ i → i < 6 → 0 ≤ j → j < 6 → μ (d + 6) (6 * i + j) = M.T i j) ∧ (μ (d + 8) 1 = 0) ∧ (∀ i, 0 ≤ i → i < 6 → LRp 7 μ (d + 13 + 2 * i) (M.li i)) ∧ (LRp 8 μ (d + 10) M.qu) ∧ (∀ i j, 0 ≤ i → i < 6 → 0 ≤ j → j < 5 → μ (d + 12) (5 * i + j) = M.ac i j) ∧ (μ d 8 = M.tm)) : D7 S μ d M := h
theorem D7.sh {S : zG} {μ : zM} {d : Int} {M : zD} (h : D7 S μ d M) : DSh S d := h.1
theorem D7.d0 {S : zG} {μ : zM} {d : Int} {M : zD} (h : D7 S μ d M) : 0 ≤ d := h.2.1
theorem D7.al {S : zG} {μ : zM} {d : Int} {M : zD} (h : D7 S μ d M) : M.an.length ≤ 6 := h.2.2.1
theorem D7.wl {S : zG} {μ : zM} {d : Int} {M : zD} (h : D7 S μ d M) : M.wn.length ≤ 6 := h.2.2.2.1
theorem D7.ll {S : zG} {μ : zM} {d : Int} {M : zD} (h : D7 S μ d M) : ∀ i, 0 ≤ i → i < 6 → (M.li i).length ≤ 36 := h.2.2.2.2.1
theorem D7.ql {S : zG} {μ : zM} {d : Int} {M : zD} (h : D7 S μ d M) : M.qu.length ≤ 100 := h.2.2.2.2.2.1
theorem D7.ru {S : zG} {μ : zM} {d : Int} {M : zD} (h : D7 S μ d M) : ∀ i, 0 ≤ i → i < 5 → μ (d + 1) i = M.ru i := h.2.2.2.2.2.2.1
theorem D7.an0 {S : zG} {μ : zM} {d : Int} {M : zD} (h : D7 S μ d M) : μ (d + 2) 1 = (M.an.length : Int) := h.2.2.2.2.2.2.2.1
theorem D7.an {S : zG} {μ : zM} {d : Int} {M : zD} (h : D7 S μ d M) : ∀ (k : Nat) (nm : List Int), M.an[k]? = some nm → μ (d + 3) (k : Int) = zcode 32 nm := h.2.2.2.2.2.2.2.2.1
theorem D7.wn0 {S : zG} {μ : zM} {d : Int} {M : zD} (h : D7 S μ d M) : μ (d + 4) 1 = (M.wn.length : Int) := h.2.2.2.2.2.2.2.2.2.1
theorem D7.wn {S : zG} {μ : zM} {d : Int} {M : zD} (h : D7 S μ d M) : ∀ (k : Nat) (nm : List Int), M.wn[k]? = some nm → μ (d + 5) (k : Int) = zcode 32 nm := h.2.2.2.2.2.2.2.2.2.2.1
theorem D7.T {S : zG} {μ : zM} {d : Int} {M : zD} (h : D7 S μ d M) : ∀ i j, 0 ≤ i → i < 6 → 0 ≤ j → j < 6 → μ (d + 6) (6 * i + j) = M.T i j := h.2.2.2.2.2.2.2.2.2.2.2.1
theorem D7.em {S : zG} {μ : zM} {d : Int} {M : zD} (h : D7 S μ d M) : μ (d + 8) 1 = 0 := h.2.2.2.2.2.2.2.2.2.2.2.2.1
theorem D7.li {S : zG} {μ : zM} {d : Int} {M : zD} (h : D7 S μ d M) : ∀ i, 0 ≤ i → i < 6 → LRp 7 μ (d + 13 + 2 * i) (M.li i) := h.2.2.2.2.2.2.2.2.2.2.2.2.2.1
theorem D7.qu {S : zG} {μ : zM} {d : Int} {M : zD} (h : D7 S μ d M) : LRp 8 μ (d + 10) M.qu := h.2.2.2.2.2.2.2.2.2.2.2.2.2.2.1
theorem D7.ac {S : zG} {μ : zM} {d : Int} {M : zD} (h : D7 S μ d M) : ∀ i j, 0 ≤ i → i < 6 → 0 ≤ j → j < 5 → μ (d + 12) (5 * i + j) = M.ac i j := h.2.2.2.2.2.2.2.2.2.2.2.2.2.2.2.1
theorem D7.tm {S : zG} {μ : zM} {d : Int} {M : zD} (h : D7 S μ d M) : μ d 8 = M.tm := h.2.2.2.2.2.2.2.2.2.2.2.2.2.2.2.2
def FR (d : Int) (μ μ' : zM) : Prop := ∀ x, (x < d ∨ d + 25 ≤ x) → μ' x = μ x
theorem FR.rf {d : Int} {μ : zM} : FR d μ μ := fun _ _ => rfl
theorem FR.tr {d : Int} {μ μ1 μ2 : zM} (h : FR d μ μ1) (k : FR d μ1 μ2) : FR d μ μ2 := fun x hx => (k x hx).trans (h x hx)
theorem zup_c {μ : zM} {a b i v : Int} (h : b ≠ a) : zup μ a i v b = μ b := by funext j; exact zup_b h
theorem FR.up {d a i v : Int} {μ : zM} (h : d ≤ a ∧ a < d + 25) : FR d μ (zup μ a i v) := fun x hx => zup_c (by omega)
def zup2 (T : Int → Int → Int) (i j v : Int) : Int → Int → Int := fun x y => if x = i ∧ y = j then v else T x y
def zup1 {α : Type} (f : Int → α) (i : Int) (v : α) : Int → α := fun x => if x = i then v else f x
theorem zup1_at {α : Type} {f : Int → α} {i : Int} {v : α} : zup1 f i v i = v := if_pos rfl
theorem zup1_b {α : Type} {f : Int → α} {i j : Int} {v : α} (h : j ≠ i) : zup1 f i v j = f j := if_neg h
section C33
variable {S : zG} {μ μ' : zM} {d : Int} {M : zD}
theorem D7.keep (h : D7 S μ d M) (hf : ∀ x, d ≤ x → x < d + 25 → μ' x = μ x) : D7 S μ' d M := D7.mk ⟨(h.sh), (h.d0), (h.al), (h.wl), (h.ll), (h.ql), (fun i h1 h2 => by rw [hf _ (by omega) (by omega)]; exact h.ru i h1 h2), (by rw [hf _ (by omega) (by omega)]; exact h.an0), (fun k nm hk => by rw [hf _ (by omega) (by omega)]; exact h.an k nm hk), (by rw [hf _ (by omega) (by omega)]; exact h.wn0), (fun k nm hk => by rw [hf _ (by omega) (by omega)]; exact h.wn k nm hk), (fun i j h1 h2 h3 h4 => by rw [hf _ (by omega) (by omega)]; exact h.T i j h1 h2 h3 h4), (by rw [hf _ (by omega) (by omega)]; exact h.em), (fun i h1 h2 => (h.li i h1 h2).frame (fun j => by rw [hf _ (by omega) (by omega)]) (fun j => by rw [hf _ (by omega) (by omega)])), (h.qu.frame (fun j => by rw [hf _ (by omega) (by omega)]) (fun j => by rw [hf _ (by omega) (by omega)])), (fun i j h1 h2 h3 h4 => by rw [hf _ (by omega) (by omega)]; exact h.ac i j h1 h2 h3 h4), (by rw [hf _ (by omega) (by omega)]; exact h.tm)⟩
theorem D7.setLi (h : D7 S μ d M) {i : Int} {l : List zP} (h1 : 0 ≤ i) (h2 : i < 6) (hl : l.length ≤ 36) (hR : LRp 7 μ' (d + 13 + 2 * i) l) (hf : ∀ x, x ≠ d + 13 + 2 * i → x ≠ d + 13 + 2 * i + 1 → μ' x = μ x) : D7 S μ' d (M.wli (zup1 M.li i l)) := D7.mk ⟨(h.sh), (h.d0), (h.al), (h.wl), (fun j h3 h4 => by
    show (zup1 M.li i l j).length ≤ 36
    by_cases e : j = i
    · rw [e, zup1_at]; exact hl
    · rw [zup1_b e]; exact h.ll j h3 h4), (h.ql), (fun i h1 h2 => by rw [hf _ (by omega) (by omega)]; exact h.ru i h1 h2), (by rw [hf _ (by omega) (by omega)]; exact h.an0), (fun k nm hk => by rw [hf _ (by omega) (by omega)]; exact h.an k nm hk), (by rw [hf _ (by omega) (by omega)]; exact h.wn0), (fun k nm hk => by rw [hf _ (by omega) (by omega)]; exact h.wn k nm hk), (fun i j h1 h2 h3 h4 => by rw [hf _ (by omega) (by omega)]; exact h.T i j h1 h2 h3 h4), (by rw [hf _ (by omega) (by omega)]; exact h.em), (fun j h3 h4 => by
    show LRp 7 μ' _ (zup1 M.li i l j)
    by_cases e : j = i
    · rw [e, zup1_at]; exact hR
    · rw [zup1_b e]
      exact (h.li j h3 h4).frame (fun k => by rw [hf _ (by omega) (by omega)]) (fun k => by rw [hf _ (by omega) (by omega)])), (h.qu.frame (fun j => by rw [hf _ (by omega) (by omega)]) (fun j => by rw [hf _ (by omega) (by omega)])), (fun i j h1 h2 h3 h4 => by rw [hf _ (by omega) (by omega)]; exact h.ac i j h1 h2 h3 h4), (by rw [hf _ (by omega) (by omega)]; exact h.tm)⟩
theorem D7.setQu (h : D7 S μ d M) {l : List zP} (hl : l.length ≤ 100) (hR : LRp 8 μ' (d + 10) l) (hf : ∀ x, x ≠ d + 10 → x ≠ d + 10 + 1 → μ' x = μ x) : D7 S μ' d (M.wqu l) := D7.mk ⟨(h.sh), (h.d0), (h.al), (h.wl), (h.ll), (hl), (fun i h1 h2 => by rw [hf _ (by omega) (by omega)]; exact h.ru i h1 h2), (by rw [hf _ (by omega) (by omega)]; exact h.an0), (fun k nm hk => by rw [hf _ (by omega) (by omega)]; exact h.an k nm hk), (by rw [hf _ (by omega) (by omega)]; exact h.wn0), (fun k nm hk => by rw [hf _ (by omega) (by omega)]; exact h.wn k nm hk), (fun i j h1 h2 h3 h4 => by rw [hf _ (by omega) (by omega)]; exact h.T i j h1 h2 h3 h4), (by rw [hf _ (by omega) (by omega)]; exact h.em), (fun i h1 h2 => (h.li i h1 h2).frame (fun j => by rw [hf _ (by omega) (by omega)]) (fun j => by rw [hf _ (by omega) (by omega)])), (hR), (fun i j h1 h2 h3 h4 => by rw [hf _ (by omega) (by omega)]; exact h.ac i j h1 h2 h3 h4), (by rw [hf _ (by omega) (by omega)]; exact h.tm)⟩
theorem D7.setT (h : D7 S μ d M) {i j v : Int} (h1 : 0 ≤ i ∧ i < 6) (h2 : 0 ≤ j ∧ j < 6) : D7 S (zup μ (d + 6) (6 * i + j) v) d (M.wT (zup2 M.T i j v)) := D7.mk ⟨(h.sh), (h.d0), (h.al), (h.wl), (h.ll), (h.ql), (fun i h1 h2 => by rw [zup_b (by omega)]; exact h.ru i h1 h2), (by rw [zup_b (by omega)]; exact h.an0), (fun k nm hk => by rw [zup_b (by omega)]; exact h.an k nm hk), (by rw [zup_b (by omega)]; exact h.wn0), (fun k nm hk => by rw [zup_b (by omega)]; exact h.wn k nm hk), (fun x y h3 h4 h5 h6 => by
    show _ = if x = i ∧ y = j then v else M.T x y
    by_cases e : x = i ∧ y = j
    · rw [if_pos e, e.1, e.2, zup_at]
    · rw [if_neg e, zup_j (by omega)]
      exact h.T x y h3 h4 h5 h6), (by rw [zup_b (by omega)]; exact h.em), (fun i h1 h2 => (h.li i h1 h2).frame (fun j => by rw [zup_b (by omega)]) (fun j => by rw [zup_b (by omega)])), (h.qu.frame (fun j => by rw [zup_b (by omega)]) (fun j => by rw [zup_b (by omega)])), (fun i j h1 h2 h3 h4 => by rw [zup_b (by omega)]; exact h.ac i j h1 h2 h3 h4), (by rw [zup_b (by omega)]; exact h.tm)⟩
theorem D7.setAc (h : D7 S μ d M) {i j v : Int} (h1 : 0 ≤ i ∧ i < 6) (h2 : 0 ≤ j ∧ j < 5) : D7 S (zup μ (d + 12) (5 * i + j) v) d (M.wac (zup2 M.ac i j v)) := D7.mk ⟨(h.sh), (h.d0), (h.al), (h.wl), (h.ll), (h.ql), (fun i h1 h2 => by rw [zup_b (by omega)]; exact h.ru i h1 h2), (by rw [zup_b (by omega)]; exact h.an0), (fun k nm hk => by rw [zup_b (by omega)]; exact h.an k nm hk), (by rw [zup_b (by omega)]; exact h.wn0), (fun k nm hk => by rw [zup_b (by omega)]; exact h.wn k nm hk), (fun i j h1 h2 h3 h4 => by rw [zup_b (by omega)]; exact h.T i j h1 h2 h3 h4), (by rw [zup_b (by omega)]; exact h.em), (fun i h1 h2 => (h.li i h1 h2).frame (fun j => by rw [zup_b (by omega)]) (fun j => by rw [zup_b (by omega)])), (h.qu.frame (fun j => by rw [zup_b (by omega)]) (fun j => by rw [zup_b (by omega)])), (fun x y h3 h4 h5 h6 => by
    show _ = if x = i ∧ y = j then v else M.ac x y
    by_cases e : x = i ∧ y = j
    · rw [if_pos e, e.1, e.2, zup_at]
    · rw [if_neg e, zup_j (by omega)]
      exact h.ac x y h3 h4 h5 h6), (by rw [zup_b (by omega)]; exact h.tm)⟩
theorem D7.setRu (h : D7 S μ d M) {i v : Int} (h1 : 0 ≤ i ∧ i < 5) : D7 S (zup μ (d + 1) i v) d (M.wru (zup1 M.ru i v)) := D7.mk ⟨(h.sh), (h.d0), (h.al), (h.wl), (h.ll), (h.ql), (fun x h3 h4 => by
    show _ = zup1 M.ru i v x
    by_cases e : x = i
    · rw [e, zup1_at, zup_at]
    · rw [zup1_b e, zup_j e]
      exact h.ru x h3 h4), (by rw [zup_b (by omega)]; exact h.an0), (fun k nm hk => by rw [zup_b (by omega)]; exact h.an k nm hk), (by rw [zup_b (by omega)]; exact h.wn0), (fun k nm hk => by rw [zup_b (by omega)]; exact h.wn k nm hk), (fun i j h1 h2 h3 h4 => by rw [zup_b (by omega)]; exact h.T i j h1 h2 h3 h4), (by rw [zup_b (by omega)]; exact h.em), (fun i h1 h2 => (h.li i h1 h2).frame (fun j => by rw [zup_b (by omega)]) (fun j => by rw [zup_b (by omega)])), (h.qu.frame (fun j => by rw [zup_b (by omega)]) (fun j => by rw [zup_b (by omega)])), (fun i j h1 h2 h3 h4 => by rw [zup_b (by omega)]; exact h.ac i j h1 h2 h3 h4), (by rw [zup_b (by omega)]; exact h.tm)⟩
theorem D7.setTm (h : D7 S μ d M) {v : Int} : D7 S (zup μ d 8 v) d (M.wtm v) := D7.mk ⟨(h.sh), (h.d0), (h.al), (h.wl), (h.ll), (h.ql), (fun i h1 h2 => by rw [zup_b (by omega)]; exact h.ru i h1 h2), (by rw [zup_b (by omega)]; exact h.an0), (fun k nm hk => by rw [zup_b (by omega)]; exact h.an k nm hk), (by rw [zup_b (by omega)]; exact h.wn0), (fun k nm hk => by rw [zup_b (by omega)]; exact h.wn k nm hk), (fun i j h1 h2 h3 h4 => by rw [zup_b (by omega)]; exact h.T i j h1 h2 h3 h4), (by rw [zup_b (by omega)]; exact h.em), (fun i h1 h2 => (h.li i h1 h2).frame (fun j => by rw [zup_b (by omega)]) (fun j => by rw [zup_b (by omega)])), (h.qu.frame (fun j => by rw [zup_b (by omega)]) (fun j => by rw [zup_b (by omega)])), (fun i j h1 h2 h3 h4 => by rw [zup_b (by omega)]; exact h.ac i j h1 h2 h3 h4), (zup_at)⟩
theorem d_trustIn (h : D7 S μ d M) {i j : Int} (hi : 0 ≤ i ∧ i < 6) (hj : 0 ≤ j ∧ j < 6) : f_X1_trustIn d i j (S, μ) = some (.inl (M.T i j), (S, μ)) := by
  rw [c_X1_trustIn h.sh hi hj, h.T i j hi.1 hi.2 hj.1 hj.2]
theorem d_isLinked (h : D7 S μ d M) {i j : Int} (hi : 0 ≤ i ∧ i < 6) (hj : 0 ≤ j ∧ j < 6) : f_X1_isLinked d i j (S, μ) = some (.inl (zbl (¬ M.T i j = -1)), (S, μ)) := by
  rw [c_X1_isLinked h.sh hi hj, h.T i j hi.1 hi.2 hj.1 hj.2, zbl_ite]
theorem d_rule (h : D7 S μ d M) {i : Int} (hi : 0 ≤ i ∧ i < 5) : f_X1_rule d i (S, μ) = some (.inl (M.ru i), (S, μ)) := by
  rw [c_X1_rule h.sh hi, h.ru i hi.1 hi.2]
theorem d_listOf (h : D7 S μ d M) {i : Int} (hi : 0 ≤ i ∧ i < 6) : f_X1_listOf d i (S, μ) = some (.inl (d + 13 + 2 * i), (S, μ)) := c_X1_listOf h.sh hi h.d0
def zD.tal (M : zD) (i j : Int) : zD := M.wac (zup2 M.ac i j (w32 (M.ac i j + 1)))
theorem d_tally (h : D7 S μ d M) {i j : Int} (hi : 0 ≤ i ∧ i < 6) (hj : 0 ≤ j ∧ j < 5) : ∃ μ', f_X1_tally d i j (S, μ) = some (.inl 0, (S, μ')) ∧ D7 S μ' d (M.tal i j) ∧ FR d μ μ' := by
  refine ⟨_, c_X1_tally h.sh hi hj, ?_, FR.up (by omega)⟩
  rw [h.ac i j hi.1 hi.2 hj.1 hj.2]
  exact h.setAc hi hj
theorem d_putTrust (h : D7 S μ d M) {i j v : Int} (hi : 0 ≤ i ∧ i < 6) (hj : 0 ≤ j ∧ j < 6) : ∃ μ', f_X1_putTrust d i j v (S, μ) = some (.inl 0, (S, μ')) ∧ D7 S μ' d (M.wT (zup2 M.T i j v)) ∧ FR d μ μ' :=
  ⟨_, c_X1_putTrust h.sh hi hj, h.setT hi hj, FR.up (by omega)⟩
theorem d_putRule (h : D7 S μ d M) {i v : Int} (hi : 0 ≤ i ∧ i < 5) : ∃ μ', f_X1_putRule d i v (S, μ) = some (.inl 0, (S, μ')) ∧ D7 S μ' d (M.wru (zup1 M.ru i v)) ∧ FR d μ μ' :=
  ⟨_, c_X1_putRule h.sh hi, h.setRu hi, FR.up (by omega)⟩
theorem d_get0 (h : D7 S μ d M) {a : Int} {k : Nat} {p : zP} (ha : 0 ≤ a ∧ a < 6) (hk : (M.li a)[k]? = some p) : f_X5_get (d + 13 + 2 * a) (k : Int) 0 (S, μ) = some (.inl (p 0), (S, μ)) := c_get0 (h.sh.ls a ha.1 ha.2) (h.li a ha.1 ha.2) (by have := h.ll a ha.1 ha.2; omega) (by decide) (by decide) hk (by decide)
theorem d_get1 (h : D7 S μ d M) {a : Int} {k : Nat} {p : zP} (ha : 0 ≤ a ∧ a < 6) (hk : (M.li a)[k]? = some p) : f_X5_get (d + 13 + 2 * a) (k : Int) 1 (S, μ) = some (.inl (p 1), (S, μ)) := c_get1 (h.sh.ls a ha.1 ha.2) (h.li a ha.1 ha.2) (by have := h.ll a ha.1 ha.2; omega) (by decide) (by decide) hk (by decide)
theorem d_get2 (h : D7 S μ d M) {a : Int} {k : Nat} {p : zP} (ha : 0 ≤ a ∧ a < 6) (hk : (M.li a)[k]? = some p) : f_X5_get (d + 13 + 2 * a) (k : Int) 2 (S, μ) = some (.inl (p 2), (S, μ)) := c_get2 (h.sh.ls a ha.1 ha.2) (h.li a ha.1 ha.2) (by have := h.ll a ha.1 ha.2; omega) (by decide) (by decide) hk (by decide)
theorem d_get3 (h : D7 S μ d M) {a : Int} {k : Nat} {p : zP} (ha : 0 ≤ a ∧ a < 6) (hk : (M.li a)[k]? = some p) : f_X5_get (d + 13 + 2 * a) (k : Int) 3 (S, μ) = some (.inl (p 3), (S, μ)) := c_get3 (h.sh.ls a ha.1 ha.2) (h.li a ha.1 ha.2) (by have := h.ll a ha.1 ha.2; omega) (by decide) (by decide) hk (by decide)
theorem d_get4 (h : D7 S μ d M) {a : Int} {k : Nat} {p : zP} (ha : 0 ≤ a ∧ a < 6) (hk : (M.li a)[k]? = some p) : f_X5_get (d + 13 + 2 * a) (k : Int) 4 (S, μ) = some (.inl (p 4), (S, μ)) := c_get4 (h.sh.ls a ha.1 ha.2) (h.li a ha.1 ha.2) (by have := h.ll a ha.1 ha.2; omega) (by decide) (by decide) hk (by decide)
theorem d_get5 (h : D7 S μ d M) {a : Int} {k : Nat} {p : zP} (ha : 0 ≤ a ∧ a < 6) (hk : (M.li a)[k]? = some p) : f_X5_get (d + 13 + 2 * a) (k : Int) 5 (S, μ) = some (.inl (p 5), (S, μ)) := c_get5 (h.sh.ls a ha.1 ha.2) (h.li a ha.1 ha.2) (by have := h.ll a ha.1 ha.2; omega) (by decide) (by decide) hk (by decide)
theorem d_get6 (h : D7 S μ d M) {a : Int} {k : Nat} {p : zP} (ha : 0 ≤ a ∧ a < 6) (hk : (M.li a)[k]? = some p) : f_X5_get (d + 13 + 2 * a) (k : Int) 6 (S, μ) = some (.inl (p 6), (S, μ)) := c_get6 (h.sh.ls a ha.1 ha.2) (h.li a ha.1 ha.2) (by have := h.ll a ha.1 ha.2; omega) (by decide) (by decide) hk (by decide)
theorem d_qget0 (h : D7 S μ d M) {k : Nat} {p : zP} (hk : M.qu[k]? = some p) : f_X5_get (d + 10) (k : Int) 0 (S, μ) = some (.inl (p 0), (S, μ)) := c_get0 h.sh.qu h.qu (by have := h.ql; omega) (by decide) (by decide) hk (by decide)
theorem d_qget1 (h : D7 S μ d M) {k : Nat} {p : zP} (hk : M.qu[k]? = some p) : f_X5_get (d + 10) (k : Int) 1 (S, μ) = some (.inl (p 1), (S, μ)) := c_get1 h.sh.qu h.qu (by have := h.ql; omega) (by decide) (by decide) hk (by decide)
theorem d_qget2 (h : D7 S μ d M) {k : Nat} {p : zP} (hk : M.qu[k]? = some p) : f_X5_get (d + 10) (k : Int) 2 (S, μ) = some (.inl (p 2), (S, μ)) := c_get2 h.sh.qu h.qu (by have := h.ql; omega) (by decide) (by decide) hk (by decide)
theorem d_qget3 (h : D7 S μ d M) {k : Nat} {p : zP} (hk : M.qu[k]? = some p) : f_X5_get (d + 10) (k : Int) 3 (S, μ) = some (.inl (p 3), (S, μ)) := c_get3 h.sh.qu h.qu (by have := h.ql; omega) (by decide) (by decide) hk (by decide)
theorem d_qget4 (h : D7 S μ d M) {k : Nat} {p : zP} (hk : M.qu[k]? = some p) : f_X5_get (d + 10) (k : Int) 4 (S, μ) = some (.inl (p 4), (S, μ)) := c_get4 h.sh.qu h.qu (by have := h.ql; omega) (by decide) (by decide) hk (by decide)
theorem d_qget5 (h : D7 S μ d M) {k : Nat} {p : zP} (hk : M.qu[k]? = some p) : f_X5_get (d + 10) (k : Int) 5 (S, μ) = some (.inl (p 5), (S, μ)) := c_get5 h.sh.qu h.qu (by have := h.ql; omega) (by decide) (by decide) hk (by decide)
theorem d_qget6 (h : D7 S μ d M) {k : Nat} {p : zP} (hk : M.qu[k]? = some p) : f_X5_get (d + 10) (k : Int) 6 (S, μ) = some (.inl (p 6), (S, μ)) := c_get6 h.sh.qu h.qu (by have := h.ql; omega) (by decide) (by decide) hk (by decide)
theorem d_qget7 (h : D7 S μ d M) {k : Nat} {p : zP} (hk : M.qu[k]? = some p) : f_X5_get (d + 10) (k : Int) 7 (S, μ) = some (.inl (p 7), (S, μ)) := c_get7 h.sh.qu h.qu (by have := h.ql; omega) (by decide) (by decide) hk (by decide)
theorem d_lowMoved (h : D7 S μ d M) {a s : Int} {k : Nat} {p : zP} (ha : 0 ≤ a ∧ a < 6) (hk : (M.li a)[k]? = some p) : f_X5_lowMoved (d + 13 + 2 * a) (k : Int) s (S, μ) = some (.inl (max 0 (w32 (p 5 - s))), (S, μ)) := c_lowMoved (h.sh.ls a ha.1 ha.2) (h.li a ha.1 ha.2) (by have := h.ll a ha.1 ha.2; omega) (by decide) (by decide) (by decide) hk
theorem d_highMoved (h : D7 S μ d M) {a s : Int} {k : Nat} {p : zP} (ha : 0 ≤ a ∧ a < 6) (hk : (M.li a)[k]? = some p) : f_X5_highMoved (d + 13 + 2 * a) (k : Int) s (S, μ) = some (.inl (min 999 (w32 (p 6 + s))), (S, μ)) := c_highMoved (h.sh.ls a ha.1 ha.2) (h.li a ha.1 ha.2) (by have := h.ll a ha.1 ha.2; omega) (by decide) (by decide) (by decide) hk
theorem d_find (h : D7 S μ d M) {a o w9 : Int} (ha : 0 ≤ a ∧ a < 6) : f_X5_rowOf (d + 13 + 2 * a) o w9 (S, μ) = some (.inl (zfi (zq o w9) (zqD o w9) (M.li a) 0), (S, μ)) := c_find (h.sh.ls a ha.1 ha.2) (by have := h.ll a ha.1 ha.2; omega) (by decide) (h.li a ha.1 ha.2)
def zD.dr (M : zD) (p : zP) : Int := w32 (M.ru 0 * (w32 (M.tm - p 4)))
def zD.sp (M : zD) (a : Int) (p : zP) : Int := if p 1 = a then M.dr p else w32 (M.dr p + (w32 ((w32 (M.ru 1 * (w32 (10 - M.T a (p 1))))) * p 2)))
end C33
