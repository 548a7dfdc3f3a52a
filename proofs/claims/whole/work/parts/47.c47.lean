/-! C 47: the model's desk -/
abbrev zAr : Type := Int → Int
/-- the list of agent i in the array -/
def LR8 (g : zAr) (i : Int) (l : List zP) : Prop := g (87 + 253 * i) = (l.length : Int) ∧ ∀ (k : Nat) (p : zP), l[k]? = some p → ∀ c : Nat, c < 7 → g (88 + 253 * i + 7 * (k : Int) + (c : Int)) = p c
def QR8 (g : zAr) (l : List zP) : Prop := g 8 = (l.length : Int) ∧ ∀ (k : Nat) (p : zP), l[k]? = some p → ∀ c : Nat, c < 8 → g (1605 + 8 * (k : Int) + (c : Int)) = p c
def D8 (g : zAr) (M : zD) : Prop := (M.an.length ≤ 6) ∧ (M.wn.length ≤ 6) ∧ (∀ i, 0 ≤ i → i < 6 → (M.li i).length ≤ 36) ∧ (M.qu.length ≤ 100) ∧ (g 0 = (M.an.length : Int)) ∧ (g 1 = (M.wn.length : Int)) ∧ (g 2 = M.tm) ∧ (∀ i, 0 ≤ i → i < 5 → g (3 + i) = M.ru i) ∧ (∀ (k : Nat) (nm : List Int), M.an[k]? = some nm → g (9 + (k : Int)) = zcode 27 nm) ∧ (∀ (k : Nat) (nm : List Int), M.wn[k]? = some nm → g (15 + (k : Int)) = zcode 27 nm) ∧ (∀ i j, 0 ≤ i → i < 6 → 0 ≤ j → j < 6 → g (21 + 6 * i + j) = M.T i j) ∧ (∀ i j, 0 ≤ i → i < 6 → 0 ≤ j → j < 5 → g (57 + 5 * i + j) = M.ac i j) ∧ (∀ i, 0 ≤ i → i < 6 → LR8 g i (M.li i)) ∧ (QR8 g M.qu)
theorem D8.mk {g : zAr} {M : zD} (h : (M.an.length ≤ 6) ∧ (M.wn.length ≤ 6) ∧ (∀ i, 0 ≤ i → i < 6 → (M.li i).length ≤ 36) ∧ (M.qu.length ≤ 100) ∧ (g 0 = (M.an.length : Int)) ∧ (g 1 = (M.wn.length : Int)) ∧ (g 2 = M.tm) ∧ (∀ i, 0 ≤ i → i < 5 → g (3 + i) = M.ru i) ∧ (∀ (k : Nat) (nm : List Int), M.an[k]? = some nm → g (9 + (k : Int)) = zcode 27 nm) ∧ (∀ (k : Nat) (nm : List Int), M.wn[k]? = some nm → g (15 + (k : Int)) = zcode 27 nm) ∧ (∀ i j, 0 ≤ i → i < 6 → 0 ≤ j → j < 6 → g (21 + 6 * i + j) = M.T i j) ∧ (∀ i j, 0 ≤ i → i < 6 → 0 ≤ j → j < 5 → g (57 + 5 * i + j) = M.ac i j) ∧ (∀ i, 0 ≤ i → i < 6 → LR8 g i (M.li i)) ∧ (QR8 g M.qu)) : D8 g M := h
theorem D8.al {g : zAr} {M : zD} (h : D8 g M) : M.an.length ≤ 6 := h.1
theorem D8.wl {g : zAr} {M : zD} (h : D8 g M) : M.wn.length ≤ 6 := h.2.1
theorem D8.ll {g : zAr} {M : zD} (h : D8 g M) : ∀ i, 0 ≤ i → i < 6 → (M.li i).length ≤ 36 := h.2.2.1
theorem D8.ql {g : zAr} {M : zD} (h : D8 g M) : M.qu.length ≤ 100 := h.2.2.2.1
theorem D8.an0 {g : zAr} {M : zD} (h : D8 g M) : g 0 = (M.an.length : Int) := h.2.2.2.2.1
theorem D8.wn0 {g : zAr} {M : zD} (h : D8 g M) : g 1 = (M.wn.length : Int) := h.2.2.2.2.2.1
theorem D8.tm {g : zAr} {M : zD} (h : D8 g M) : g 2 = M.tm := h.2.2.2.2.2.2.1
theorem D8.ru {g : zAr} {M : zD} (h : D8 g M) : ∀ i, 0 ≤ i → i < 5 → g (3 + i) = M.ru i := h.2.2.2.2.2.2.2.1
theorem D8.an {g : zAr} {M : zD} (h : D8 g M) : ∀ (k : Nat) (nm : List Int), M.an[k]? = some nm → g (9 + (k : Int)) = zcode 27 nm := h.2.2.2.2.2.2.2.2.1
theorem D8.wn {g : zAr} {M : zD} (h : D8 g M) : ∀ (k : Nat) (nm : List Int), M.wn[k]? = some nm → g (15 + (k : Int)) = zcode 27 nm := h.2.2.2.2.2.2.2.2.2.1
theorem D8.T {g : zAr} {M : zD} (h : D8 g M) : ∀ i j, 0 ≤ i → i < 6 → 0 ≤ j → j < 6 → g (21 + 6 * i + j) = M.T i j := h.2.2.2.2.2.2.2.2.2.2.1
theorem D8.ac {g : zAr} {M : zD} (h : D8 g M) : ∀ i j, 0 ≤ i → i < 6 → 0 ≤ j → j < 5 → g (57 + 5 * i + j) = M.ac i j := h.2.2.2.2.2.2.2.2.2.2.2.1
theorem D8.li {g : zAr} {M : zD} (h : D8 g M) : ∀ i, 0 ≤ i → i < 6 → LR8 g i (M.li i) := h.2.2.2.2.2.2.2.2.2.2.2.2.1
theorem D8.qu {g : zAr} {M : zD} (h : D8 g M) : QR8 g M.qu := h.2.2.2.2.2.2.2.2.2.2.2.2.2
/-- the model's object at m; its row's array is at A -/
def MSh (S : zG) (m A : Int) : Prop := (S.1 m = some (0, 8)) ∧ (0 ≤ m) ∧ (S.2.1 m 1 = m + 1) ∧ (S.2.1 m 2 = m + 2) ∧ (S.2.1 m 3 = A) ∧ (S.2.1 m 7 = m + 3) ∧ (S.2.1 m 8 = m + 4) ∧ (S.2.1 m 9 = m + 5) ∧ (S.2.1 m 10 = m + 6) ∧ (S.2.1 m 21 = m + 7) ∧ (S.2.1 m 22 = m + 8) ∧ (S.2.1 m 23 = m + 9) ∧ (S.2.1 m 24 = m + 10) ∧ (S.2.1 m 26 = m + 11) ∧ (A = m + 1 ∨ A = m + 2) ∧ (S.1 (m + 1) = some (1, 2405)) ∧ (S.1 (m + 2) = some (1, 2405)) ∧ (S.1 (m + 3) = some (1, 36)) ∧ (S.1 (m + 4) = some (3, 36)) ∧ (S.1 (m + 5) = some (1, 2405)) ∧ (S.1 (m + 6) = some (2, 600)) ∧ (S.1 (m + 7) = some (3, 36)) ∧ (S.1 (m + 8) = some (1, 4810)) ∧ (S.1 (m + 9) = some (3, 2)) ∧ (S.1 (m + 10) = some (1, 14430)) ∧ (S.1 (m + 11) = some (2, 1800))
theorem MSh.mk {S : zG} {m A : Int} (h : (S.1 m = some (0, 8)) ∧ (0 ≤ m) ∧ (S.2.1 m 1 = m + 1) ∧ (S.2.1 m 2 = m + 2) ∧ (S.2.1 m 3 = A) ∧ (S.2.1 m 7 = m + 3) ∧ (S.2.1 m 8 = m + 4) ∧ (S.2.1 m 9 = m + 5) ∧ (S.2.1 m 10 = m + 6) ∧ (S.2.1 m 21 = m + 7) ∧ (S.2.1 m 22 = m + 8) ∧ (S.2.1 m 23 = m + 9) ∧ (S.2.1 m 24 = m + 10) ∧ (S.2.1 m 26 = m + 11) ∧ (A = m + 1 ∨ A = m + 2) ∧ (S.1 (m + 1) = some (1, 2405)) ∧ (S.1 (m + 2) = some (1, 2405)) ∧ (S.1 (m + 3) = some (1, 36)) ∧ (S.1 (m + 4) = some (3, 36)) ∧ (S.1 (m + 5) = some (1, 2405)) ∧ (S.1 (m + 6) = some (2, 600)) ∧ (S.1 (m + 7) = some (3, 36)) ∧ (S.1 (m + 8) = some (1, 4810)) ∧ (S.1 (m + 9) = some (3, 2)) ∧ (S.1 (m + 10) = some (1, 14430)) ∧ (S.1 (m + 11) = some (2, 1800))) : MSh S m A := h
theorem MSh.o {S : zG} {m A : Int} (h : MSh S m A) : S.1 m = some (0, 8) := h.1
theorem MSh.m0 {S : zG} {m A : Int} (h : MSh S m A) : 0 ≤ m := h.2.1
theorem MSh.r1 {S : zG} {m A : Int} (h : MSh S m A) : S.2.1 m 1 = m + 1 := h.2.2.1
theorem MSh.r2 {S : zG} {m A : Int} (h : MSh S m A) : S.2.1 m 2 = m + 2 := h.2.2.2.1
theorem MSh.r3 {S : zG} {m A : Int} (h : MSh S m A) : S.2.1 m 3 = A := h.2.2.2.2.1
theorem MSh.r7 {S : zG} {m A : Int} (h : MSh S m A) : S.2.1 m 7 = m + 3 := h.2.2.2.2.2.1
theorem MSh.r8 {S : zG} {m A : Int} (h : MSh S m A) : S.2.1 m 8 = m + 4 := h.2.2.2.2.2.2.1
theorem MSh.r9 {S : zG} {m A : Int} (h : MSh S m A) : S.2.1 m 9 = m + 5 := h.2.2.2.2.2.2.2.1
theorem MSh.r10 {S : zG} {m A : Int} (h : MSh S m A) : S.2.1 m 10 = m + 6 := h.2.2.2.2.2.2.2.2.1
theorem MSh.r21 {S : zG} {m A : Int} (h : MSh S m A) : S.2.1 m 21 = m + 7 := h.2.2.2.2.2.2.2.2.2.1
theorem MSh.r22 {S : zG} {m A : Int} (h : MSh S m A) : S.2.1 m 22 = m + 8 := h.2.2.2.2.2.2.2.2.2.2.1
theorem MSh.r23 {S : zG} {m A : Int} (h : MSh S m A) : S.2.1 m 23 = m + 9 := h.2.2.2.2.2.2.2.2.2.2.2.1
theorem MSh.r24 {S : zG} {m A : Int} (h : MSh S m A) : S.2.1 m 24 = m + 10 := h.2.2.2.2.2.2.2.2.2.2.2.2.1
theorem MSh.r26 {S : zG} {m A : Int} (h : MSh S m A) : S.2.1 m 26 = m + 11 := h.2.2.2.2.2.2.2.2.2.2.2.2.2.1
theorem MSh.A0 {S : zG} {m A : Int} (h : MSh S m A) : A = m + 1 ∨ A = m + 2 := h.2.2.2.2.2.2.2.2.2.2.2.2.2.2.1
theorem MSh.a1 {S : zG} {m A : Int} (h : MSh S m A) : S.1 (m + 1) = some (1, 2405) := h.2.2.2.2.2.2.2.2.2.2.2.2.2.2.2.1
theorem MSh.a2 {S : zG} {m A : Int} (h : MSh S m A) : S.1 (m + 2) = some (1, 2405) := h.2.2.2.2.2.2.2.2.2.2.2.2.2.2.2.2.1
theorem MSh.a3 {S : zG} {m A : Int} (h : MSh S m A) : S.1 (m + 3) = some (1, 36) := h.2.2.2.2.2.2.2.2.2.2.2.2.2.2.2.2.2.1
theorem MSh.a4 {S : zG} {m A : Int} (h : MSh S m A) : S.1 (m + 4) = some (3, 36) := h.2.2.2.2.2.2.2.2.2.2.2.2.2.2.2.2.2.2.1
theorem MSh.a5 {S : zG} {m A : Int} (h : MSh S m A) : S.1 (m + 5) = some (1, 2405) := h.2.2.2.2.2.2.2.2.2.2.2.2.2.2.2.2.2.2.2.1
theorem MSh.a6 {S : zG} {m A : Int} (h : MSh S m A) : S.1 (m + 6) = some (2, 600) := h.2.2.2.2.2.2.2.2.2.2.2.2.2.2.2.2.2.2.2.2.1
theorem MSh.a7 {S : zG} {m A : Int} (h : MSh S m A) : S.1 (m + 7) = some (3, 36) := h.2.2.2.2.2.2.2.2.2.2.2.2.2.2.2.2.2.2.2.2.2.1
theorem MSh.a8 {S : zG} {m A : Int} (h : MSh S m A) : S.1 (m + 8) = some (1, 4810) := h.2.2.2.2.2.2.2.2.2.2.2.2.2.2.2.2.2.2.2.2.2.2.1
theorem MSh.a9 {S : zG} {m A : Int} (h : MSh S m A) : S.1 (m + 9) = some (3, 2) := h.2.2.2.2.2.2.2.2.2.2.2.2.2.2.2.2.2.2.2.2.2.2.2.1
theorem MSh.a10 {S : zG} {m A : Int} (h : MSh S m A) : S.1 (m + 10) = some (1, 14430) := h.2.2.2.2.2.2.2.2.2.2.2.2.2.2.2.2.2.2.2.2.2.2.2.2.1
theorem MSh.a11 {S : zG} {m A : Int} (h : MSh S m A) : S.1 (m + 11) = some (2, 1800) := h.2.2.2.2.2.2.2.2.2.2.2.2.2.2.2.2.2.2.2.2.2.2.2.2.2
theorem MSh.A {S : zG} {m A : Int} (h : MSh S m A) : S.1 A = some (1, 2405) := by
  rcases h.A0 with e | e
  · rw [e]; exact h.a1
  · rw [e]; exact h.a2
/-- nothing changes but the array at A -/
def FA (A : Int) (μ μ' : zM) : Prop := ∀ x, x ≠ A → μ' x = μ x
theorem FA.rf {A : Int} {μ : zM} : FA A μ μ := fun _ _ => rfl
theorem FA.tr {A : Int} {μ μ1 μ2 : zM} (h : FA A μ μ1) (k : FA A μ1 μ2) : FA A μ μ2 := fun x hx => (k x hx).trans (h x hx)
theorem FA.up {A i v : Int} {μ : zM} : FA A μ (zup μ A i v) := fun x hx => zup_c hx
theorem zup_fn {μ : zM} {A i v : Int} : zup μ A i v A = zup1 (μ A) i v := by
  funext j
  unfold zup zup1
  by_cases e : j = i
  · rw [if_pos e, if_pos ⟨rfl, e⟩]
  · rw [if_neg e, if_neg (fun z => e z.2)]
theorem LR8.frame {g g' : zAr} {i : Int} {l : List zP} (h : LR8 g i l) (hl : l.length ≤ 36) (hf : ∀ j, 87 + 253 * i ≤ j → j < 340 + 253 * i → g' j = g j) : LR8 g' i l := by
  refine ⟨by rw [hf _ (by omega) (by omega)]; exact h.1, ?_⟩
  intro k p hk c hc
  have := (List.getElem?_eq_some_iff.mp hk).1
  rw [hf _ (by omega) (by omega)]
  exact h.2 k p hk c hc
theorem QR8.frame {g g' : zAr} {l : List zP} (h : QR8 g l) (hl : l.length ≤ 100) (h8 : g' 8 = g 8) (hf : ∀ j, 1605 ≤ j → j < 2405 → g' j = g j) : QR8 g' l := by
  refine ⟨by rw [h8]; exact h.1, ?_⟩
  intro k p hk c hc
  have := (List.getElem?_eq_some_iff.mp hk).1
  rw [hf _ (by omega) (by omega)]
  exact h.2 k p hk c hc
section C47
variable {S : zG} {μ μ' : zM} {m A : Int} {M : zD} {Q : zR × zS → Prop} {g g' : zAr}
theorem D8.lt (h : D8 g M) {k : Nat} {nm : List Int} (hk : M.an[k]? = some nm) : k < 6 := by
  have := (List.getElem?_eq_some_iff.mp hk).1
  have := h.al
  omega
theorem D8.wlt (h : D8 g M) {k : Nat} {nm : List Int} (hk : M.wn[k]? = some nm) : k < 6 := by
  have := (List.getElem?_eq_some_iff.mp hk).1
  have := h.wl
  omega
theorem D8.keep (h : D8 g M) (hf : ∀ j, 0 ≤ j → j < 2405 → g' j = g j) : D8 g' M := D8.mk ⟨(h.al), (h.wl), (h.ll), (h.ql), (by rw [hf _ (by omega) (by omega)]; exact h.an0), (by rw [hf _ (by omega) (by omega)]; exact h.wn0), (by rw [hf _ (by omega) (by omega)]; exact h.tm), (fun i h1 h2 => by rw [hf _ (by omega) (by omega)]; exact h.ru i h1 h2), (fun k nm hk => by have := h.lt hk; rw [hf _ (by omega) (by omega)]; exact h.an k nm hk), (fun k nm hk => by have := h.wlt hk; rw [hf _ (by omega) (by omega)]; exact h.wn k nm hk), (fun i j h1 h2 h3 h4 => by rw [hf _ (by omega) (by omega)]; exact h.T i j h1 h2 h3 h4), (fun i j h1 h2 h3 h4 => by rw [hf _ (by omega) (by omega)]; exact h.ac i j h1 h2 h3 h4), (fun i h1 h2 => (h.li i h1 h2).frame (h.ll i h1 h2) (fun j h3 h4 => by rw [hf _ (by omega) (by omega)])), (h.qu.frame h.ql (by rw [hf _ (by omega) (by omega)]) (fun j h3 h4 => by rw [hf _ (by omega) (by omega)]))⟩
theorem D8.setT (h : D8 g M) {i j v : Int} (h1 : 0 ≤ i ∧ i < 6) (h2 : 0 ≤ j ∧ j < 6) : D8 (zup1 g (21 + 6 * i + j) v) (M.wT (zup2 M.T i j v)) := D8.mk ⟨(h.al), (h.wl), (h.ll), (h.ql), (by rw [zup1_b (by omega)]; exact h.an0), (by rw [zup1_b (by omega)]; exact h.wn0), (by rw [zup1_b (by omega)]; exact h.tm), (fun i h1 h2 => by rw [zup1_b (by omega)]; exact h.ru i h1 h2), (fun k nm hk => by have := h.lt hk; rw [zup1_b (by omega)]; exact h.an k nm hk), (fun k nm hk => by have := h.wlt hk; rw [zup1_b (by omega)]; exact h.wn k nm hk), (fun x y h3 h4 h5 h6 => by
    show _ = if x = i ∧ y = j then v else M.T x y
    by_cases e : x = i ∧ y = j
    · rw [if_pos e, e.1, e.2, zup1_at]
    · rw [if_neg e, zup1_b (by omega)]
      exact h.T x y h3 h4 h5 h6), (fun i j h1 h2 h3 h4 => by rw [zup1_b (by omega)]; exact h.ac i j h1 h2 h3 h4), (fun i h1 h2 => (h.li i h1 h2).frame (h.ll i h1 h2) (fun j h3 h4 => by rw [zup1_b (by omega)])), (h.qu.frame h.ql (by rw [zup1_b (by omega)]) (fun j h3 h4 => by rw [zup1_b (by omega)]))⟩
theorem D8.setAc (h : D8 g M) {i j v : Int} (h1 : 0 ≤ i ∧ i < 6) (h2 : 0 ≤ j ∧ j < 5) : D8 (zup1 g (57 + 5 * i + j) v) (M.wac (zup2 M.ac i j v)) := D8.mk ⟨(h.al), (h.wl), (h.ll), (h.ql), (by rw [zup1_b (by omega)]; exact h.an0), (by rw [zup1_b (by omega)]; exact h.wn0), (by rw [zup1_b (by omega)]; exact h.tm), (fun i h1 h2 => by rw [zup1_b (by omega)]; exact h.ru i h1 h2), (fun k nm hk => by have := h.lt hk; rw [zup1_b (by omega)]; exact h.an k nm hk), (fun k nm hk => by have := h.wlt hk; rw [zup1_b (by omega)]; exact h.wn k nm hk), (fun i j h1 h2 h3 h4 => by rw [zup1_b (by omega)]; exact h.T i j h1 h2 h3 h4), (fun x y h3 h4 h5 h6 => by
    show _ = if x = i ∧ y = j then v else M.ac x y
    by_cases e : x = i ∧ y = j
    · rw [if_pos e, e.1, e.2, zup1_at]
    · rw [if_neg e, zup1_b (by omega)]
      exact h.ac x y h3 h4 h5 h6), (fun i h1 h2 => (h.li i h1 h2).frame (h.ll i h1 h2) (fun j h3 h4 => by rw [zup1_b (by omega)])), (h.qu.frame h.ql (by rw [zup1_b (by omega)]) (fun j h3 h4 => by rw [zup1_b (by omega)]))⟩
theorem D8.setRu (h : D8 g M) {i v : Int} (h1 : 0 ≤ i ∧ i < 5) : D8 (zup1 g (3 + i) v) (M.wru (zup1 M.ru i v)) := D8.mk ⟨(h.al), (h.wl), (h.ll), (h.ql), (by rw [zup1_b (by omega)]; exact h.an0), (by rw [zup1_b (by omega)]; exact h.wn0), (by rw [zup1_b (by omega)]; exact h.tm), (fun x h3 h4 => by
    show _ = zup1 M.ru i v x
    by_cases e : x = i
    · rw [e, zup1_at, zup1_at]
    · rw [zup1_b e, zup1_b (by omega)]
      exact h.ru x h3 h4), (fun k nm hk => by have := h.lt hk; rw [zup1_b (by omega)]; exact h.an k nm hk), (fun k nm hk => by have := h.wlt hk; rw [zup1_b (by omega)]; exact h.wn k nm hk), (fun i j h1 h2 h3 h4 => by rw [zup1_b (by omega)]; exact h.T i j h1 h2 h3 h4), (fun i j h1 h2 h3 h4 => by rw [zup1_b (by omega)]; exact h.ac i j h1 h2 h3 h4), (fun i h1 h2 => (h.li i h1 h2).frame (h.ll i h1 h2) (fun j h3 h4 => by rw [zup1_b (by omega)])), (h.qu.frame h.ql (by rw [zup1_b (by omega)]) (fun j h3 h4 => by rw [zup1_b (by omega)]))⟩
theorem D8.setTm (h : D8 g M) {v : Int} : D8 (zup1 g 2 v) (M.wtm v) := D8.mk ⟨(h.al), (h.wl), (h.ll), (h.ql), (by rw [zup1_b (by omega)]; exact h.an0), (by rw [zup1_b (by omega)]; exact h.wn0), (zup1_at), (fun i h1 h2 => by rw [zup1_b (by omega)]; exact h.ru i h1 h2), (fun k nm hk => by have := h.lt hk; rw [zup1_b (by omega)]; exact h.an k nm hk), (fun k nm hk => by have := h.wlt hk; rw [zup1_b (by omega)]; exact h.wn k nm hk), (fun i j h1 h2 h3 h4 => by rw [zup1_b (by omega)]; exact h.T i j h1 h2 h3 h4), (fun i j h1 h2 h3 h4 => by rw [zup1_b (by omega)]; exact h.ac i j h1 h2 h3 h4), (fun i h1 h2 => (h.li i h1 h2).frame (h.ll i h1 h2) (fun j h3 h4 => by rw [zup1_b (by omega)])), (h.qu.frame h.ql (by rw [zup1_b (by omega)]) (fun j h3 h4 => by rw [zup1_b (by omega)]))⟩
theorem D8.setLi (h : D8 g M) {i : Int} {l : List zP} (h1 : 0 ≤ i) (h2 : i < 6) (hl : l.length ≤ 36) (hR : LR8 g' i l) (hf : ∀ j, 0 ≤ j → j < 2405 → (j < 87 + 253 * i ∨ 340 + 253 * i ≤ j) → g' j = g j) : D8 g' (M.wli (zup1 M.li i l)) := D8.mk ⟨(h.al), (h.wl), (fun j h3 h4 => by
    show (zup1 M.li i l j).length ≤ 36
    by_cases e : j = i
    · rw [e, zup1_at]; exact hl
    · rw [zup1_b e]; exact h.ll j h3 h4), (h.ql), (by rw [hf _ (by omega) (by omega) (by omega)]; exact h.an0), (by rw [hf _ (by omega) (by omega) (by omega)]; exact h.wn0), (by rw [hf _ (by omega) (by omega) (by omega)]; exact h.tm), (fun i h1 h2 => by rw [hf _ (by omega) (by omega) (by omega)]; exact h.ru i h1 h2), (fun k nm hk => by have := h.lt hk; rw [hf _ (by omega) (by omega) (by omega)]; exact h.an k nm hk), (fun k nm hk => by have := h.wlt hk; rw [hf _ (by omega) (by omega) (by omega)]; exact h.wn k nm hk), (fun i j h1 h2 h3 h4 => by rw [hf _ (by omega) (by omega) (by omega)]; exact h.T i j h1 h2 h3 h4), (fun i j h1 h2 h3 h4 => by rw [hf _ (by omega) (by omega) (by omega)]; exact h.ac i j h1 h2 h3 h4), (fun j h3 h4 => by
    show LR8 g' _ (zup1 M.li i l j)
    by_cases e : j = i
    · rw [e, zup1_at]; exact hR
    · rw [zup1_b e]
      exact (h.li j h3 h4).frame (h.ll j h3 h4) (fun k h5 h6 => by rw [hf _ (by omega) (by omega) (by omega)])), (h.qu.frame h.ql (by rw [hf _ (by omega) (by omega) (by omega)]) (fun j h3 h4 => by rw [hf _ (by omega) (by omega) (by omega)]))⟩
theorem D8.setQu (h : D8 g M) {l : List zP} (hl : l.length ≤ 100) (hR : QR8 g' l) (hf : ∀ j, 0 ≤ j → j < 1605 → j ≠ 8 → g' j = g j) : D8 g' (M.wqu l) := D8.mk ⟨(h.al), (h.wl), (h.ll), (hl), (by rw [hf _ (by omega) (by omega) (by omega)]; exact h.an0), (by rw [hf _ (by omega) (by omega) (by omega)]; exact h.wn0), (by rw [hf _ (by omega) (by omega) (by omega)]; exact h.tm), (fun i h1 h2 => by rw [hf _ (by omega) (by omega) (by omega)]; exact h.ru i h1 h2), (fun k nm hk => by have := h.lt hk; rw [hf _ (by omega) (by omega) (by omega)]; exact h.an k nm hk), (fun k nm hk => by have := h.wlt hk; rw [hf _ (by omega) (by omega) (by omega)]; exact h.wn k nm hk), (fun i j h1 h2 h3 h4 => by rw [hf _ (by omega) (by omega) (by omega)]; exact h.T i j h1 h2 h3 h4), (fun i j h1 h2 h3 h4 => by rw [hf _ (by omega) (by omega) (by omega)]; exact h.ac i j h1 h2 h3 h4), (fun i h1 h2 => (h.li i h1 h2).frame (h.ll i h1 h2) (fun j h3 h4 => by rw [hf _ (by omega) (by omega) (by omega)])), (hR)⟩
theorem b_agents (H : MSh S m A) (h : D8 (μ A) M) : f_X8_agents m (S, μ) = some (.inl (M.an.length : Int), (S, μ)) := by
  apply zo_un
  refine j_X8_agents ?_
  refine zo_gr H.o H.r3 (by omega) (by omega) ?_
  refine zo_ld H.A (by omega) h.an0 ?_
  exact zo_rt rfl
theorem b_ways (H : MSh S m A) (h : D8 (μ A) M) : f_X8_ways m (S, μ) = some (.inl (M.wn.length : Int), (S, μ)) := by
  apply zo_un
  refine j_X8_ways ?_
  refine zo_gr H.o H.r3 (by omega) (by omega) ?_
  refine zo_ld H.A (by omega) h.wn0 ?_
  exact zo_rt rfl
theorem b_rule (H : MSh S m A) (h : D8 (μ A) M) {i : Int} (hi : 0 ≤ i ∧ i < 5) : f_X8_rule m i (S, μ) = some (.inl (M.ru i), (S, μ)) := by
  have e : w32 (3 + i) = 3 + i := w32_e (by omega)
  apply zo_un
  refine j_X8_rule ?_
  rw [e]
  refine zo_gr H.o H.r3 (by omega) (by omega) ?_
  refine zo_ld H.A (by omega) (h.ru i hi.1 hi.2) ?_
  exact zo_rt rfl
theorem b_in {v lo hi : Int} {σ : zS} : f_X8_in v lo hi σ = some (.inl (zbl (lo ≤ v ∧ v ≤ hi)), σ) := by
  apply zo_un
  refine j_X8_in ?_
  have h1 : zlc v lo < 0 ↔ v < lo := by
    unfold zlc
    split
    · omega
    · split <;> omega
  have h2 : 0 < zlc v hi ↔ hi < v := by
    unfold zlc
    split
    · omega
    · split <;> omega
  refine zo_ite (fun e => ?_) (fun e => ?_)
  · have := h1.mp e
    refine zo_rt ?_
    rw [zbl_n (by omega)]
  · have e1 : ¬ v < lo := fun z => e (h1.mpr z)
    refine zo_ite (fun e => ?_) (fun e => ?_)
    · have := h2.mp e
      refine zo_rt ?_
      rw [zbl_n (by omega)]
    · have e2 : ¬ hi < v := fun z => e (h2.mpr z)
      refine zo_rt ?_
      rw [zbl_p (by omega)]
theorem b_isAgent (H : MSh S m A) (h : D8 (μ A) M) {a : Int} : f_X8_isAgent m a (S, μ) = some (.inl (zbl (0 ≤ a ∧ a < (M.an.length : Int))), (S, μ)) := by
  have h6 := h.al
  have e : w32 ((M.an.length : Int) - 1) = (M.an.length : Int) - 1 := w32_e (by omega)
  apply zo_un
  refine j_X8_isAgent ?_
  refine zo_ob H.o (by omega) ?_
  refine zo_bn (b_agents H h) ?_
  refine zo_bn b_in ?_
  rw [e, zbl_i (show (0 ≤ a ∧ a ≤ (M.an.length : Int) - 1) ↔ (0 ≤ a ∧ a < (M.an.length : Int)) by omega)]
  exact zo_pos (zbl_01 _) (zo_rt rfl)
theorem b_isWay (H : MSh S m A) (h : D8 (μ A) M) {a : Int} : f_X8_isWay m a (S, μ) = some (.inl (zbl (0 ≤ a ∧ a < (M.wn.length : Int))), (S, μ)) := by
  have h6 := h.wl
  have e : w32 ((M.wn.length : Int) - 1) = (M.wn.length : Int) - 1 := w32_e (by omega)
  apply zo_un
  refine j_X8_isWay ?_
  refine zo_ob H.o (by omega) ?_
  refine zo_bn (b_ways H h) ?_
  refine zo_bn b_in ?_
  rw [e, zbl_i (show (0 ≤ a ∧ a ≤ (M.wn.length : Int) - 1) ↔ (0 ≤ a ∧ a < (M.wn.length : Int)) by omega)]
  exact zo_pos (zbl_01 _) (zo_rt rfl)
theorem i_T {a o : Int} (ha : 0 ≤ a ∧ a < 6) (ho : 0 ≤ o ∧ o < 6) : w32 ((w32 (21 + (w32 (6 * a)))) + o) = 21 + 6 * a + o := by
  rw [w32_e (z := 6 * a) (by omega), w32_e (z := 21 + 6 * a) (by omega), w32_e (by omega)]
theorem i_ac {a o : Int} (ha : 0 ≤ a ∧ a < 6) (ho : 0 ≤ o ∧ o < 5) : w32 ((w32 (57 + (w32 (5 * a)))) + o) = 57 + 5 * a + o := by
  rw [w32_e (z := 5 * a) (by omega), w32_e (z := 57 + 5 * a) (by omega), w32_e (by omega)]
theorem b_trustOf (H : MSh S m A) (h : D8 (μ A) M) {a o : Int} (ha : 0 ≤ a ∧ a < 6) (ho : 0 ≤ o ∧ o < 6) : f_X8_trustOf m a o (S, μ) = some (.inl (M.T a o), (S, μ)) := by
  apply zo_un
  refine j_X8_trustOf ?_
  rw [i_T ha ho]
  refine zo_gr H.o H.r3 (by omega) (by omega) ?_
  refine zo_ld H.A (by omega) (h.T a o ha.1 ha.2 ho.1 ho.2) ?_
  exact zo_rt rfl
theorem b_putTrust (H : MSh S m A) (h : D8 (μ A) M) {a o v : Int} (ha : 0 ≤ a ∧ a < 6) (ho : 0 ≤ o ∧ o < 6) : ∃ μ', f_X8_putTrust m a o v (S, μ) = some (.inl 0, (S, μ')) ∧ D8 (μ' A) (M.wT (zup2 M.T a o v)) ∧ FA A μ μ' := by
  apply zo_ux
  refine j_X8_putTrust ?_
  rw [i_T ha ho]
  refine zo_gr H.o H.r3 (by omega) (by omega) ?_
  refine zo_si H.A (by omega) ?_
  exact zo_rt ⟨_, rfl, by rw [zup_fn]; exact h.setT ha ho, FA.up⟩
theorem b_areLinked (H : MSh S m A) (h : D8 (μ A) M) {a o : Int} (ha : 0 ≤ a ∧ a < 6) (ho : 0 ≤ o ∧ o < 6) : f_X8_areLinked m a o (S, μ) = some (.inl (zbl (¬ M.T a o = -1)), (S, μ)) := by
  apply zo_un
  refine j_X8_areLinked ?_
  refine zo_ob H.o (by omega) ?_
  refine zo_bn (b_trustOf H h ha ho) ?_
  refine zo_ite (fun e => ?_) (fun e => ?_)
  · exact zo_rt (by rw [zbl_n (fun z => z e)])
  · exact zo_rt (by rw [zbl_p e])
theorem b_listAt {a : Int} {σ : zS} (ha : 0 ≤ a ∧ a < 6) : f_X8_listAt a σ = some (.inl (87 + 253 * a), σ) := by
  apply zo_un
  refine j_X8_listAt ?_
  rw [w32_e (z := 253 * a) (by omega), w32_e (by omega)]
  exact zo_rt rfl
theorem b_reportAt {a k : Int} {σ : zS} (ha : 0 ≤ a ∧ a < 6) (hk : 0 ≤ k ∧ k ≤ 36) : f_X8_reportAt a k σ = some (.inl (88 + 253 * a + 7 * k), σ) := by
  apply zo_un
  refine j_X8_reportAt ?_
  refine zo_bn (b_listAt ha) ?_
  rw [w32_e (z := 87 + 253 * a + 1) (by omega), w32_e (z := 7 * k) (by omega), w32_e (by omega)]
  refine zo_rt ?_
  rw [show 87 + 253 * a + 1 + 7 * k = 88 + 253 * a + 7 * k by omega]
theorem b_manyOf (H : MSh S m A) (h : D8 (μ A) M) {a : Int} (ha : 0 ≤ a ∧ a < 6) : f_X8_manyOf m a (S, μ) = some (.inl ((M.li a).length : Int), (S, μ)) := by
  apply zo_un
  refine j_X8_manyOf ?_
  refine zo_gr H.o H.r3 (by omega) (by omega) ?_
  refine zo_bn (b_listAt ha) ?_
  refine zo_ld H.A (by omega) (h.li a ha.1 ha.2).1 ?_
  exact zo_rt rfl
theorem b_ofReport (H : MSh S m A) (h : D8 (μ A) M) {a : Int} {k c : Nat} {p : zP} (ha : 0 ≤ a ∧ a < 6) (hk : (M.li a)[k]? = some p) (hc : c < 7) : f_X8_ofReport m a (k : Int) (c : Int) (S, μ) = some (.inl (p c), (S, μ)) := by
  have hl := (List.getElem?_eq_some_iff.mp hk).1
  have h36 := h.ll a ha.1 ha.2
  apply zo_un
  refine j_X8_ofReport ?_
  refine zo_gr H.o H.r3 (by omega) (by omega) ?_
  refine zo_bn (b_reportAt ha (by omega)) ?_
  have e : w32 (88 + 253 * a + 7 * (k : Int) + (c : Int)) = 88 + 253 * a + 7 * (k : Int) + (c : Int) := w32_e (by omega)
  rw [e]
  refine zo_ld H.A (by omega) ((h.li a ha.1 ha.2).2 k p hk c hc) ?_
  exact zo_rt rfl
theorem b_ofR0 (H : MSh S m A) (h : D8 (μ A) M) {a : Int} {k : Nat} {p : zP} (ha : 0 ≤ a ∧ a < 6) (hk : (M.li a)[k]? = some p) : f_X8_ofReport m a (k : Int) 0 (S, μ) = some (.inl (p 0), (S, μ)) := b_ofReport (c := 0) H h ha hk (by decide)
theorem b_ofR1 (H : MSh S m A) (h : D8 (μ A) M) {a : Int} {k : Nat} {p : zP} (ha : 0 ≤ a ∧ a < 6) (hk : (M.li a)[k]? = some p) : f_X8_ofReport m a (k : Int) 1 (S, μ) = some (.inl (p 1), (S, μ)) := b_ofReport (c := 1) H h ha hk (by decide)
theorem b_ofR2 (H : MSh S m A) (h : D8 (μ A) M) {a : Int} {k : Nat} {p : zP} (ha : 0 ≤ a ∧ a < 6) (hk : (M.li a)[k]? = some p) : f_X8_ofReport m a (k : Int) 2 (S, μ) = some (.inl (p 2), (S, μ)) := b_ofReport (c := 2) H h ha hk (by decide)
theorem b_ofR3 (H : MSh S m A) (h : D8 (μ A) M) {a : Int} {k : Nat} {p : zP} (ha : 0 ≤ a ∧ a < 6) (hk : (M.li a)[k]? = some p) : f_X8_ofReport m a (k : Int) 3 (S, μ) = some (.inl (p 3), (S, μ)) := b_ofReport (c := 3) H h ha hk (by decide)
theorem b_ofR4 (H : MSh S m A) (h : D8 (μ A) M) {a : Int} {k : Nat} {p : zP} (ha : 0 ≤ a ∧ a < 6) (hk : (M.li a)[k]? = some p) : f_X8_ofReport m a (k : Int) 4 (S, μ) = some (.inl (p 4), (S, μ)) := b_ofReport (c := 4) H h ha hk (by decide)
theorem b_ofR5 (H : MSh S m A) (h : D8 (μ A) M) {a : Int} {k : Nat} {p : zP} (ha : 0 ≤ a ∧ a < 6) (hk : (M.li a)[k]? = some p) : f_X8_ofReport m a (k : Int) 5 (S, μ) = some (.inl (p 5), (S, μ)) := b_ofReport (c := 5) H h ha hk (by decide)
theorem b_ofR6 (H : MSh S m A) (h : D8 (μ A) M) {a : Int} {k : Nat} {p : zP} (ha : 0 ≤ a ∧ a < 6) (hk : (M.li a)[k]? = some p) : f_X8_ofReport m a (k : Int) 6 (S, μ) = some (.inl (p 6), (S, μ)) := b_ofReport (c := 6) H h ha hk (by decide)
theorem b_queued (H : MSh S m A) (h : D8 (μ A) M) : f_X8_queued m (S, μ) = some (.inl (M.qu.length : Int), (S, μ)) := by
  apply zo_un
  refine j_X8_queued ?_
  refine zo_gr H.o H.r3 (by omega) (by omega) ?_
  refine zo_ld H.A (by omega) h.qu.1 ?_
  exact zo_rt rfl
theorem b_messageAt {k : Int} {σ : zS} (hk : 0 ≤ k ∧ k ≤ 100) : f_X8_messageAt k σ = some (.inl (1605 + 8 * k), σ) := by
  apply zo_un
  refine j_X8_messageAt ?_
  rw [w32_e (z := 8 * k) (by omega), w32_e (by omega)]
  exact zo_rt rfl
theorem b_ofMessage (H : MSh S m A) (h : D8 (μ A) M) {k c : Nat} {p : zP} (hk : M.qu[k]? = some p) (hc : c < 8) : f_X8_ofMessage m (k : Int) (c : Int) (S, μ) = some (.inl (p c), (S, μ)) := by
  have hl := (List.getElem?_eq_some_iff.mp hk).1
  have h36 := h.ql
  apply zo_un
  refine j_X8_ofMessage ?_
  refine zo_gr H.o H.r3 (by omega) (by omega) ?_
  refine zo_bn (b_messageAt (by omega)) ?_
  have e : w32 (1605 + 8 * (k : Int) + (c : Int)) = 1605 + 8 * (k : Int) + (c : Int) := w32_e (by omega)
  rw [e]
  refine zo_ld H.A (by omega) (h.qu.2 k p hk c hc) ?_
  exact zo_rt rfl
theorem b_ofM0 (H : MSh S m A) (h : D8 (μ A) M) {k : Nat} {p : zP} (hk : M.qu[k]? = some p) : f_X8_ofMessage m (k : Int) 0 (S, μ) = some (.inl (p 0), (S, μ)) := b_ofMessage (c := 0) H h hk (by decide)
theorem b_ofM1 (H : MSh S m A) (h : D8 (μ A) M) {k : Nat} {p : zP} (hk : M.qu[k]? = some p) : f_X8_ofMessage m (k : Int) 1 (S, μ) = some (.inl (p 1), (S, μ)) := b_ofMessage (c := 1) H h hk (by decide)
theorem b_ofM2 (H : MSh S m A) (h : D8 (μ A) M) {k : Nat} {p : zP} (hk : M.qu[k]? = some p) : f_X8_ofMessage m (k : Int) 2 (S, μ) = some (.inl (p 2), (S, μ)) := b_ofMessage (c := 2) H h hk (by decide)
theorem b_ofM3 (H : MSh S m A) (h : D8 (μ A) M) {k : Nat} {p : zP} (hk : M.qu[k]? = some p) : f_X8_ofMessage m (k : Int) 3 (S, μ) = some (.inl (p 3), (S, μ)) := b_ofMessage (c := 3) H h hk (by decide)
theorem b_ofM4 (H : MSh S m A) (h : D8 (μ A) M) {k : Nat} {p : zP} (hk : M.qu[k]? = some p) : f_X8_ofMessage m (k : Int) 4 (S, μ) = some (.inl (p 4), (S, μ)) := b_ofMessage (c := 4) H h hk (by decide)
theorem b_ofM5 (H : MSh S m A) (h : D8 (μ A) M) {k : Nat} {p : zP} (hk : M.qu[k]? = some p) : f_X8_ofMessage m (k : Int) 5 (S, μ) = some (.inl (p 5), (S, μ)) := b_ofMessage (c := 5) H h hk (by decide)
theorem b_ofM6 (H : MSh S m A) (h : D8 (μ A) M) {k : Nat} {p : zP} (hk : M.qu[k]? = some p) : f_X8_ofMessage m (k : Int) 6 (S, μ) = some (.inl (p 6), (S, μ)) := b_ofMessage (c := 6) H h hk (by decide)
theorem b_ofM7 (H : MSh S m A) (h : D8 (μ A) M) {k : Nat} {p : zP} (hk : M.qu[k]? = some p) : f_X8_ofMessage m (k : Int) 7 (S, μ) = some (.inl (p 7), (S, μ)) := b_ofMessage (c := 7) H h hk (by decide)
end C47
