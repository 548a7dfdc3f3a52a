/-! C 36: invariants, new rows -/
theorem w32_rng (z : Int) : -2147483648 ≤ w32 z ∧ w32 z < 2147483648 := by
  have h1 := Int.le_bmod (x := z) (m := 4294967296) (by decide)
  have h2 := Int.bmod_lt (x := z) (m := 4294967296) (by decide)
  unfold w32
  omega
def ROk (A W t i : Int) (p : zP) : Prop := (0 ≤ p 0 ∧ p 0 < A) ∧ (0 ≤ p 1 ∧ p 1 < A) ∧ (0 ≤ p 2 ∧ p 2 ≤ 3) ∧ (0 ≤ p 3 ∧ p 3 < W) ∧ (0 ≤ p 4 ∧ p 4 ≤ t) ∧ (0 ≤ p 5 ∧ p 5 ≤ p 6 ∧ p 6 ≤ 999) ∧ (p 1 = i ↔ p 0 = i) ∧ (p 2 = 0 ↔ p 0 = i)
theorem ROk.mk {A W t i : Int} {p : zP} (h : (0 ≤ p 0 ∧ p 0 < A) ∧ (0 ≤ p 1 ∧ p 1 < A) ∧ (0 ≤ p 2 ∧ p 2 ≤ 3) ∧ (0 ≤ p 3 ∧ p 3 < W) ∧ (0 ≤ p 4 ∧ p 4 ≤ t) ∧ (0 ≤ p 5 ∧ p 5 ≤ p 6 ∧ p 6 ≤ 999) ∧ (p 1 = i ↔ p 0 = i) ∧ (p 2 = 0 ↔ p 0 = i)) : ROk A W t i p := h
theorem ROk.o {A W t i : Int} {p : zP} (h : ROk A W t i p) : 0 ≤ p 0 ∧ p 0 < A := h.1
theorem ROk.v {A W t i : Int} {p : zP} (h : ROk A W t i p) : 0 ≤ p 1 ∧ p 1 < A := h.2.1
theorem ROk.h {A W t i : Int} {p : zP} (h : ROk A W t i p) : 0 ≤ p 2 ∧ p 2 ≤ 3 := h.2.2.1
theorem ROk.w {A W t i : Int} {p : zP} (h : ROk A W t i p) : 0 ≤ p 3 ∧ p 3 < W := h.2.2.2.1
theorem ROk.t {A W t i : Int} {p : zP} (h : ROk A W t i p) : 0 ≤ p 4 ∧ p 4 ≤ t := h.2.2.2.2.1
theorem ROk.b {A W t i : Int} {p : zP} (h : ROk A W t i p) : 0 ≤ p 5 ∧ p 5 ≤ p 6 ∧ p 6 ≤ 999 := h.2.2.2.2.2.1
theorem ROk.e1 {A W t i : Int} {p : zP} (h : ROk A W t i p) : p 1 = i ↔ p 0 = i := h.2.2.2.2.2.2.1
theorem ROk.e2 {A W t i : Int} {p : zP} (h : ROk A W t i p) : p 2 = 0 ↔ p 0 = i := h.2.2.2.2.2.2.2
def QOk (A W t : Int) (p : zP) : Prop := (0 ≤ p 0 ∧ p 0 < A) ∧ (0 ≤ p 1 ∧ p 1 < A) ∧ (1 ≤ p 2 ∧ p 2 ≤ 3) ∧ (0 ≤ p 3 ∧ p 3 < W) ∧ (0 ≤ p 4 ∧ p 4 ≤ t) ∧ (0 ≤ p 5 ∧ p 5 ≤ p 6 ∧ p 6 ≤ 999) ∧ (0 ≤ p 7 ∧ p 7 < A) ∧ (¬ p 7 = p 0) ∧ (¬ p 7 = p 1)
theorem QOk.mk {A W t : Int} {p : zP} (h : (0 ≤ p 0 ∧ p 0 < A) ∧ (0 ≤ p 1 ∧ p 1 < A) ∧ (1 ≤ p 2 ∧ p 2 ≤ 3) ∧ (0 ≤ p 3 ∧ p 3 < W) ∧ (0 ≤ p 4 ∧ p 4 ≤ t) ∧ (0 ≤ p 5 ∧ p 5 ≤ p 6 ∧ p 6 ≤ 999) ∧ (0 ≤ p 7 ∧ p 7 < A) ∧ (¬ p 7 = p 0) ∧ (¬ p 7 = p 1)) : QOk A W t p := h
theorem QOk.o {A W t : Int} {p : zP} (h : QOk A W t p) : 0 ≤ p 0 ∧ p 0 < A := h.1
theorem QOk.v {A W t : Int} {p : zP} (h : QOk A W t p) : 0 ≤ p 1 ∧ p 1 < A := h.2.1
theorem QOk.h {A W t : Int} {p : zP} (h : QOk A W t p) : 1 ≤ p 2 ∧ p 2 ≤ 3 := h.2.2.1
theorem QOk.w {A W t : Int} {p : zP} (h : QOk A W t p) : 0 ≤ p 3 ∧ p 3 < W := h.2.2.2.1
theorem QOk.t {A W t : Int} {p : zP} (h : QOk A W t p) : 0 ≤ p 4 ∧ p 4 ≤ t := h.2.2.2.2.1
theorem QOk.b {A W t : Int} {p : zP} (h : QOk A W t p) : 0 ≤ p 5 ∧ p 5 ≤ p 6 ∧ p 6 ≤ 999 := h.2.2.2.2.2.1
theorem QOk.g {A W t : Int} {p : zP} (h : QOk A W t p) : 0 ≤ p 7 ∧ p 7 < A := h.2.2.2.2.2.2.1
theorem QOk.g0 {A W t : Int} {p : zP} (h : QOk A W t p) : ¬ p 7 = p 0 := h.2.2.2.2.2.2.2.1
theorem QOk.g1 {A W t : Int} {p : zP} (h : QOk A W t p) : ¬ p 7 = p 1 := h.2.2.2.2.2.2.2.2
def NOk (l : List Int) : Prop := (1 ≤ l.length ∧ l.length ≤ 6) ∧ (∀ x, x ∈ l → 1 ≤ x ∧ x ≤ 26)
theorem NOk.mk {l : List Int} (h : (1 ≤ l.length ∧ l.length ≤ 6) ∧ (∀ x, x ∈ l → 1 ≤ x ∧ x ≤ 26)) : NOk l := h
theorem NOk.n {l : List Int} (h : NOk l) : 1 ≤ l.length ∧ l.length ≤ 6 := h.1
theorem NOk.c {l : List Int} (h : NOk l) : ∀ x, x ∈ l → 1 ≤ x ∧ x ≤ 26 := h.2
def WF (B : Int) (M : zD) : Prop := (B ≤ 1000000) ∧ (0 ≤ M.tm ∧ M.tm ≤ B) ∧ (M.an.length ≤ 6) ∧ (M.wn.length ≤ 6) ∧ (0 ≤ M.ru 0 ∧ M.ru 0 ≤ 20) ∧ (0 ≤ M.ru 1 ∧ M.ru 1 ≤ 50) ∧ (0 ≤ M.ru 2 ∧ M.ru 2 ≤ 10) ∧ (1 ≤ M.ru 3 ∧ M.ru 3 ≤ 99) ∧ (1 ≤ M.ru 4 ∧ M.ru 4 ≤ 3) ∧ (∀ i j, -1 ≤ M.T i j ∧ M.T i j ≤ 10) ∧ (∀ i, M.T i i = -1) ∧ (∀ i j, M.T i j = -1 → M.T j i = -1) ∧ (∀ i j, ¬ M.T i j = -1 → 0 ≤ i ∧ i < (M.an.length : Int) ∧ 0 ≤ j ∧ j < (M.an.length : Int)) ∧ (∀ i p, p ∈ M.li i → ROk (M.an.length : Int) (M.wn.length : Int) M.tm i p) ∧ (∀ i, ¬ (0 ≤ i ∧ i < (M.an.length : Int)) → M.li i = []) ∧ (∀ i, (M.li i).Pairwise (fun p q => ¬ (p 0 = q 0 ∧ p 3 = q 3))) ∧ (∀ p, p ∈ M.qu → QOk (M.an.length : Int) (M.wn.length : Int) M.tm p) ∧ (M.qu.length ≤ 100) ∧ (M.an.Nodup ∧ ∀ l, l ∈ M.an → NOk l) ∧ (M.wn.Nodup ∧ ∀ l, l ∈ M.wn → NOk l) ∧ (∀ i j, zI (M.ac i j))
theorem WF.mk {B : Int} {M : zD} (h : (B ≤ 1000000) ∧ (0 ≤ M.tm ∧ M.tm ≤ B) ∧ (M.an.length ≤ 6) ∧ (M.wn.length ≤ 6) ∧ (0 ≤ M.ru 0 ∧ M.ru 0 ≤ 20) ∧ (0 ≤ M.ru 1 ∧ M.ru 1 ≤ 50) ∧ (0 ≤ M.ru 2 ∧ M.ru 2 ≤ 10) ∧ (1 ≤ M.ru 3 ∧ M.ru 3 ≤ 99) ∧ (1 ≤ M.ru 4 ∧ M.ru 4 ≤ 3) ∧ (∀ i j, -1 ≤ M.T i j ∧ M.T i j ≤ 10) ∧ (∀ i, M.T i i = -1) ∧ (∀ i j, M.T i j = -1 → M.T j i = -1) ∧ (∀ i j, ¬ M.T i j = -1 → 0 ≤ i ∧ i < (M.an.length : Int) ∧ 0 ≤ j ∧ j < (M.an.length : Int)) ∧ (∀ i p, p ∈ M.li i → ROk (M.an.length : Int) (M.wn.length : Int) M.tm i p) ∧ (∀ i, ¬ (0 ≤ i ∧ i < (M.an.length : Int)) → M.li i = []) ∧ (∀ i, (M.li i).Pairwise (fun p q => ¬ (p 0 = q 0 ∧ p 3 = q 3))) ∧ (∀ p, p ∈ M.qu → QOk (M.an.length : Int) (M.wn.length : Int) M.tm p) ∧ (M.qu.length ≤ 100) ∧ (M.an.Nodup ∧ ∀ l, l ∈ M.an → NOk l) ∧ (M.wn.Nodup ∧ ∀ l, l ∈ M.wn → NOk l) ∧ (∀ i j, zI (M.ac i j))) : WF B M := h
theorem WF.B0 {B : Int} {M : zD} (h : WF B M) : B ≤ 1000000 := h.1
theorem WF.tm {B : Int} {M : zD} (h : WF B M) : 0 ≤ M.tm ∧ M.tm ≤ B := h.2.1
theorem WF.al {B : Int} {M : zD} (h : WF B M) : M.an.length ≤ 6 := h.2.2.1
theorem WF.wl {B : Int} {M : zD} (h : WF B M) : M.wn.length ≤ 6 := h.2.2.2.1
theorem WF.r0 {B : Int} {M : zD} (h : WF B M) : 0 ≤ M.ru 0 ∧ M.ru 0 ≤ 20 := h.2.2.2.2.1
theorem WF.r1 {B : Int} {M : zD} (h : WF B M) : 0 ≤ M.ru 1 ∧ M.ru 1 ≤ 50 := h.2.2.2.2.2.1
theorem WF.r2 {B : Int} {M : zD} (h : WF B M) : 0 ≤ M.ru 2 ∧ M.ru 2 ≤ 10 := h.2.2.2.2.2.2.1
theorem WF.r3 {B : Int} {M : zD} (h : WF B M) : 1 ≤ M.ru 3 ∧ M.ru 3 ≤ 99 := h.2.2.2.2.2.2.2.1
theorem WF.r4 {B : Int} {M : zD} (h : WF B M) : 1 ≤ M.ru 4 ∧ M.ru 4 ≤ 3 := h.2.2.2.2.2.2.2.2.1
theorem WF.Tr {B : Int} {M : zD} (h : WF B M) : ∀ i j, -1 ≤ M.T i j ∧ M.T i j ≤ 10 := h.2.2.2.2.2.2.2.2.2.1
theorem WF.Ti {B : Int} {M : zD} (h : WF B M) : ∀ i, M.T i i = -1 := h.2.2.2.2.2.2.2.2.2.2.1
theorem WF.Ts {B : Int} {M : zD} (h : WF B M) : ∀ i j, M.T i j = -1 → M.T j i = -1 := h.2.2.2.2.2.2.2.2.2.2.2.1
theorem WF.Ta {B : Int} {M : zD} (h : WF B M) : ∀ i j, ¬ M.T i j = -1 → 0 ≤ i ∧ i < (M.an.length : Int) ∧ 0 ≤ j ∧ j < (M.an.length : Int) := h.2.2.2.2.2.2.2.2.2.2.2.2.1
theorem WF.li {B : Int} {M : zD} (h : WF B M) : ∀ i p, p ∈ M.li i → ROk (M.an.length : Int) (M.wn.length : Int) M.tm i p := h.2.2.2.2.2.2.2.2.2.2.2.2.2.1
theorem WF.lz {B : Int} {M : zD} (h : WF B M) : ∀ i, ¬ (0 ≤ i ∧ i < (M.an.length : Int)) → M.li i = [] := h.2.2.2.2.2.2.2.2.2.2.2.2.2.2.1
theorem WF.nd {B : Int} {M : zD} (h : WF B M) : ∀ i, (M.li i).Pairwise (fun p q => ¬ (p 0 = q 0 ∧ p 3 = q 3)) := h.2.2.2.2.2.2.2.2.2.2.2.2.2.2.2.1
theorem WF.qu {B : Int} {M : zD} (h : WF B M) : ∀ p, p ∈ M.qu → QOk (M.an.length : Int) (M.wn.length : Int) M.tm p := h.2.2.2.2.2.2.2.2.2.2.2.2.2.2.2.2.1
theorem WF.ql {B : Int} {M : zD} (h : WF B M) : M.qu.length ≤ 100 := h.2.2.2.2.2.2.2.2.2.2.2.2.2.2.2.2.2.1
theorem WF.an {B : Int} {M : zD} (h : WF B M) : M.an.Nodup ∧ ∀ l, l ∈ M.an → NOk l := h.2.2.2.2.2.2.2.2.2.2.2.2.2.2.2.2.2.2.1
theorem WF.wn {B : Int} {M : zD} (h : WF B M) : M.wn.Nodup ∧ ∀ l, l ∈ M.wn → NOk l := h.2.2.2.2.2.2.2.2.2.2.2.2.2.2.2.2.2.2.2.1
theorem WF.ai {B : Int} {M : zD} (h : WF B M) : ∀ i j, zI (M.ac i j) := h.2.2.2.2.2.2.2.2.2.2.2.2.2.2.2.2.2.2.2.2
theorem nd_len : ∀ (n : Nat) (l : List Int), l.Nodup → (∀ x, x ∈ l → 0 ≤ x ∧ x < (n : Int)) → l.length ≤ n := by
  intro n
  induction n with
  | zero =>
    intro l _ h
    cases l with
    | nil => exact Nat.le_refl _
    | cons x r => have := h x (List.mem_cons_self ..); omega
  | succ n ih =>
    intro l hn h
    have h1 := ih (l.erase (n : Int)) (hn.erase _) (fun x hx => by
      have h2 := h x (List.mem_of_mem_erase hx)
      have h3 := (hn.mem_erase_iff.mp hx).1
      omega)
    have h4 : l.length ≤ (l.erase (n : Int)).length + 1 := by
      have := List.length_erase (a := (n : Int)) (l := l)
      rw [this]
      split <;> omega
    omega
theorem WF.len {B : Int} {M : zD} (h : WF B M) (i : Int) : (M.li i).length ≤ 36 := by
  have h1 := nd_len 36 ((M.li i).map (fun p => 6 * p 0 + p 3)) (by
    refine List.pairwise_map.mpr ?_
    refine List.Pairwise.imp_of_mem ?_ (h.nd i)
    intro p q hp hq hpq e
    have r1 := h.li i p hp
    have r2 := h.li i q hq
    have o1 := r1.o
    have o2 := r2.o
    have w1 := r1.w
    have w2 := r2.w
    have h6 := h.al
    have h7 := h.wl
    exact hpq (by omega)) (by
    intro x hx
    obtain ⟨p, hp, e⟩ := List.mem_map.mp hx
    have r1 := h.li i p hp
    have o1 := r1.o
    have w1 := r1.w
    have h6 := h.al
    have h7 := h.wl
    omega)
  rw [List.length_map] at h1
  exact h1
def zrow (o v h w t lo hi : Int) : zP := fun c => match c with
  | 0 => o
  | 1 => v
  | 2 => h
  | 3 => w
  | 4 => t
  | 5 => lo
  | _ => hi
def zcut (m : zP) : zP := zrow (m 0) (m 1) (m 2) (m 3) (m 4) (m 5) (m 6)
theorem c7 {P : Nat → Prop} (h0 : P 0) (h1 : P 1) (h2 : P 2) (h3 : P 3) (h4 : P 4) (h5 : P 5) (h6 : P 6) : ∀ c, c < 7 → P c := by
  intro c hc
  match c with
  | 0 => exact h0
  | 1 => exact h1
  | 2 => exact h2
  | 3 => exact h3
  | 4 => exact h4
  | 5 => exact h5
  | 6 => exact h6
  | n + 7 => exact absurd hc (by omega)
def PRow (μ1 μ : zM) (a r : Int) (f : Int → Int) : Prop := (∀ x, x ≠ a → x ≠ a + 1 → μ x = μ1 x) ∧ (μ a 1 = r + 1) ∧ (∀ j, ¬ (8 * r ≤ j ∧ j < 8 * r + 8) → μ (a + 1) j = μ1 (a + 1) j) ∧ (∀ c, 0 ≤ c → c < 8 → μ (a + 1) (8 * r + c) = f c)
theorem PRow.mk {μ1 μ : zM} {a r : Int} {f : Int → Int} (h : (∀ x, x ≠ a → x ≠ a + 1 → μ x = μ1 x) ∧ (μ a 1 = r + 1) ∧ (∀ j, ¬ (8 * r ≤ j ∧ j < 8 * r + 8) → μ (a + 1) j = μ1 (a + 1) j) ∧ (∀ c, 0 ≤ c → c < 8 → μ (a + 1) (8 * r + c) = f c)) : PRow μ1 μ a r f := h
theorem PRow.fr {μ1 μ : zM} {a r : Int} {f : Int → Int} (h : PRow μ1 μ a r f) : ∀ x, x ≠ a → x ≠ a + 1 → μ x = μ1 x := h.1
theorem PRow.c {μ1 μ : zM} {a r : Int} {f : Int → Int} (h : PRow μ1 μ a r f) : μ a 1 = r + 1 := h.2.1
theorem PRow.o {μ1 μ : zM} {a r : Int} {f : Int → Int} (h : PRow μ1 μ a r f) : ∀ j, ¬ (8 * r ≤ j ∧ j < 8 * r + 8) → μ (a + 1) j = μ1 (a + 1) j := h.2.2.1
theorem PRow.v {μ1 μ : zM} {a r : Int} {f : Int → Int} (h : PRow μ1 μ a r f) : ∀ c, 0 ≤ c → c < 8 → μ (a + 1) (8 * r + c) = f c := h.2.2.2
theorem PRow.start {μ1 : zM} {a r : Int} : PRow μ1 (zup μ1 a 1 (r + 1)) a r (fun c => μ1 (a + 1) (8 * r + c)) := PRow.mk ⟨(fun x h1 h2 => zup_c h1), (zup_at), (fun j _ => zup_b (by omega)), (fun c _ _ => zup_b (by omega))⟩
section C36
variable {S : zG} {μ μ' μ1 : zM} {d : Int} {M : zD} {Q : zR × zS → Prop}
theorem PRow.put {a r c v n : Int} {f : Int → Int} (L : RSh S a n) (hn : 8 * (r + 1) ≤ n ∧ n ≤ 800) (hr : 0 ≤ r) (h : PRow μ1 μ a r f) (hc : 0 ≤ c ∧ c < 8) : ∃ μ', f_X5_put a r c v (S, μ) = some (.inl 0, (S, μ')) ∧ PRow μ1 μ' a r (zup1 f c v) := by
  refine ⟨_, c_X5_put L (by rw [h.c]; omega) hc (by rw [h.c]; exact hn.1) hn.2, ?_⟩
  refine PRow.mk ⟨fun x h1 h2 => by rw [zup_c h2]; exact h.fr x h1 h2, ?_, fun j hj => by rw [zup_j (by omega)]; exact h.o j hj, ?_⟩
  · rw [zup_b (by omega)]; exact h.c
  · intro x h1 h2
    by_cases e : x = c
    · rw [e, zup_at, zup1_at]
    · rw [zup_j (by omega), zup1_b e]
      exact h.v x h1 h2
theorem PRow.fin {a : Int} {f : Int → Int} {l : List zP} {p : zP} (h : PRow μ1 μ a (l.length : Int) f) (hl : LRp 7 μ1 a l) (hf : ∀ c : Nat, c < 7 → f (c : Int) = p c) : LRp 7 μ a (l ++ [p]) := by
  refine ⟨by rw [h.c, List.length_append]; rfl, ?_⟩
  intro k q hk c hc
  by_cases e : k < l.length
  · rw [List.getElem?_append_left e] at hk
    rw [h.o _ (by omega)]
    exact hl.2 k q hk c hc
  · have e9 : k = l.length := by
      have := (List.getElem?_eq_some_iff.mp hk).1
      rw [List.length_append, List.length_singleton] at this
      omega
    subst e9
    rw [List.getElem?_append_right (Nat.le_refl _), Nat.sub_self] at hk
    have e8 : p = q := Option.some.inj hk
    rw [h.v _ (by omega) (by omega), hf c hc, e8]
theorem d_judge2 (h : D7 S μ d M) {a v : Int} {k j : Nat} {p q : zP} {M2 : zD} (hz : M.jud a p q = (M2, v)) (ha : 0 ≤ a ∧ a < 6) (hk : (M.li a)[k]? = some p) (hj : (M.li a)[j]? = some q) (hv : 0 ≤ p 1 ∧ p 1 < 6) :
    ∃ μ', f_X1_judge d a (k : Int) (j : Int) (S, μ) = some (.inl v, (S, μ')) ∧ D7 S μ' d M2 ∧ FR d μ μ' := by
  have := d_judge h ha hk hj hv
  rw [hz] at this
  exact this
def zD.come (M : zD) (a : Int) (p : zP) : zD := M.wli (zup1 M.li a ((M.li a).eraseP (zqb (p 0) (p 3)) ++ [p]))
noncomputable def zjds (a w : Int) (q : zP) : List zP → zD × Int → zD × Int
  | [], z => z
  | p :: r, z => zjds a w q r (if p 3 = w then ((z.1.jud a p q).1, z.2 + (z.1.jud a p q).2) else z)
noncomputable def zD.prb (M : zD) (a w lo hi : Int) : zD × Int :=
  zjds a w (zrow a a 0 w M.tm lo hi) ((M.li a).eraseP (zqb a w)) ((M.come a (zrow a a 0 w M.tm lo hi)).tal a 0, 0)
theorem jud_li (M : zD) (a : Int) (p q : zP) : (M.jud a p q).1.li = M.li := by
  unfold zD.jud
  split <;> rfl
theorem jud_01 (M : zD) (a : Int) (p q : zP) : (M.jud a p q).2 = 0 ∨ (M.jud a p q).2 = 1 := by
  unfold zD.jud
  split
  · exact Or.inl rfl
  · exact zbl_01 _
theorem drop_cons {α : Type} {l : List α} {k : Nat} (h : k < l.length) : ∃ p, l[k]? = some p ∧ l.drop k = p :: l.drop (k + 1) ∧ p ∈ l := by
  refine ⟨l[k], List.getElem?_eq_getElem h, List.drop_eq_getElem_cons h, List.getElem_mem h⟩
theorem d_judges {a w9 : Int} {q : zP} {l : List zP} {fin : zD × Int} (ha : 0 ≤ a ∧ a < 6) (hv : ∀ p, p ∈ l → 0 ≤ p 1 ∧ p 1 < 6) (hlen : l.length ≤ 36) : ∀ (m : Nat) (k : Nat) (c : Int) (μ2 : zM),
    (∃ M', D7 S μ2 d M' ∧ M'.li a = l ++ [q] ∧ k ≤ l.length ∧ zjds a w9 q (l.drop k) (M', c) = fin ∧ FR d μ μ2 ∧ 0 ≤ c ∧ c ≤ (k : Int)) → l.length - k < m →
    zo (f_X1_makeProbe_106 m d a w9 (d + 13 + 2 * a) (l.length : Int) c (k : Int) (S, μ2)) (fun r => ∃ μ', r = (.inl fin.2, (S, μ')) ∧ D7 S μ' d fin.1 ∧ FR d μ μ') := by
  refine zo_l3 _ (fun k _ _ => l.length - k) ?_
  rintro m k c μ2 ⟨M', h, hli, hk, hfin, hfr, hc0, hck⟩ ih
  have D := h.sh
  by_cases e : k < l.length
  · obtain ⟨p, hp, hd, hm⟩ := drop_cons e
    have hkp : (M'.li a)[k]? = some p := by rw [hli, List.getElem?_append_left e]; exact hp
    have hkq : (M'.li a)[l.length]? = some q := by rw [hli, List.getElem?_append_right (Nat.le_refl _), Nat.sub_self]; rfl
    have hpv := hv p hm
    rw [hd] at hfin
    unfold zjds at hfin
    by_cases hw : p 3 = w9
    · rw [if_pos hw] at hfin
      have h01 := jud_01 M' a p q
      have hjl := jud_li M' a p q
      obtain ⟨z, hz⟩ : ∃ z, M'.jud a p q = z := ⟨_, rfl⟩
      dsimp only at hfin
      rw [hz] at h01 hjl hfin
      obtain ⟨M2, v⟩ := z
      dsimp only at h01 hjl hfin
      rcases h01 with h1 | h1
      · subst h1
        refine j_X1_makeProbe_106 ?_
        repeat' (first
          | with_reducible refine zo_ob D.o (by omega) ?_
          | with_reducible refine zo_ob (DSh.o (D7.sh (by assumption))) (by omega) ?_
          | with_reducible refine zo_ob (D.ls _ (by omega) (by omega)).o (by omega) ?_
          | with_reducible refine zo_ob D.qu.o (by omega) ?_
          | refine zo_bn (by with_reducible exact d_get0 (by assumption) (by omega) (by assumption)) ?_
          | refine zo_bn (by with_reducible exact d_get1 (by assumption) (by omega) (by assumption)) ?_
          | refine zo_bn (by with_reducible exact d_get2 (by assumption) (by omega) (by assumption)) ?_
          | refine zo_bn (by with_reducible exact d_get3 (by assumption) (by omega) (by assumption)) ?_
          | refine zo_bn (by with_reducible exact d_get4 (by assumption) (by omega) (by assumption)) ?_
          | refine zo_bn (by with_reducible exact d_get5 (by assumption) (by omega) (by assumption)) ?_
          | refine zo_bn (by with_reducible exact d_get6 (by assumption) (by omega) (by assumption)) ?_
          | refine zo_bn (by with_reducible exact d_qget0 (by assumption) (by assumption)) ?_
          | refine zo_bn (by with_reducible exact d_qget1 (by assumption) (by assumption)) ?_
          | refine zo_bn (by with_reducible exact d_qget2 (by assumption) (by assumption)) ?_
          | refine zo_bn (by with_reducible exact d_qget3 (by assumption) (by assumption)) ?_
          | refine zo_bn (by with_reducible exact d_qget4 (by assumption) (by assumption)) ?_
          | refine zo_bn (by with_reducible exact d_qget5 (by assumption) (by assumption)) ?_
          | refine zo_bn (by with_reducible exact d_qget6 (by assumption) (by assumption)) ?_
          | refine zo_bn (by with_reducible exact d_qget7 (by assumption) (by assumption)) ?_
          | (refine zo_bx (by with_reducible exact d_judge2 (by assumption) (by assumption) (by omega) (by assumption) (by assumption) (by assumption)) ?_; rintro μ1 ⟨h1, f1⟩)
          | with_reducible refine j_X1_makeProbe_140 ?_
          | with_reducible refine zo_zp (by assumption) ?_
          | with_reducible refine zo_zn (by assumption) ?_
          | with_reducible refine zo_zm (by assumption) ?_
          | with_reducible refine zo_zb (fun zhc => ?_) (fun zhc => ?_)
          | with_reducible refine zo_pos (by omega) ?_
          | with_reducible refine zo_neg (by omega) ?_
          | with_reducible refine zo_rt ?_
          | exact absurd (by with_reducible assumption) zhc
          | fail)
        rw [w32_s (k := k) (by omega)]
        refine ih (k + 1) c _ ⟨M2, by assumption, by rw [hjl]; exact hli, by omega, ?_, FR.tr hfr (by assumption), hc0, by omega⟩ (by omega)
        rw [← hfin]
        congr 2
        omega
      · subst h1
        refine j_X1_makeProbe_106 ?_
        repeat' (first
          | with_reducible refine zo_ob D.o (by omega) ?_
          | with_reducible refine zo_ob (DSh.o (D7.sh (by assumption))) (by omega) ?_
          | with_reducible refine zo_ob (D.ls _ (by omega) (by omega)).o (by omega) ?_
          | with_reducible refine zo_ob D.qu.o (by omega) ?_
          | refine zo_bn (by with_reducible exact d_get0 (by assumption) (by omega) (by assumption)) ?_
          | refine zo_bn (by with_reducible exact d_get1 (by assumption) (by omega) (by assumption)) ?_
          | refine zo_bn (by with_reducible exact d_get2 (by assumption) (by omega) (by assumption)) ?_
          | refine zo_bn (by with_reducible exact d_get3 (by assumption) (by omega) (by assumption)) ?_
          | refine zo_bn (by with_reducible exact d_get4 (by assumption) (by omega) (by assumption)) ?_
          | refine zo_bn (by with_reducible exact d_get5 (by assumption) (by omega) (by assumption)) ?_
          | refine zo_bn (by with_reducible exact d_get6 (by assumption) (by omega) (by assumption)) ?_
          | refine zo_bn (by with_reducible exact d_qget0 (by assumption) (by assumption)) ?_
          | refine zo_bn (by with_reducible exact d_qget1 (by assumption) (by assumption)) ?_
          | refine zo_bn (by with_reducible exact d_qget2 (by assumption) (by assumption)) ?_
          | refine zo_bn (by with_reducible exact d_qget3 (by assumption) (by assumption)) ?_
          | refine zo_bn (by with_reducible exact d_qget4 (by assumption) (by assumption)) ?_
          | refine zo_bn (by with_reducible exact d_qget5 (by assumption) (by assumption)) ?_
          | refine zo_bn (by with_reducible exact d_qget6 (by assumption) (by assumption)) ?_
          | refine zo_bn (by with_reducible exact d_qget7 (by assumption) (by assumption)) ?_
          | (refine zo_bx (by with_reducible exact d_judge2 (by assumption) (by assumption) (by omega) (by assumption) (by assumption) (by assumption)) ?_; rintro μ1 ⟨h1, f1⟩)
          | with_reducible refine j_X1_makeProbe_140 ?_
          | with_reducible refine zo_zp (by assumption) ?_
          | with_reducible refine zo_zn (by assumption) ?_
          | with_reducible refine zo_zm (by assumption) ?_
          | with_reducible refine zo_zb (fun zhc => ?_) (fun zhc => ?_)
          | with_reducible refine zo_pos (by omega) ?_
          | with_reducible refine zo_neg (by omega) ?_
          | with_reducible refine zo_rt ?_
          | exact absurd (by with_reducible assumption) zhc
          | fail)
        rw [w32_s (k := k) (by omega), w32_e (by omega)]
        exact ih (k + 1) (c + 1) _ ⟨M2, by assumption, by rw [hjl]; exact hli, by omega, hfin, FR.tr hfr (by assumption), by omega, by omega⟩ (by omega)
    · rw [if_neg hw] at hfin
      refine j_X1_makeProbe_106 ?_
      repeat' (first
        | with_reducible refine zo_ob D.o (by omega) ?_
        | with_reducible refine zo_ob (DSh.o (D7.sh (by assumption))) (by omega) ?_
        | with_reducible refine zo_ob (D.ls _ (by omega) (by omega)).o (by omega) ?_
        | with_reducible refine zo_ob D.qu.o (by omega) ?_
        | refine zo_bn (by with_reducible exact d_get0 (by assumption) (by omega) (by assumption)) ?_
        | refine zo_bn (by with_reducible exact d_get1 (by assumption) (by omega) (by assumption)) ?_
        | refine zo_bn (by with_reducible exact d_get2 (by assumption) (by omega) (by assumption)) ?_
        | refine zo_bn (by with_reducible exact d_get3 (by assumption) (by omega) (by assumption)) ?_
        | refine zo_bn (by with_reducible exact d_get4 (by assumption) (by omega) (by assumption)) ?_
        | refine zo_bn (by with_reducible exact d_get5 (by assumption) (by omega) (by assumption)) ?_
        | refine zo_bn (by with_reducible exact d_get6 (by assumption) (by omega) (by assumption)) ?_
        | refine zo_bn (by with_reducible exact d_qget0 (by assumption) (by assumption)) ?_
        | refine zo_bn (by with_reducible exact d_qget1 (by assumption) (by assumption)) ?_
        | refine zo_bn (by with_reducible exact d_qget2 (by assumption) (by assumption)) ?_
        | refine zo_bn (by with_reducible exact d_qget3 (by assumption) (by assumption)) ?_
        | refine zo_bn (by with_reducible exact d_qget4 (by assumption) (by assumption)) ?_
        | refine zo_bn (by with_reducible exact d_qget5 (by assumption) (by assumption)) ?_
        | refine zo_bn (by with_reducible exact d_qget6 (by assumption) (by assumption)) ?_
        | refine zo_bn (by with_reducible exact d_qget7 (by assumption) (by assumption)) ?_
        | (refine zo_bx (by with_reducible exact d_judge2 (by assumption) (by assumption) (by omega) (by assumption) (by assumption) (by assumption)) ?_; rintro μ1 ⟨h1, f1⟩)
        | with_reducible refine j_X1_makeProbe_140 ?_
        | with_reducible refine zo_zp (by assumption) ?_
        | with_reducible refine zo_zn (by assumption) ?_
        | with_reducible refine zo_zm (by assumption) ?_
        | with_reducible refine zo_zb (fun zhc => ?_) (fun zhc => ?_)
        | with_reducible refine zo_pos (by omega) ?_
        | with_reducible refine zo_neg (by omega) ?_
        | with_reducible refine zo_rt ?_
        | exact absurd (by with_reducible assumption) zhc
        | fail)
      rw [w32_s (k := k) (by omega)]
      exact ih (k + 1) c μ2 ⟨M', h, hli, by omega, hfin, hfr, hc0, by omega⟩ (by omega)
  · have e1 : k = l.length := by omega
    rw [e1, List.drop_length] at hfin
    refine j_X1_makeProbe_106 ?_
    refine zo_neg (by omega) ?_
    refine zo_rt ?_
    unfold zjds at hfin
    exact ⟨μ2, by rw [← hfin], by rw [← hfin]; exact h, hfr⟩
end C36
