/-! C 41: names, reset, become, removing all -/
def zni (nm : List Int) : List (List Int) → Int → Int
  | [], _ => -1
  | x :: r, k => if x = nm then k else zni nm r (k + 1)
theorem zni_c (nm x : List Int) (r : List (List Int)) (k : Int) : zni nm (x :: r) k = if x = nm then k else zni nm r (k + 1) := rfl
def zcr (b : Int) : List Int → Int
  | [] => 0
  | x :: r => b * zcr b r + x
theorem zcode_r (b : Int) (l : List Int) : zcode b l = zcr b l.reverse := by
  unfold zcode
  rw [List.foldl_eq_foldr_reverse]
  generalize l.reverse = r
  induction r with
  | nil => rfl
  | cons x r ih => rw [List.foldr_cons, ih]; rfl
theorem zcr_nn {b : Int} (hb : 27 ≤ b) : ∀ (l : List Int), (∀ x, x ∈ l → 1 ≤ x ∧ x ≤ 26) → 0 ≤ zcr b l := by
  intro l
  induction l with
  | nil => intro _; exact Int.le_refl _
  | cons x r ih =>
    intro h
    have h1 := h x (List.mem_cons_self ..)
    have h2 := ih (fun y hy => h y (List.mem_cons_of_mem _ hy))
    have h3 : 0 ≤ b * zcr b r := Int.mul_nonneg (by omega) h2
    unfold zcr
    omega
theorem zcr_inj {b : Int} (hb : 27 ≤ b) : ∀ (l m : List Int), (∀ x, x ∈ l → 1 ≤ x ∧ x ≤ 26) → (∀ x, x ∈ m → 1 ≤ x ∧ x ≤ 26) → zcr b l = zcr b m → l = m := by
  intro l
  induction l with
  | nil =>
    intro m _ hm e
    cases m with
    | nil => rfl
    | cons y s =>
      have h1 := hm y (List.mem_cons_self ..)
      have h2 := zcr_nn hb s (fun z hz => hm z (List.mem_cons_of_mem _ hz))
      have h3 : 0 ≤ b * zcr b s := Int.mul_nonneg (by omega) h2
      replace e : 0 = b * zcr b s + y := e
      omega
  | cons x r ih =>
    intro m hl hm e
    have h1 := hl x (List.mem_cons_self ..)
    have h2 := zcr_nn hb r (fun z hz => hl z (List.mem_cons_of_mem _ hz))
    have h3 : 0 ≤ b * zcr b r := Int.mul_nonneg (by omega) h2
    cases m with
    | nil =>
      replace e : b * zcr b r + x = 0 := e
      omega
    | cons y s =>
      have h4 := hm y (List.mem_cons_self ..)
      replace e : b * zcr b r + x = b * zcr b s + y := e
      have e2 : (b * zcr b r + x) % b = (b * zcr b s + y) % b := by rw [e]
      rw [Int.mul_add_emod_self_left, Int.mul_add_emod_self_left, Int.emod_eq_of_lt (by omega) (by omega), Int.emod_eq_of_lt (by omega) (by omega)] at e2
      subst e2
      have e3 : b * zcr b r = b * zcr b s := by omega
      have e4 := Int.eq_of_mul_eq_mul_left (by omega) e3
      rw [ih s (fun z hz => hl z (List.mem_cons_of_mem _ hz)) (fun z hz => hm z (List.mem_cons_of_mem _ hz)) e4]
theorem zcode_inj {b : Int} (hb : 27 ≤ b) {l m : List Int} (hl : NOk l) (hm : NOk m) (e : zcode b l = zcode b m) : l = m := by
  rw [zcode_r, zcode_r] at e
  have h := zcr_inj hb l.reverse m.reverse (fun x hx => hl.c x (List.mem_reverse.mp hx)) (fun x hx => hm.c x (List.mem_reverse.mp hx)) e
  have := congrArg List.reverse h
  rw [List.reverse_reverse, List.reverse_reverse] at this
  exact this
abbrev zNm : Type := List (List Int)
def LNm (μ : zM) (a : Int) (l : zNm) : Prop := (l.length ≤ 6) ∧ (μ a 1 = (l.length : Int)) ∧ (∀ (k : Nat) (nm : List Int), l[k]? = some nm → μ (a + 1) (k : Int) = zcode 32 nm)
theorem LNm.mk {μ : zM} {a : Int} {l : zNm} (h : (l.length ≤ 6) ∧ (μ a 1 = (l.length : Int)) ∧ (∀ (k : Nat) (nm : List Int), l[k]? = some nm → μ (a + 1) (k : Int) = zcode 32 nm)) : LNm μ a l := h
theorem LNm.n {μ : zM} {a : Int} {l : zNm} (h : LNm μ a l) : l.length ≤ 6 := h.1
theorem LNm.c {μ : zM} {a : Int} {l : zNm} (h : LNm μ a l) : μ a 1 = (l.length : Int) := h.2.1
theorem LNm.v {μ : zM} {a : Int} {l : zNm} (h : LNm μ a l) : ∀ (k : Nat) (nm : List Int), l[k]? = some nm → μ (a + 1) (k : Int) = zcode 32 nm := h.2.2
section C41
variable {S : zG} {μ μ' μ1 : zM} {d B a : Int} {M : zD} {Q : zR × zS → Prop} {l : List (List Int)}
theorem n_find {nm : List Int} (A : NSh S a) (h : LNm μ a l) (hl : ∀ x, x ∈ l → NOk x) (hn : NOk nm) : ∀ (m k : Nat), k ≤ l.length → l.length - k < m → zo (f_X3_find_2 m a (zcode 32 nm) (k : Int) (S, μ)) (fun r => r = (.inl (zni nm (l.drop k) (k : Int)), (S, μ))) := by
  intro m k hk
  refine zo_l1 (F := fun m (k : Nat) => f_X3_find_2 m a (zcode 32 nm) (k : Int) (S, μ)) (Q := fun r => r = (.inl (zni nm (l.drop k) (k : Int)), (S, μ))) (fun j => j ≤ l.length ∧ zni nm (l.drop j) (j : Int) = zni nm (l.drop k) (k : Int)) (fun j => l.length - j) ?_ m k ⟨hk, rfl⟩
  rintro m j ⟨hj, hz⟩ ih
  have h6 := h.n
  refine j_X3_find_2 ?_
  refine zo_gf A.o h.c (by omega) (by omega) ?_
  by_cases e : j < l.length
  · obtain ⟨p, hp, hd, hpm⟩ := drop_cons e
    refine zo_pos (by omega) ?_
    refine zo_gr A.o A.r (by omega) (by omega) ?_
    refine zo_al A.c ?_
    refine zo_pos (by omega) ?_
    refine zo_gr A.o A.r (by omega) (by omega) ?_
    refine zo_ld A.c (by omega) (h.v j p hp) ?_
    rw [hd, zni_c] at hz
    by_cases en : p = nm
    · rw [if_pos en] at hz
      refine zo_pos (by rw [en]) ?_
      exact zo_rt (by rw [hz])
    · rw [if_neg en] at hz
      refine zo_neg (fun z => en (zcode_inj (by decide) (hl p hpm) hn z)) ?_
      rw [w32_s (k := j) (by omega)]
      exact ih (j + 1) ⟨by omega, hz⟩ (by omega)
  · refine zo_neg (by omega) ?_
    have e1 : j = l.length := by omega
    rw [e1, List.drop_length] at hz
    exact zo_rt (by rw [← hz]; rfl)
theorem c_nfind {nm : List Int} (A : NSh S a) (h : LNm μ a l) (hl : ∀ x, x ∈ l → NOk x) (hn : NOk nm) : f_X3_find a (zcode 32 nm) (S, μ) = some (.inl (zni nm l 0), (S, μ)) := by
  apply zo_un
  refine j_X3_find ?_
  have h6 := h.n
  exact n_find A h hl hn zFU 0 (by omega) (by show l.length - 0 < 1000000; omega)
theorem c_nadd {nm : List Int} (A : NSh S a) (h : LNm μ a l) (hl : l.length < 6) : ∃ μ', f_X3_add a (zcode 32 nm) (S, μ) = some (.inl 0, (S, μ')) ∧ LNm μ' a (l ++ [nm]) ∧ ∀ x, x ≠ a → x ≠ a + 1 → μ' x = μ x := by
  apply zo_ux
  refine j_X3_add ?_
  refine zo_gf A.o h.c (by omega) (by omega) ?_
  refine zo_neg (by omega) ?_
  refine zo_gf A.o h.c (by omega) (by omega) ?_
  refine zo_gr A.o A.r (by omega) (by omega) ?_
  refine zo_al A.c ?_
  refine zo_pos (by omega) ?_
  refine zo_gr A.o A.r (by omega) (by omega) ?_
  refine zo_gf A.o h.c (by omega) (by omega) ?_
  refine zo_si A.c (by omega) ?_
  refine zo_gf A.o (v := (l.length : Int)) (j := 1) (by rw [zup_b (by omega)]; exact h.c) (by omega) (by omega) ?_
  refine zo_pf 1 A.o (by omega) (by omega) ?_
  refine zo_rt ⟨_, rfl, LNm.mk ⟨?_, ?_, ?_⟩, ?_⟩
  · rw [List.length_append]; exact hl
  · rw [zup_at, w32_s (by omega), List.length_append]; rfl
  · intro k x hk
    rw [zup_b (by omega)]
    by_cases e : k < l.length
    · rw [List.getElem?_append_left e] at hk
      rw [zup_j (by omega)]
      exact h.v k x hk
    · have e9 : k = l.length := by
        have := (List.getElem?_eq_some_iff.mp hk).1
        rw [List.length_append, List.length_singleton] at this
        omega
      subst e9
      rw [List.getElem?_append_right (Nat.le_refl _), Nat.sub_self] at hk
      have e8 : nm = x := Option.some.inj hk
      rw [zup_at, e8]
  · intro x hx hy
    rw [zup_c hx, zup_c hy]
theorem c_ncopy {b : Int} (A : NSh S a) (B : NSh S b) (hb : LNm μ b l) (hab : a ≠ b ∧ a + 1 ≠ b ∧ a ≠ b + 1) : ∃ μ', f_X3_copyFrom a b (S, μ) = some (.inl 0, (S, μ')) ∧ LNm μ' a l ∧ ∀ x, x ≠ a → x ≠ a + 1 → μ' x = μ x := by
  have h6 := hb.n
  apply zo_ux
  refine j_X3_copyFrom ?_
  refine zo_gf B.o hb.c (by omega) (by omega) ?_
  refine zo_pf 1 A.o (by omega) (by omega) ?_
  refine zo_gr B.o B.r (by omega) (by omega) ?_
  refine zo_gr A.o A.r (by omega) (by omega) ?_
  refine zo_gr B.o B.r (by omega) (by omega) ?_
  refine zo_al B.c ?_
  refine zo_gr A.o A.r (by omega) (by omega) ?_
  refine zo_al A.c ?_
  rw [e_ac B.c A.c (by omega)]
  refine zo_rt ⟨_, rfl, LNm.mk ⟨h6, ?_, ?_⟩, ?_⟩
  · rw [zcp_b (by omega), zup_at]
  · intro k x hk
    have hlt := (List.getElem?_eq_some_iff.mp hk).1
    rw [zcp_in (by omega), zup_b (by omega)]
    have e : (0 : Int) + ((k : Int) - 0) = (k : Int) := by omega
    rw [e]
    exact hb.v k x hk
  · intro x hx hy
    funext j
    rw [zcp_b hy, zup_b hx]
theorem D7.names (h : D7 S μ d M) : LNm μ (d + 2) M.an := LNm.mk ⟨h.al, h.an0, fun k nm hk => by rw [show d + 2 + 1 = d + 3 by omega]; exact h.an k nm hk⟩
theorem D7.wnames (h : D7 S μ d M) : LNm μ (d + 4) M.wn := LNm.mk ⟨h.wl, h.wn0, fun k nm hk => by rw [show d + 4 + 1 = d + 5 by omega]; exact h.wn k nm hk⟩
end C41
