/-! R11: the whole text -/
section R11
variable {l r w u : List Int} {k b f : Nat} {v y c n a : Int} {X M : zD} {t : zTk} {A : List zSt} {s : zSt}

def zvd : zD → List zSt → Prop
  | _, [] => True
  | X, s :: r => zok1 X s ∧ zvd (zxec X s) r
theorem zvd_s : ∀ (A : List zSt) (X : zD), zvd X A → zok1 (A.foldl zxec X) s → zvd X (A ++ [s]) := by
  intro A
  induction A with
  | nil => exact fun X _ h => ⟨h, trivial⟩
  | cons e A ih => exact fun X h1 h2 => ⟨h1.1, ih _ h1.2 h2⟩
theorem fold_s (A : List zSt) (X : zD) (s : zSt) : (A ++ [s]).foldl zxec X = zxec (A.foldl zxec X) s := by
  rw [List.foldl_append]
  rfl
theorem flat_s (A : List zSt) (s : zSt) : (A ++ [s]).flatMap zrnd = A.flatMap zrnd ++ zrnd s := by
  rw [List.flatMap_append, List.flatMap_singleton]
theorem st_any (hs : zok1 X s) (h : At l k (zrnd s ++ r)) : ¬ (ztk l k).1 = 0 ∧ ∃ k', pStat l X (ztk l k) = .inr (ztk l k', zxec X s) ∧ At l k' r := by
  obtain ⟨tag, i, j, v, u⟩ := s
  match tag, hs, h with
  | 0, hs, h => exact st_agent hs.1 hs.2 h
  | 1, hs, h => exact st_way hs.1 hs.2 h
  | 2, hs, h =>
    obtain ⟨n, h1, h2, h3, h4, h5, h6, h7, h8⟩ := hs
    exact st_link h1 h2 h3 h4 h5 h6 ⟨h7, h8⟩ h
  | tag + 3, hs, h =>
    obtain ⟨n, m, h1, h2, h3, h4, h5, h6, h7, h8, h9⟩ := hs
    exact st_probe h1 h2 h3 h4 h5 h6 ⟨h7, h8, h9⟩ h
theorem lp_parse : ∀ (A : List zSt) (X : zD) (k f : Nat), zvd X A → A.length < f → At l k (A.flatMap zrnd) → ∃ t, pLoop l f X (ztk l k) = .inr (t, A.foldl zxec X) := by
  intro A
  induction A with
  | nil =>
    intro X k f _ hf h
    cases f with
    | zero => exact absurd hf (by omega)
    | succ f =>
      have e := tok_end (show At l k [] from h)
      exact ⟨ztk l k, if_pos e⟩
  | cons s A ih =>
    intro X k f hv hf h
    have hl : (s :: A).length = A.length + 1 := rfl
    cases f with
    | zero => exact absurd hf (by omega)
    | succ f =>
      have h2 : At l k (zrnd s ++ A.flatMap zrnd) := by
        rw [List.flatMap_cons] at h
        exact h
      obtain ⟨e1, k', e2, h3⟩ := st_any hv.1 h2
      obtain ⟨t, e3⟩ := ih (zxec X s) k' f hv.2 (by omega) h3
      refine ⟨t, (if_neg e1).trans ?_⟩
      rw [e2]
      exact e3
theorem p_rul {i : Nat} {g : Int → Int} (t1 : Tw l k 1 (zwrd (i + 1)) b (32 :: (zdgt n ++ y :: r))) (hn : 0 ≤ n ∧ n < 1000) (hb : zsv 0 (i : Int) ≤ n ∧ n ≤ zsv 1 (i : Int)) (hy : 0 ≤ y ∧ ¬ zks y = 2) : ∃ k2, pRul l i (ztk l k, g) = .inr (ztk l k2, zup1 g (i : Int) n) ∧ At l k2 (y :: r) := by
  have kd := dgt_k hn
  have t2 := tokS (w := zdgt n) (Or.inr rfl) kd.1 kd.2 hy t1.2.2
  obtain ⟨p1, p2⟩ := p_num t2 hn hb
  refine ⟨_, ?_, t2.2.2⟩
  unfold pRul
  rw [show ((ztk l k, g) : zTk × (Int → Int)).1 = ztk l k from rfl, p_word t1]
  show pBnd (pNum l (zsv 0 (i : Int)) (zsv 1 (i : Int)) (ztk l _)) _ = _
  rw [p1]
  show Sum.inr (_, zup1 g (i : Int) (znv (zsg l (ztk l _)))) = _
  rw [p2]
/-- the rules as the text gives them -/
def zrl (d0 d1 d2 d3 d4 : Int) : Int → Int := zup1 (zup1 (zup1 (zup1 (zup1 zD0.ru ((0 : Nat) : Int) d0) ((1 : Nat) : Int) d1) ((2 : Nat) : Int) d2) ((3 : Nat) : Int) d3) ((4 : Nat) : Int) d4
def zhd (d0 d1 d2 d3 d4 : Int) : List Int := zwrd 11 ++ zdgt d0 ++ zwrd 12 ++ zdgt d1 ++ zwrd 13 ++ zdgt d2 ++ zwrd 14 ++ zdgt d3 ++ zwrd 15 ++ zdgt d4 ++ zwrd 16
theorem p_rules {d0 d1 d2 d3 d4 : Int} (h0 : 0 ≤ d0 ∧ d0 ≤ 20) (h1 : 0 ≤ d1 ∧ d1 ≤ 50) (h2 : 0 ≤ d2 ∧ d2 ≤ 10) (h3 : 1 ≤ d3 ∧ d3 ≤ 99) (h4 : 1 ≤ d4 ∧ d4 ≤ 3) (h : At l 0 (zhd d0 d1 d2 d3 d4 ++ r)) : ∃ k', pRules l (ztk l 0) = .inr (ztk l k', zD0.wru (zrl d0 d1 d2 d3 d4)) ∧ At l k' r := by
  have w := w_eq
  have e : zhd d0 d1 d2 d3 d4 ++ r = zwrd 0 ++ 32 :: (zwrd 1 ++ 32 :: (zdgt d0 ++ 32 :: (zwrd 2 ++ 32 :: (zdgt d1 ++ 32 :: (zwrd 3 ++ 32 :: (zdgt d2 ++ 32 :: (zwrd 4 ++ 32 :: (zdgt d3 ++ 32 :: (zwrd 5 ++ 32 :: (zdgt d4 ++ 59 :: r)))))))))) := by
    unfold zhd
    rw [w.1, w.2.1, w.2.2.1, w.2.2.2.1, w.2.2.2.2.1, w.2.2.2.2.2.1]
    simp only [List.append_assoc, List.cons_append, List.nil_append]
  rw [e] at h
  have kw : ∀ i : Nat, i < 11 → (∀ z, z ∈ zwrd i → 0 ≤ z ∧ zks z = 1) ∧ ¬ zwrd i = [] := fun i hi => ⟨(kw_k ⟨i, hi⟩).1, (kw_k ⟨i, hi⟩).2.1⟩
  have t0 := tok (w := zwrd 0) (Or.inl rfl) (kw 0 (by decide)).1 (kw 0 (by decide)).2 (y := 32) (by decide) h
  have t1 := tokS (w := zwrd 1) (Or.inl rfl) (kw 1 (by decide)).1 (kw 1 (by decide)).2 (y := 32) (by decide) t0.2.2
  obtain ⟨k1, e1, g1⟩ := p_rul (i := 0) (g := zD0.ru) t1 (by omega) h0 (by decide)
  have t2 := tokS (w := zwrd 2) (Or.inl rfl) (kw 2 (by decide)).1 (kw 2 (by decide)).2 (y := 32) (by decide) g1
  obtain ⟨k2, e2, g2⟩ := p_rul (i := 1) (g := zup1 zD0.ru ((0 : Nat) : Int) d0) t2 (by omega) h1 (by decide)
  have t3 := tokS (w := zwrd 3) (Or.inl rfl) (kw 3 (by decide)).1 (kw 3 (by decide)).2 (y := 32) (by decide) g2
  obtain ⟨k3, e3, g3⟩ := p_rul (i := 2) (g := zup1 (zup1 zD0.ru ((0 : Nat) : Int) d0) ((1 : Nat) : Int) d1) t3 (by omega) h2 (by decide)
  have t4 := tokS (w := zwrd 4) (Or.inl rfl) (kw 4 (by decide)).1 (kw 4 (by decide)).2 (y := 32) (by decide) g3
  obtain ⟨k4, e4, g4⟩ := p_rul (i := 3) (g := zup1 (zup1 (zup1 zD0.ru ((0 : Nat) : Int) d0) ((1 : Nat) : Int) d1) ((2 : Nat) : Int) d2) t4 (by omega) h3 (by decide)
  have t5 := tokS (w := zwrd 5) (Or.inl rfl) (kw 5 (by decide)).1 (kw 5 (by decide)).2 (y := 32) (by decide) g4
  obtain ⟨k5, e5, g5⟩ := p_rul (i := 4) (g := zup1 (zup1 (zup1 (zup1 zD0.ru ((0 : Nat) : Int) d0) ((1 : Nat) : Int) d1) ((2 : Nat) : Int) d2) ((3 : Nat) : Int) d3) (y := 59) t5 (by omega) h4 (by decide)
  refine ⟨k5 + 1, ?_, (tok_semi g5).2⟩
  unfold pRules
  rw [p_word t0]
  show pBnd (pRul l 0 (ztk l _, zD0.ru)) _ = _
  rw [e1]
  show pBnd (pRul l 1 (ztk l _, _)) _ = _
  rw [e2]
  show pBnd (pRul l 2 (ztk l _, _)) _ = _
  rw [e3]
  show pBnd (pRul l 3 (ztk l _, _)) _ = _
  rw [e4]
  show pBnd (pRul l 4 (ztk l _, _)) _ = _
  rw [e5]
  exact p_end g5
theorem p_all {d0 d1 d2 d3 d4 : Int} (h0 : 0 ≤ d0 ∧ d0 ≤ 20) (h1 : 0 ≤ d1 ∧ d1 ≤ 50) (h2 : 0 ≤ d2 ∧ d2 ≤ 10) (h3 : 1 ≤ d3 ∧ d3 ≤ 99) (h4 : 1 ≤ d4 ∧ d4 ≤ 3) (hv : zvd (zD0.wru (zrl d0 d1 d2 d3 d4)) A) (hA : A.length ≤ 600) : ∃ t, pParse (zhd d0 d1 d2 d3 d4 ++ A.flatMap zrnd) = .inr (t, A.foldl zxec (zD0.wru (zrl d0 d1 d2 d3 d4))) := by
  obtain ⟨k, e1, g1⟩ := p_rules (l := zhd d0 d1 d2 d3 d4 ++ A.flatMap zrnd) (r := A.flatMap zrnd) h0 h1 h2 h3 h4 rfl
  obtain ⟨t, e2⟩ := lp_parse A _ k 601 hv (by omega) g1
  refine ⟨t, ?_⟩
  unfold pParse
  rw [e1]
  exact e2
theorem jud_lk (M : zD) (a : Int) (p q : zP) (i j : Int) : (M.jud a p q).1.T i j = -1 ↔ M.T i j = -1 := by
  unfold zD.jud
  split
  · exact Iff.rfl
  · rename_i h
    show zup2 M.T a (p 1) (max 0 _) i j = -1 ↔ _
    unfold zup2
    split
    · rename_i h2
      rw [h2.1, h2.2]
      exact ⟨fun z => by omega, fun z => absurd z h⟩
    · exact Iff.rfl
theorem jds_kp {a w : Int} {q : zP} : ∀ (l : List zP) (z : zD × Int), ((zjds a w q l z).1.an = z.1.an ∧ (zjds a w q l z).1.wn = z.1.wn ∧ (zjds a w q l z).1.tm = z.1.tm ∧ (zjds a w q l z).1.qu = z.1.qu ∧ (zjds a w q l z).1.ru = z.1.ru) ∧ ∀ i j, ((zjds a w q l z).1.T i j = -1 ↔ z.1.T i j = -1) := by
  intro l
  induction l with
  | nil => exact fun z => ⟨⟨rfl, rfl, rfl, rfl, rfl⟩, fun _ _ => Iff.rfl⟩
  | cons p l ih =>
    intro z
    show ((zjds a w q l (if p 3 = w then ((z.1.jud a p q).1, z.2 + (z.1.jud a p q).2) else z)).1.an = z.1.an ∧ _) ∧ _
    by_cases h : p 3 = w
    · obtain ⟨i1, i2⟩ := ih ((z.1.jud a p q).1, z.2 + (z.1.jud a p q).2)
      obtain ⟨j1, j2, j3, j4, j5, _⟩ := jud_T z.1 a p q
      have e : zjds a w q (p :: l) z = zjds a w q l ((z.1.jud a p q).1, z.2 + (z.1.jud a p q).2) := congrArg (zjds a w q l) (if_pos h)
      rw [e, if_pos h]
      exact ⟨⟨i1.1.trans j1, i1.2.1.trans j2, i1.2.2.1.trans j3, i1.2.2.2.1.trans j4, i1.2.2.2.2.trans j5⟩, fun i j => (i2 i j).trans (jud_lk z.1 a p q i j)⟩
    · have e : zjds a w q (p :: l) z = zjds a w q l z := congrArg (zjds a w q l) (if_neg h)
      rw [e, if_neg h]
      exact ih z
theorem prb_kp (M : zD) (a w lo hi : Int) : ((M.prb a w lo hi).1.an = M.an ∧ (M.prb a w lo hi).1.wn = M.wn ∧ (M.prb a w lo hi).1.tm = M.tm ∧ (M.prb a w lo hi).1.qu = M.qu ∧ (M.prb a w lo hi).1.ru = M.ru) ∧ ∀ i j, ((M.prb a w lo hi).1.T i j = -1 ↔ M.T i j = -1) := jds_kp _ _
theorem lk_01 (i j : Nat) : zlk M i j = 0 ∨ zlk M i j = 1 := by
  unfold zlk
  split
  · exact Or.inl rfl
  · exact Or.inr rfl
theorem lks_sum {n : Nat} (hn : M.an.length = n) (h5 : n ≤ 5) {d : Nat → Nat → Int} (h : ∀ i j : Nat, j < i → i < n → zlk M j i = d i j) : M.lks = zlp (fun i c => zlp (fun j c => c + d i j) 0 i c) 0 n 0 := by
  have hc : n = 0 ∨ n = 1 ∨ n = 2 ∨ n = 3 ∨ n = 4 ∨ n = 5 := by omega
  rcases hc with z | z | z | z | z | z <;> subst z
  · have e1 : M.lks = (0 : Int) := by
      unfold zD.lks
      rw [hn]
      rfl
    have e2 : zlp (fun i c => zlp (fun j c => c + d i j) 0 i c) 0 0 0 = (0 : Int) := rfl
    rw [e1, e2]
  · have e1 : M.lks = (0 : Int) := by
      unfold zD.lks
      rw [hn]
      rfl
    have e2 : zlp (fun i c => zlp (fun j c => c + d i j) 0 i c) 0 1 0 = (0 : Int) := rfl
    rw [e1, e2]
  · have e1 : M.lks = ((0 + zlk M 0 1) : Int) := by
      unfold zD.lks
      rw [hn]
      rfl
    have e2 : zlp (fun i c => zlp (fun j c => c + d i j) 0 i c) 0 2 0 = ((0 + d 1 0) : Int) := rfl
    rw [e1, e2]
    rw [h 1 0 (by decide) (by decide)]
  · have e1 : M.lks = ((((0 + zlk M 0 1) + zlk M 0 2) + zlk M 1 2) : Int) := by
      unfold zD.lks
      rw [hn]
      rfl
    have e2 : zlp (fun i c => zlp (fun j c => c + d i j) 0 i c) 0 3 0 = ((((0 + d 1 0) + d 2 0) + d 2 1) : Int) := rfl
    rw [e1, e2]
    rw [h 1 0 (by decide) (by decide)]
    rw [h 2 0 (by decide) (by decide)]
    rw [h 2 1 (by decide) (by decide)]
  · have e1 : M.lks = (((((((0 + zlk M 0 1) + zlk M 0 2) + zlk M 0 3) + zlk M 1 2) + zlk M 1 3) + zlk M 2 3) : Int) := by
      unfold zD.lks
      rw [hn]
      rfl
    have e2 : zlp (fun i c => zlp (fun j c => c + d i j) 0 i c) 0 4 0 = (((((((0 + d 1 0) + d 2 0) + d 2 1) + d 3 0) + d 3 1) + d 3 2) : Int) := rfl
    rw [e1, e2]
    rw [h 1 0 (by decide) (by decide)]
    rw [h 2 0 (by decide) (by decide)]
    rw [h 2 1 (by decide) (by decide)]
    rw [h 3 0 (by decide) (by decide)]
    rw [h 3 1 (by decide) (by decide)]
    rw [h 3 2 (by decide) (by decide)]
    omega
  · have e1 : M.lks = (((((((((((0 + zlk M 0 1) + zlk M 0 2) + zlk M 0 3) + zlk M 0 4) + zlk M 1 2) + zlk M 1 3) + zlk M 1 4) + zlk M 2 3) + zlk M 2 4) + zlk M 3 4) : Int) := by
      unfold zD.lks
      rw [hn]
      rfl
    have e2 : zlp (fun i c => zlp (fun j c => c + d i j) 0 i c) 0 5 0 = (((((((((((0 + d 1 0) + d 2 0) + d 2 1) + d 3 0) + d 3 1) + d 3 2) + d 4 0) + d 4 1) + d 4 2) + d 4 3) : Int) := rfl
    rw [e1, e2]
    rw [h 1 0 (by decide) (by decide)]
    rw [h 2 0 (by decide) (by decide)]
    rw [h 2 1 (by decide) (by decide)]
    rw [h 3 0 (by decide) (by decide)]
    rw [h 3 1 (by decide) (by decide)]
    rw [h 3 2 (by decide) (by decide)]
    rw [h 4 0 (by decide) (by decide)]
    rw [h 4 1 (by decide) (by decide)]
    rw [h 4 2 (by decide) (by decide)]
    rw [h 4 3 (by decide) (by decide)]
    omega
end R11
