/-! C 37: what the desk does keeps the invariants -/
def zlp {α : Type} (f : Nat → α → α) : Nat → Nat → α → α
  | _, 0, x => x
  | k, n + 1, x => zlp f (k + 1) n (f k x)
theorem zlp_inv {α : Type} {f : Nat → α → α} {P : α → Prop} {N : Nat} (h : ∀ k x, k < N → P x → P (f k x)) : ∀ (n k : Nat) (x : α), k + n ≤ N → P x → P (zlp f k n x) := by
  intro n
  induction n with
  | zero => intro k x _ hx; exact hx
  | succ n ih => intro k x hk hx; exact ih (k + 1) (f k x) (by omega) (h k x (by omega) hx)
def zD.ref (M : zD) (m : zP) : Int := if M.T (m 7) (m 1) = -1 then 1 else if M.ru 3 < w32 (M.tm - m 4) then 2 else
  match (M.li (m 7)).find? (zqb (m 0) (m 3)) with
  | none => 0
  | some q => if m 4 < q 4 ∨ q 4 = m 4 ∧ q 2 ≤ m 2 then 3 else 0
noncomputable def zD.rcv (M : zD) (m : zP) : zD × Int := if M.ref m = 0 then
    match (((M.tal (m 7) 1).come (m 7) (zcut m)).li (m 7)).find? (zqb (m 7) (m 3)) with
    | none => ((M.tal (m 7) 1).come (m 7) (zcut m), 1)
    | some q => ((((M.tal (m 7) 1).come (m 7) (zcut m)).jud (m 7) (zcut m) q).1, 1)
  else (M.tal (m 7) 2, 0)
noncomputable def zdlv : List zP → zD × Int → zD × Int
  | [], z => z
  | m :: r, z => zdlv r ((z.1.rcv m).1, z.2 + (z.1.rcv m).2)
noncomputable def zD.dlv (M : zD) (n : Nat) : zD × Int := ((zdlv (M.qu.take n) (M, 0)).1.wqu (M.qu.drop n), (zdlv (M.qu.take n) (M, 0)).2)
def zmsg (p : zP) (a o : Int) : zP := fun c => match c with
  | 0 => p 0
  | 1 => a
  | 2 => w32 (p 2 + 1)
  | 3 => p 3
  | 4 => p 4
  | 5 => p 5
  | 6 => p 6
  | _ => o
def zsn1 (a : Int) (p : zP) (o : Nat) (M : zD) : zD := if ¬ M.T a (o : Int) = -1 ∧ ¬ (o : Int) = p 0 ∧ ¬ (o : Int) = p 1 ∧ M.qu.length < 100 then M.wqu (M.qu ++ [zmsg p a (o : Int)]) else M
def zsns (a h : Int) : List zP → zD → zD
  | [], M => M
  | p :: r, M => zsns a h r (if p 2 < h then zlp (zsn1 a p) 0 M.an.length M else M)
def zD.snd (M : zD) (a h : Int) : zD := zsns a h (M.li a) M
noncomputable def zD.rnd (M : zD) : zD × Int := (zlp (fun a X => X.snd (a : Int) (X.ru 4)) 0 M.an.length M).dlv (zlp (fun a X => X.snd (a : Int) (X.ru 4)) 0 M.an.length M).qu.length
noncomputable def zD.rds (M : zD) (n : Nat) : zD × Int := zlp (fun _ z => (z.1.rnd.1, z.2 + z.1.rnd.2)) 0 n (M, 0)
def zD.yng (M : zD) (l : List zP) : List zP := l.filter (fun p => decide (¬ M.ru 3 < w32 (M.tm - p 4)))
def zD.pas (M : zD) (t : Int) : zD × Int := zlp (fun i z => (z.1.wli (zup1 z.1.li (i : Int) (z.1.yng (z.1.li (i : Int)))), z.2 + ((z.1.li (i : Int)).length - (z.1.yng (z.1.li (i : Int))).length : Int))) 0 M.an.length (M.wtm (w32 (M.tm + t)), 0)
section C37
variable {B : Int} {M : zD}
theorem WF.ac (h : WF B M) {x : Int → Int → Int} (hx : ∀ i j, zI (x i j)) : WF B (M.wac x) := WF.mk ⟨(h.B0), (h.tm), (h.al), (h.wl), (h.r0), (h.r1), (h.r2), (h.r3), (h.r4), (h.Tr), (h.Ti), (h.Ts), (h.Ta), (h.li), (h.lz), (h.nd), (h.qu), (h.ql), (h.an), (h.wn), (hx)⟩
theorem WF.tal (h : WF B M) (i j : Int) : WF B (M.tal i j) := h.ac (fun a b => by unfold zup2; split; exact w32_rng _; exact h.ai a b)
theorem WF.lis (h : WF B M) {i : Int} {l : List zP} (hi : 0 ≤ i ∧ i < (M.an.length : Int)) (hl : ∀ p, p ∈ l → ROk (M.an.length : Int) (M.wn.length : Int) M.tm i p) (hn : l.Pairwise (fun p q => ¬ (p 0 = q 0 ∧ p 3 = q 3))) : WF B (M.wli (zup1 M.li i l)) := WF.mk ⟨(h.B0), (h.tm), (h.al), (h.wl), (h.r0), (h.r1), (h.r2), (h.r3), (h.r4), (h.Tr), (h.Ti), (h.Ts), (h.Ta), (by
    intro j p hp
    replace hp : p ∈ zup1 M.li i l j := hp
    by_cases e : j = i
    · rw [e, zup1_at] at hp
      rw [e]
      exact hl p hp
    · rw [zup1_b e] at hp
      exact h.li j p hp), (by
    intro j hj
    show zup1 M.li i l j = []
    rw [zup1_b (fun e => hj (by rw [e]; exact hi))]
    exact h.lz j hj), (by
    intro j
    show (zup1 M.li i l j).Pairwise _
    by_cases e : j = i
    · rw [e, zup1_at]
      exact hn
    · rw [zup1_b e]
      exact h.nd j), (h.qu), (h.ql), (h.an), (h.wn), (h.ai)⟩
theorem era_no {o w : Int} : ∀ {l : List zP}, l.Pairwise (fun p q => ¬ (p 0 = q 0 ∧ p 3 = q 3)) → ∀ x, x ∈ l.eraseP (zqb o w) → ¬ (x 0 = o ∧ x 3 = w) := by
  intro l
  induction l with
  | nil => intro _ x hx; cases hx
  | cons p r ih =>
    intro hp x hx hk
    obtain ⟨h1, h2⟩ := List.pairwise_cons.mp hp
    by_cases h : zq o w p
    · rw [List.eraseP_cons_of_pos (zqb_t h)] at hx
      exact h1 x hx ⟨h.1.trans hk.1.symm, h.2.trans hk.2.symm⟩
    · rw [List.eraseP_cons_of_neg (by rw [zqb_f h]; decide)] at hx
      rcases List.mem_cons.mp hx with e | hx
      · exact h (by rw [← e]; exact hk)
      · exact ih h2 x hx hk
theorem WF.come (h : WF B M) {i : Int} {p : zP} (hi : 0 ≤ i ∧ i < (M.an.length : Int)) (hp : ROk (M.an.length : Int) (M.wn.length : Int) M.tm i p) : WF B (M.come i p) := by
  refine h.lis hi ?_ ?_
  · intro q hq
    rcases List.mem_append.mp hq with hq | hq
    · exact h.li i q (List.mem_of_mem_eraseP hq)
    · rw [List.mem_singleton.mp hq]
      exact hp
  · refine List.pairwise_append.mpr ⟨(h.nd i).sublist List.eraseP_sublist, List.pairwise_singleton _ _, ?_⟩
    intro x hx y hy
    rw [List.mem_singleton.mp hy]
    exact era_no (h.nd i) x hx
theorem come_len (h : WF B M) {i : Int} {p : zP} (hi : 0 ≤ i ∧ i < (M.an.length : Int)) (hp : ROk (M.an.length : Int) (M.wn.length : Int) M.tm i p) : ((M.li i).eraseP (zqb (p 0) (p 3))).length + 1 ≤ 36 := by
  have h1 := (h.come hi hp).len i
  have e : (M.come i p).li i = (M.li i).eraseP (zqb (p 0) (p 3)) ++ [p] := zup1_at
  rw [e, List.length_append] at h1
  exact h1
theorem WF.setT (h : WF B M) {i j v : Int} (hT : ¬ M.T i j = -1) (hv : 0 ≤ v ∧ v ≤ 10) : WF B (M.wT (zup2 M.T i j v)) := WF.mk ⟨(h.B0), (h.tm), (h.al), (h.wl), (h.r0), (h.r1), (h.r2), (h.r3), (h.r4), (by
    intro x y
    show -1 ≤ zup2 M.T i j v x y ∧ zup2 M.T i j v x y ≤ 10
    unfold zup2
    split
    · omega
    · exact h.Tr x y), (by
    intro x
    show zup2 M.T i j v x x = -1
    unfold zup2
    split
    · rename_i e
      exfalso
      apply hT
      rw [← e.1, ← e.2]
      exact h.Ti x
    · exact h.Ti x), (by
    intro x y hxy
    replace hxy : zup2 M.T i j v x y = -1 := hxy
    show zup2 M.T i j v y x = -1
    unfold zup2 at hxy ⊢
    split at hxy
    · omega
    · split
      · rename_i e1 e2
        exfalso
        apply hT
        rw [← e2.1, ← e2.2]
        exact h.Ts x y hxy
      · exact h.Ts x y hxy), (by
    intro x y hxy
    replace hxy : ¬ zup2 M.T i j v x y = -1 := hxy
    unfold zup2 at hxy
    split at hxy
    · rename_i e
      rw [e.1, e.2]
      exact h.Ta i j hT
    · exact h.Ta x y hxy), (h.li), (h.lz), (h.nd), (h.qu), (h.ql), (h.an), (h.wn), (h.ai)⟩
theorem WF.jud (h : WF B M) (a : Int) (p q : zP) : WF B (M.jud a p q).1 := by
  unfold zD.jud
  split
  · exact h
  · rename_i e
    exact (h.setT e (by omega)).tal _ _
theorem jud_T (M : zD) (a : Int) (p q : zP) : (M.jud a p q).1.an = M.an ∧ (M.jud a p q).1.wn = M.wn ∧ (M.jud a p q).1.tm = M.tm ∧ (M.jud a p q).1.qu = M.qu ∧ (M.jud a p q).1.ru = M.ru ∧ (M.jud a p q).1.li = M.li := by
  unfold zD.jud
  split <;> exact ⟨rfl, rfl, rfl, rfl, rfl, rfl⟩
theorem WF.jds {a w : Int} {q : zP} : ∀ (l : List zP) (z : zD × Int), WF B z.1 → WF B (zjds a w q l z).1 := by
  intro l
  induction l with
  | nil => intro z h; exact h
  | cons p r ih =>
    intro z h
    unfold zjds
    split
    · exact ih _ (h.jud a p q)
    · exact ih _ h
theorem ROk.own {A W t a w lo hi : Int} (ha : 0 ≤ a ∧ a < A) (hw : 0 ≤ w ∧ w < W) (ht : 0 ≤ t) (hb : 0 ≤ lo ∧ lo ≤ hi ∧ hi ≤ 999) : ROk A W t a (zrow a a 0 w t lo hi) :=
  ROk.mk ⟨ha, ha, ⟨by show (0 : Int) ≤ 0; decide, by show (0 : Int) ≤ 3; decide⟩, hw, ⟨ht, Int.le_refl _⟩, hb, ⟨fun _ => rfl, fun _ => rfl⟩, ⟨fun _ => rfl, fun _ => rfl⟩⟩
theorem WF.prb (h : WF B M) {a w lo hi : Int} (ha : 0 ≤ a ∧ a < (M.an.length : Int)) (hw : 0 ≤ w ∧ w < (M.wn.length : Int)) (hb : 0 ≤ lo ∧ lo ≤ hi ∧ hi ≤ 999) : WF B (M.prb a w lo hi).1 :=
  WF.jds _ _ ((h.come ha (ROk.own ha hw h.tm.1 hb)).tal a 0)
theorem QOk.cut {A W t : Int} {m : zP} (h : QOk A W t m) : ROk A W t (m 7) (zcut m) := by
  have h2 := h.h
  have g0 := h.g0
  have g1 := h.g1
  exact ROk.mk ⟨h.o, h.v, ⟨by show 0 ≤ m 2; omega, h2.2⟩, h.w, h.t, h.b, ⟨fun e => absurd e.symm g1, fun e => absurd e.symm g0⟩, ⟨fun e => by replace e : m 2 = 0 := e; omega, fun e => absurd e.symm g0⟩⟩
theorem WF.rcv (h : WF B M) {m : zP} (hm : QOk (M.an.length : Int) (M.wn.length : Int) M.tm m) : WF B (M.rcv m).1 := by
  have h1 : WF B ((M.tal (m 7) 1).come (m 7) (zcut m)) := (h.tal (m 7) 1).come (M := M.tal (m 7) 1) hm.g hm.cut
  unfold zD.rcv
  split
  · split
    · exact h1
    · exact h1.jud _ _ _
  · exact h.tal _ _
theorem rcv_T (M : zD) (m : zP) : (M.rcv m).1.an = M.an ∧ (M.rcv m).1.wn = M.wn ∧ (M.rcv m).1.tm = M.tm ∧ (M.rcv m).1.qu = M.qu ∧ (M.rcv m).1.ru = M.ru := by
  unfold zD.rcv
  split
  · split
    · exact ⟨rfl, rfl, rfl, rfl, rfl⟩
    · rename_i q _
      obtain ⟨h1, h2, h3, h4, h5, h6⟩ := jud_T ((M.tal (m 7) 1).come (m 7) (zcut m)) (m 7) (zcut m) q
      exact ⟨h1, h2, h3, h4, h5⟩
  · exact ⟨rfl, rfl, rfl, rfl, rfl⟩
theorem WF.dlvs : ∀ (l : List zP) (z : zD × Int), WF B z.1 → (∀ m, m ∈ l → QOk (z.1.an.length : Int) (z.1.wn.length : Int) z.1.tm m) → WF B (zdlv l z).1 ∧ (zdlv l z).1.an = z.1.an ∧ (zdlv l z).1.wn = z.1.wn ∧ (zdlv l z).1.tm = z.1.tm ∧ (zdlv l z).1.qu = z.1.qu ∧ (zdlv l z).1.ru = z.1.ru := by
  intro l
  induction l with
  | nil => intro z h _; exact ⟨h, rfl, rfl, rfl, rfl, rfl⟩
  | cons m r ih =>
    intro z h hm
    obtain ⟨e1, e2, e3, e4, e5⟩ := rcv_T z.1 m
    have := ih ((z.1.rcv m).1, z.2 + (z.1.rcv m).2) (h.rcv (hm m (List.mem_cons_self ..))) (fun x hx => by
      show QOk ((z.1.rcv m).1.an.length : Int) ((z.1.rcv m).1.wn.length : Int) (z.1.rcv m).1.tm x
      rw [e1, e2, e3]
      exact hm x (List.mem_cons_of_mem _ hx))
    unfold zdlv
    refine ⟨this.1, this.2.1.trans e1, this.2.2.1.trans e2, this.2.2.2.1.trans e3, this.2.2.2.2.1.trans e4, this.2.2.2.2.2.trans e5⟩
theorem WF.que (h : WF B M) {l : List zP} (hq : ∀ m, m ∈ l → QOk (M.an.length : Int) (M.wn.length : Int) M.tm m) (hl : l.length ≤ 100) : WF B (M.wqu l) := WF.mk ⟨(h.B0), (h.tm), (h.al), (h.wl), (h.r0), (h.r1), (h.r2), (h.r3), (h.r4), (h.Tr), (h.Ti), (h.Ts), (h.Ta), (h.li), (h.lz), (h.nd), (hq), (hl), (h.an), (h.wn), (h.ai)⟩
theorem WF.dlv (h : WF B M) (n : Nat) : WF B (M.dlv n).1 := by
  have h1 := WF.dlvs (B := B) (M.qu.take n) (M, 0) h (fun m hm => h.qu m (List.mem_of_mem_take hm))
  obtain ⟨h2, e1, e2, e3, e4, e5⟩ := h1
  refine h2.que ?_ ?_
  · intro m hm
    rw [e1, e2, e3]
    exact h.qu m (List.mem_of_mem_drop hm)
  · rw [List.length_drop]
    have := h.ql
    omega
theorem zmsg_ok {A W t a o : Int} {p : zP} {hp : Int} (h : ROk A W t a p) (ha : 0 ≤ a ∧ a < A) (h2 : p 2 < hp ∧ hp ≤ 3) (ho : 0 ≤ o ∧ o < A) (h0 : ¬ o = p 0) (h1 : ¬ o = a) : QOk A W t (zmsg p a o) := by
  have e2 : w32 (p 2 + 1) = p 2 + 1 := w32_e (by have := h.h; omega)
  have h3 := h.h
  refine QOk.mk ⟨h.o, ha, ?_, h.w, h.t, h.b, ho, h0, h1⟩
  show 1 ≤ w32 (p 2 + 1) ∧ w32 (p 2 + 1) ≤ 3
  omega
theorem WF.sn1 (h : WF B M) {a hp' : Int} {p : zP} {o : Nat} (ha : 0 ≤ a ∧ a < (M.an.length : Int)) (hp : ROk (M.an.length : Int) (M.wn.length : Int) M.tm a p) (h2 : p 2 < hp' ∧ hp' ≤ 3) : WF B (zsn1 a p o M) := by
  unfold zsn1
  split
  · rename_i e
    refine h.que ?_ (by rw [List.length_append]; have := e.2.2.2; exact this)
    intro m hm
    rcases List.mem_append.mp hm with hm | hm
    · exact h.qu m hm
    · rw [List.mem_singleton.mp hm]
      have h4 := h.Ta a (o : Int) e.1
      refine zmsg_ok hp ha h2 h4.2.2 e.2.1 (fun e9 => ?_)
      apply e.1
      rw [e9]
      exact h.Ti a
  · exact h
theorem sn1_T (a : Int) (p : zP) (o : Nat) (M : zD) : (zsn1 a p o M).an = M.an ∧ (zsn1 a p o M).wn = M.wn ∧ (zsn1 a p o M).tm = M.tm ∧ (zsn1 a p o M).li = M.li ∧ (zsn1 a p o M).ru = M.ru ∧ (zsn1 a p o M).T = M.T ∧ M.qu.length ≤ (zsn1 a p o M).qu.length := by
  unfold zsn1
  split
  · exact ⟨rfl, rfl, rfl, rfl, rfl, rfl, by show _ ≤ (M.qu ++ _).length; rw [List.length_append]; omega⟩
  · exact ⟨rfl, rfl, rfl, rfl, rfl, rfl, Nat.le_refl _⟩
def SS (M X : zD) : Prop := (X.an = M.an) ∧ (X.wn = M.wn) ∧ (X.tm = M.tm) ∧ (X.li = M.li) ∧ (X.ru = M.ru) ∧ (X.T = M.T) ∧ (M.qu.length ≤ X.qu.length)
theorem SS.mk {M X : zD} (h : (X.an = M.an) ∧ (X.wn = M.wn) ∧ (X.tm = M.tm) ∧ (X.li = M.li) ∧ (X.ru = M.ru) ∧ (X.T = M.T) ∧ (M.qu.length ≤ X.qu.length)) : SS M X := h
theorem SS.an {M X : zD} (h : SS M X) : X.an = M.an := h.1
theorem SS.wn {M X : zD} (h : SS M X) : X.wn = M.wn := h.2.1
theorem SS.tm {M X : zD} (h : SS M X) : X.tm = M.tm := h.2.2.1
theorem SS.li {M X : zD} (h : SS M X) : X.li = M.li := h.2.2.2.1
theorem SS.ru {M X : zD} (h : SS M X) : X.ru = M.ru := h.2.2.2.2.1
theorem SS.T {M X : zD} (h : SS M X) : X.T = M.T := h.2.2.2.2.2.1
theorem SS.ql {M X : zD} (h : SS M X) : M.qu.length ≤ X.qu.length := h.2.2.2.2.2.2
theorem SS.rf : SS M M := SS.mk ⟨rfl, rfl, rfl, rfl, rfl, rfl, Nat.le_refl _⟩
theorem SS.tr {X Y : zD} (h : SS M X) (k : SS X Y) : SS M Y := SS.mk ⟨k.an.trans h.an, k.wn.trans h.wn, k.tm.trans h.tm, k.li.trans h.li, k.ru.trans h.ru, k.T.trans h.T, Nat.le_trans h.ql k.ql⟩
theorem SS.sn1 (a : Int) (p : zP) (o : Nat) (M : zD) : SS M (zsn1 a p o M) := SS.mk (sn1_T a p o M)
theorem WF.snp (h : WF B M) {a hp' : Int} {p : zP} (ha : 0 ≤ a ∧ a < (M.an.length : Int)) (hp : ROk (M.an.length : Int) (M.wn.length : Int) M.tm a p) (h2 : p 2 < hp' ∧ hp' ≤ 3) (k n : Nat) : WF B (zlp (zsn1 a p) k n M) ∧ SS M (zlp (zsn1 a p) k n M) := by
  refine zlp_inv (P := fun X => WF B X ∧ SS M X) (N := k + n) ?_ n k M (Nat.le_refl _) ⟨h, SS.rf⟩
  intro j X _ hX
  refine ⟨hX.1.sn1 (hp' := hp') ?_ ?_ h2, hX.2.tr (SS.sn1 a p j X)⟩
  · rw [hX.2.an]; exact ha
  · rw [hX.2.an, hX.2.wn, hX.2.tm]; exact hp
theorem WF.sns {a hp' : Int} (h2 : hp' ≤ 3) : ∀ (l : List zP) (M : zD), WF B M → 0 ≤ a ∧ a < (M.an.length : Int) → (∀ p, p ∈ l → ROk (M.an.length : Int) (M.wn.length : Int) M.tm a p) → WF B (zsns a hp' l M) ∧ SS M (zsns a hp' l M) := by
  intro l
  induction l with
  | nil => intro M h _ _; exact ⟨h, SS.rf⟩
  | cons p r ih =>
    intro M h ha hl
    unfold zsns
    by_cases e : p 2 < hp'
    · rw [if_pos e]
      obtain ⟨w, s⟩ := h.snp ha (hl p (List.mem_cons_self ..)) ⟨e, h2⟩ 0 M.an.length
      obtain ⟨w2, s2⟩ := ih _ w (by rw [s.an]; exact ha) (fun q hq => by rw [s.an, s.wn, s.tm]; exact hl q (List.mem_cons_of_mem _ hq))
      exact ⟨w2, s.tr s2⟩
    · rw [if_neg e]
      exact ih M h ha (fun q hq => hl q (List.mem_cons_of_mem _ hq))
theorem WF.snd (h : WF B M) {a hp' : Int} (h2 : hp' ≤ 3) (ha : 0 ≤ a ∧ a < (M.an.length : Int)) : WF B (M.snd a hp') ∧ SS M (M.snd a hp') := WF.sns h2 (M.li a) M h ha (h.li a)
theorem WF.snd' (h : WF B M) (n : Nat) (hn : n ≤ M.an.length) : WF B (zlp (fun a X => X.snd (a : Int) (X.ru 4)) 0 n M) ∧ SS M (zlp (fun a X => X.snd (a : Int) (X.ru 4)) 0 n M) := by
  refine zlp_inv (P := fun X => WF B X ∧ SS M X) (N := M.an.length) ?_ n 0 M (by omega) ⟨h, SS.rf⟩
  intro j X hj hX
  have h3 := h.r4
  obtain ⟨w, s⟩ := hX.1.snd (a := (j : Int)) (hp' := X.ru 4) (by rw [hX.2.ru]; omega) (by rw [hX.2.an]; omega)
  exact ⟨w, hX.2.tr s⟩
theorem WF.rnd (h : WF B M) : WF B M.rnd.1 := (h.snd' M.an.length (Nat.le_refl _)).1.dlv _
theorem WF.rds (h : WF B M) (n : Nat) : WF B (M.rds n).1 := by
  unfold zD.rds
  refine zlp_inv (P := fun z : zD × Int => WF B z.1) (N := n) ?_ n 0 (M, 0) (Nat.le_of_eq (Nat.zero_add n)) h
  intro _ z _ hz
  exact WF.rnd hz
theorem ROk.later {A W t t' i : Int} {p : zP} (h : ROk A W t i p) (ht : t ≤ t') : ROk A W t' i p := ROk.mk ⟨h.o, h.v, h.h, h.w, ⟨h.t.1, Int.le_trans h.t.2 ht⟩, h.b, h.e1, h.e2⟩
theorem QOk.later {A W t t' : Int} {p : zP} (h : QOk A W t p) (ht : t ≤ t') : QOk A W t' p := QOk.mk ⟨h.o, h.v, h.h, h.w, ⟨h.t.1, Int.le_trans h.t.2 ht⟩, h.b, h.g, h.g0, h.g1⟩
theorem WF.more (h : WF B M) {t : Int} (ht : 0 ≤ t ∧ t ≤ 99) (hB : B + 99 ≤ 1000000) : WF (B + 99) (M.wtm (w32 (M.tm + t))) := WF.mk ⟨(hB), (by
    show 0 ≤ w32 (M.tm + t) ∧ w32 (M.tm + t) ≤ B + 99
    have := h.tm
    rw [w32_e (by omega)]
    omega), (h.al), (h.wl), (h.r0), (h.r1), (h.r2), (h.r3), (h.r4), (h.Tr), (h.Ti), (h.Ts), (h.Ta), (by
    intro i p hp
    show ROk _ _ (w32 (M.tm + t)) i p
    have := h.tm
    exact (h.li i p hp).later (by rw [w32_e (by omega)]; omega)), (h.lz), (h.nd), (by
    intro p hp
    show QOk _ _ (w32 (M.tm + t)) p
    have := h.tm
    exact (h.qu p hp).later (by rw [w32_e (by omega)]; omega)), (h.ql), (h.an), (h.wn), (h.ai)⟩
theorem WF.yng (h : WF B M) {i : Int} (hi : 0 ≤ i ∧ i < (M.an.length : Int)) : WF B (M.wli (zup1 M.li i (M.yng (M.li i)))) :=
  h.lis hi (fun p hp => h.li i p (List.mem_filter.mp hp).1) ((h.nd i).sublist List.filter_sublist)
theorem WF.pas (h : WF B M) {t : Int} (ht : 0 ≤ t ∧ t ≤ 99) (hB : B + 99 ≤ 1000000) : WF (B + 99) (M.pas t).1 := by
  unfold zD.pas
  refine (zlp_inv (P := fun z : zD × Int => WF (B + 99) z.1 ∧ z.1.an = M.an) (N := M.an.length) ?_ M.an.length 0 (M.wtm (w32 (M.tm + t)), 0) (Nat.le_of_eq (Nat.zero_add _)) ⟨h.more ht hB, rfl⟩).1
  intro k z hk hz
  obtain ⟨w, e⟩ := hz
  exact ⟨w.yng (by rw [e]; omega), e⟩
end C37
