/-! R12: the law's load -/
section R12
variable {B x : Int} {S S1 : zG} {μ μ' μ0 μ1 μ2 : zM} {M : zD} {L : List zD} {K : zKs} {inp out : List Int} {c p a w r : Int} {H : Int → zS → zFn} {Q : zR × zS → Prop} {k i : Nat} {q : zP} {X Y Z : zEn} {e f : Nat × zP} {A : zFn}

variable {g : zF} {n : Int} {b v cap d0 d1 d2 d3 d4 : Int} {l : List Int} {ST : List zSt} {s : zSt} {A Wn N : Nat}
theorem y_str (h : Bq x S μ0 S1 μ1 b v cap l) {j : Nat} (hj : j < 25) (hm : (l.length : Int) + (zwrd j).length ≤ 500) (q : ∀ S2 μ2 v2 c2, Bq x S μ0 S2 μ2 b v2 c2 (l ++ zwrd j) → zo (H b (S2, μ2)) Q) : zo (zob 8 b (S1, μ1) (zbn (f_J4_append_15ec4 b (j : Int) (S1, μ1)) H)) Q := by
  obtain ⟨S2, μ2, v2, c2, e, h2⟩ := b_str h hj hm
  refine zo_ob h.o (by omega) ?_
  exact zo_bn e (q S2 μ2 v2 c2 h2)
theorem y_chr (h : Bq x S μ0 S1 μ1 b v cap l) {w : Int} (hw : 0 ≤ w ∧ w < 128) (hm : (l.length : Int) + 1 ≤ 500) (q : ∀ S2 μ2 v2 c2, Bq x S μ0 S2 μ2 b v2 c2 (l ++ [w]) → zo (H b (S2, μ2)) Q) : zo (zob 8 b (S1, μ1) (zbn (f_J4_append_cf468 b w (S1, μ1)) H)) Q := by
  obtain ⟨S2, μ2, v2, c2, e, h2⟩ := b_chr h hw hm
  refine zo_ob h.o (by omega) ?_
  exact zo_bn e (q S2 μ2 v2 c2 h2)
theorem y_num (h : Bq x S μ0 S1 μ1 b v cap l) {n : Int} (hn : 0 ≤ n ∧ n < 1000) (hm : (l.length : Int) + (zdgt n).length ≤ 500) (q : ∀ S2 μ2 v2 c2, Bq x S μ0 S2 μ2 b v2 c2 (l ++ zdgt n) → zo (H b (S2, μ2)) Q) : zo (zob 8 b (S1, μ1) (zbn (f_J4_append_bf812 b n (S1, μ1)) H)) Q := by
  obtain ⟨S2, μ2, v2, c2, e, h2⟩ := b_num h hn hm
  refine zo_ob h.o (by omega) ?_
  exact zo_bn e (q S2 μ2 v2 c2 h2)
theorem w_lens : (zwrd 11).length = 12 ∧ (zwrd 12).length = 7 ∧ (zwrd 13).length = 7 ∧ (zwrd 14).length = 5 ∧ (zwrd 15).length = 6 ∧ (zwrd 16).length = 1 ∧ (zwrd 17).length = 7 ∧ (zwrd 18).length = 5 ∧ (zwrd 19).length = 6 ∧ (zwrd 20).length = 2 ∧ (zwrd 21).length = 7 ∧ (zwrd 22).length = 7 ∧ (zwrd 23).length = 2 ∧ (zwrd 24).length = 1 := by decide +kernel
/-- the text so far: head and statements, all of them in order -/
def Lq (x : Int) (S : zG) (μ0 : zM) (b : Int) (hd : List Int) (X0 : zD) (N : Nat) (ST : List zSt) (S1 : zG) (μ1 : zM) : Prop := (∃ v cap, Bq x S μ0 S1 μ1 b v cap (hd ++ ST.flatMap zrnd)) ∧ zvd X0 ST ∧ (hd ++ ST.flatMap zrnd).length ≤ N ∧ ST.length ≤ N
theorem Lq.add {hd : List Int} {X0 : zD} {S2 : zG} {k : Nat} (h : Lq x S μ0 b hd X0 N ST S1 μ1) (hz : zok1 (ST.foldl zxec X0) s) (hB : Bq x S μ0 S2 μ2 b v cap l) (hl : l = hd ++ ST.flatMap zrnd ++ zrnd s) (hk : (zrnd s).length ≤ k) (hk1 : 1 ≤ k) : Lq x S μ0 b hd X0 (N + k) (ST ++ [s]) S2 μ2 := by
  have e : l = hd ++ (ST ++ [s]).flatMap zrnd := by rw [hl, flat_s, List.append_assoc]
  refine ⟨⟨v, cap, by rw [← e]; exact hB⟩, zvd_s _ _ h.2.1 hz, ?_, ?_⟩
  · rw [flat_s, ← List.append_assoc, List.length_append]
    have := h.2.2.1
    omega
  · have := h.2.2.2
    rw [List.length_append]
    show ST.length + 1 ≤ N + k
    omega
/-- the desk as the statements so far leave it -/
def ZX (X : zD) (n m : Nat) (ru : Int → Int) : Prop := X.an = zan n ∧ X.wn = zwn m ∧ X.tm = 0 ∧ X.qu = [] ∧ X.ru = ru
def Dl (B x : Int) (K : zKs) (out : List Int) (r : zR × zS) : Prop := ∃ S' μ' M' L', r = (.inl 1, (S', μ')) ∧ Wd (B + 99) x S' μ' M' L' K [] out 0 (-1)
/-- a link statement or none -/
def zdl (g : zF) (i j : Nat) : Int := if zdw g (10 + 5 * (i : Int) + (j : Int)) 3 = 0 then 0 else 1
def zdr (g : zF) : Int × Int × Int × Int × Int := (zdw g 2 4, zdw g 3 12, zdw g 4 7, 2 + zdw g 5 40, 1 + zdw g 6 3)
def zhg2 (g : zF) : List Int := zhd (zdr g).1 (zdr g).2.1 (zdr g).2.2.1 (zdr g).2.2.2.1 (zdr g).2.2.2.2
def zrg (g : zF) : Int → Int := zrl (zdr g).1 (zdr g).2.1 (zdr g).2.2.1 (zdr g).2.2.2.1 (zdr g).2.2.2.2
theorem ld_end (hg : (zsl9 g : Int) < 2147483648) (h0 : Wd B x S μ0 M L K [] out c p) (hB : B + 99 ≤ 1000000) {A Wn : Nat} (hA : 1 ≤ A ∧ A ≤ 5) (hW : 1 ≤ Wn ∧ Wn ≤ 3) (hN : N ≤ 500) (hL : Lq x S μ0 b (zhg2 g) (zD0.wru (zrg g)) N ST S1 μ1) (hX : ZX (ST.foldl zxec (zD0.wru (zrg g))) A Wn (zrg g)) {lk : Int} (hlk : (ST.foldl zxec (zD0.wru (zrg g))).lks = lk) : zo (f_L_load_431 g x 200 (A : Int) (Wn : Int) b lk (S1, μ1)) (Dl B x K out) := by
  obtain ⟨⟨v, cap, hB1⟩, hv, hl, hc⟩ := hL
  have r2 := dw_rng (n := 4) g 2 (by decide)
  have r3 := dw_rng (n := 12) g 3 (by decide)
  have r4 := dw_rng (n := 7) g 4 (by decide)
  have r5 := dw_rng (n := 40) g 5 (by decide)
  have r6 := dw_rng (n := 3) g 6 (by decide)
  obtain ⟨t, hp⟩ := p_all (A := ST) (d0 := (zdr g).1) (d1 := (zdr g).2.1) (d2 := (zdr g).2.2.1) (d3 := (zdr g).2.2.2.1) (d4 := (zdr g).2.2.2.2) (by show 0 ≤ zdw g 2 4 ∧ zdw g 2 4 ≤ 20; omega) (by show 0 ≤ zdw g 3 12 ∧ zdw g 3 12 ≤ 50; omega) (by show 0 ≤ zdw g 4 7 ∧ zdw g 4 7 ≤ 10; omega) (by show 1 ≤ 2 + zdw g 5 40 ∧ 2 + zdw g 5 40 ≤ 99; omega) (by show 1 ≤ 1 + zdw g 6 3 ∧ 1 + zdw g 6 3 ≤ 3; omega) hv (by omega)
  replace hp : pParse (zhg2 g ++ ST.flatMap zrnd) = .inr (t, ST.foldl zxec (zD0.wru (zrg g))) := hp
  have h1l : 1 ≤ (zhg2 g ++ ST.flatMap zrnd).length := by
    unfold zhg2 zhd
    have := w_lens
    simp only [List.length_append]
    omega
  generalize zhg2 g ++ ST.flatMap zrnd = tx at hB1 hl hp h1l
  generalize ST.foldl zxec (zD0.wru (zrg g)) = X at hX hlk hp
  refine j_L_load_431 ?_
  refine zo_ob hB1.o (by omega) ?_
  have ln5 : f_J5_length_8abf5 b (S1, μ1) = some (.inl (tx.length : Int), (S1, μ1)) := by
    apply zo_un
    refine j_J5_length_8abf5 ?_
    refine zo_gf hB1.o hB1.k3 (by omega) (by omega) ?_
    exact zo_rt rfl
  have ln : f_J4_length_8abf5 b (S1, μ1) = some (.inl (tx.length : Int), (S1, μ1)) := by
    apply zo_un
    refine j_J4_length_8abf5 ?_
    refine zo_ob hB1.o (by omega) ?_
    refine zo_bn ln5 ?_
    exact zo_rt rfl
  refine zo_bn ln ?_
  refine zo_neg (by omega) ?_
  refine zo_ob hB1.o (by omega) ?_
  obtain ⟨S2, μ2, s2, v2, e2, h2⟩ := b_text hB1 (by omega)
  refine zo_bn e2 ?_
  obtain ⟨μ3, e3, h3⟩ := l_feed (h0.ext h2.e) h2 h1l
  refine zo_bn e3 ?_
  obtain ⟨S4, μ4, e4, h4⟩ := q_load h3 hB hp
  refine zo_ob h3.a.C.o (by omega) ?_
  refine zo_bn e4 ?_
  replace h4 : Wd (B + 99) x S4 μ4 X (zpush L M) K [] out 0 (-1) := h4
  refine zo_pos (by show (X.an.length : Int) = A; rw [hX.1, zan_l]) ?_
  refine zo_ob h4.a.C.o (by omega) ?_
  refine zo_bn (q_errorCode h4) ?_
  refine zo_pos rfl ?_
  refine zo_ob h4.a.C.o (by omega) ?_
  refine zo_bn (q_errorPosition h4) ?_
  refine zo_pos rfl ?_
  refine y_property0 h4.sd (fun μ5 h5 => ?_)
  refine zo_pos (by rw [hX.1, zan_l]) ?_
  refine y_property1 h5 (fun μ6 h6 => ?_)
  refine zo_pos (by rw [hX.2.1, zwn_l]) ?_
  refine y_property2 h6 (fun μ7 h7 => ?_)
  refine zo_pos hX.2.2.1 ?_
  refine y_property3 h7 (fun μ8 h8 => ?_)
  refine y_draw hg (by decide) (by decide) ?_
  refine zo_pos (by rw [hX.2.2.2.2]; rfl) ?_
  refine y_property7 h8 (fun μ9 h9 => ?_)
  refine y_draw hg (by decide) (by decide) ?_
  refine zo_pos (by rw [hX.2.2.2.2, w32_e (z := 1 + zdw g 6 3) (by omega)]; rfl) ?_
  refine y_property8 h9 (fun μA hA' => ?_)
  refine zo_pos (by rw [hX.2.2.2.1]; rfl) ?_
  refine y_property9 hA' (fun μB hB' => ?_)
  refine zo_pos hlk ?_
  exact zo_rt ⟨_, _, _, _, rfl, hB'.1⟩
theorem lks_cg {X Y : zD} (h1 : X.an = Y.an) (h2 : ∀ i j, (X.T i j = -1 ↔ Y.T i j = -1)) : X.lks = Y.lks := by
  have e : zlk X = zlk Y := by
    funext i j
    unfold zlk
    by_cases h : Y.T (i : Int) (j : Int) = -1
    · rw [if_pos h, if_pos ((h2 _ _).mpr h)]
    · rw [if_neg h, if_neg (fun z => h ((h2 _ _).mp z))]
  unfold zD.lks
  rw [h1, e]
theorem ld_probes (hg : (zsl9 g : Int) < 2147483648) (h0 : Wd B x S μ0 M L K [] out c p) (hB : B + 99 ≤ 1000000) {A Wn : Nat} (hA : 1 ≤ A ∧ A ≤ 5) (hW : 1 ≤ Wn ∧ Wn ≤ 3) (hN : N ≤ 340) (hL : Lq x S μ0 b (zhg2 g) (zD0.wru (zrg g)) N ST S1 μ1) (hX : ZX (ST.foldl zxec (zD0.wru (zrg g))) A Wn (zrg g)) {lk : Int} (hlk : (ST.foldl zxec (zD0.wru (zrg g))).lks = lk) : zo (f_L_load_299 g x 200 (A : Int) (Wn : Int) b lk (S1, μ1)) (Dl B x K out) := by
  have wl := w_lens
  refine j_L_load_299 ?_
  have rp := dw_rng (n := 8) g 7 (by decide)
  refine y_draw hg (by decide) (by decide) ?_
  generalize zdw g 7 8 = pr at rp
  refine zo_lk (F := fun m (q : Int × zG × zM) => f_L_load_312 g m x 200 (A : Int) (Wn : Int) b lk pr q.1 (q.2.1, q.2.2)) (b0 := (0, S1, μ1)) pr.toNat (fun k q => q.1 = (k : Int) ∧ ∃ ST, Lq x S μ0 b (zhg2 g) (zD0.wru (zrg g)) (N + 20 * k) ST q.2.1 q.2.2 ∧ ZX (ST.foldl zxec (zD0.wru (zrg g))) A Wn (zrg g) ∧ (ST.foldl zxec (zD0.wru (zrg g))).lks = lk) ?_ ⟨rfl, ST, hL, hX, hlk⟩ (by omega)
  rintro m k ⟨kk, S2, μ2⟩ hk ⟨hkk, ST2, hL2, hX2, hlk2⟩ ih
  dsimp only at hkk hL2 hX2 hlk2 ih ⊢
  subst hkk
  refine j_L_load_312 ?_
  refine zo_ite (fun c1 => ?_) (fun c1 => ?_)
  · have hk3 : k < pr.toNat := by omega
    rw [w32_e (z := 4 * (k : Int)) (by omega), w32_e (z := 40 + 4 * (k : Int)) (by omega), w32_e (z := 42 + 4 * (k : Int)) (by omega), w32_e (z := 43 + 4 * (k : Int)) (by omega), w32_e (z := 41 + 4 * (k : Int)) (by omega), w32_s (by omega)]
    obtain ⟨⟨v, cap, hB1⟩, hv, hl, hc⟩ := hL2
    have hL2 : Lq x S μ0 b (zhg2 g) (zD0.wru (zrg g)) (N + 20 * k) ST2 S2 μ2 := ⟨⟨v, cap, hB1⟩, hv, hl, hc⟩
    have r1 := dw_rng (n := 300) g (40 + 4 * (k : Int)) (by decide)
    have r2 := dw_rng (n := (A : Int)) g (42 + 4 * (k : Int)) (by omega)
    have r3 := dw_rng (n := (Wn : Int)) g (43 + 4 * (k : Int)) (by omega)
    have r4 := dw_rng (n := 120) g (41 + 4 * (k : Int)) (by decide)
    refine y_draw hg (by omega) (by decide) ?_
    generalize zdw g (40 + 4 * (k : Int)) 300 = lo at r1
    generalize htx : zhg2 g ++ ST2.flatMap zrnd = tx at hB1 hl
    have dl := dc_len (n := lo) (by omega)
    refine y_str hB1 (j := 22) (by decide) (by (try simp only [List.length_append, List.length_cons, List.length_nil]); omega) (fun S3 μ3 v3 c3 B3 => ?_)
    refine y_draw hg (by omega) (by omega) ?_
    obtain ⟨i, hi⟩ : ∃ i : Nat, zdw g (42 + 4 * (k : Int)) (A : Int) = (i : Int) := ⟨(zdw g (42 + 4 * (k : Int)) (A : Int)).toNat, by omega⟩
    rw [hi] at r2 ⊢
    rw [w32_e (z := 97 + (i : Int)) (by omega)]
    refine zo_pos (by omega) ?_
    refine y_chr B3 (by omega) (by (try simp only [List.length_append, List.length_cons, List.length_nil]); omega) (fun S4 μ4 v4 c4 B4 => ?_)
    refine y_str B4 (j := 23) (by decide) (by (try simp only [List.length_append, List.length_cons, List.length_nil]); omega) (fun S5 μ5 v5 c5 B5 => ?_)
    refine y_draw hg (by omega) (by omega) ?_
    obtain ⟨j, hj⟩ : ∃ j : Nat, zdw g (43 + 4 * (k : Int)) (Wn : Int) = (j : Int) := ⟨(zdw g (43 + 4 * (k : Int)) (Wn : Int)).toNat, by omega⟩
    rw [hj] at r3 ⊢
    rw [w32_e (z := 97 + (j : Int)) (by omega)]
    refine zo_pos (by omega) ?_
    refine y_chr B5 (by omega) (by (try simp only [List.length_append, List.length_cons, List.length_nil]); omega) (fun S6 μ6 v6 c6 B6 => ?_)
    refine y_str B6 (j := 24) (by decide) (by (try simp only [List.length_append, List.length_cons, List.length_nil]); omega) (fun S7 μ7 v7 c7 B7 => ?_)
    refine y_num B7 (by omega) (by (try simp only [List.length_append, List.length_cons, List.length_nil]); omega) (fun S8 μ8 v8 c8 B8 => ?_)
    refine y_str B8 (j := 24) (by decide) (by (try simp only [List.length_append, List.length_cons, List.length_nil]); omega) (fun S9 μ9 v9 c9 B9 => ?_)
    refine y_draw hg (by omega) (by decide) ?_
    generalize zdw g (41 + 4 * (k : Int)) 120 = hw at r4
    rw [w32_e (z := lo + hw) (by omega)]
    have dl2 := dc_len (n := lo + hw) (by omega)
    refine y_num B9 (by omega) (by (try simp only [List.length_append, List.length_cons, List.length_nil]); omega) (fun SA μA vA cA BA => ?_)
    refine y_str BA (j := 16) (by decide) (by (try simp only [List.length_append, List.length_cons, List.length_nil]); omega) (fun SC μC vC cC BC => ?_)
    have hz : zok1 (ST2.foldl zxec (zD0.wru (zrg g))) (3, i, j, lo, lo + hw) := ⟨A, Wn, by omega, by omega, hX2.1, hX2.2.1, by show i < A; omega, by show j < Wn; omega, by show 0 ≤ lo; omega, by show lo ≤ lo + hw; omega, by show lo + hw ≤ 999; omega⟩
    have hlen : (zrnd (3, i, j, lo, lo + hw)).length ≤ 20 := by
      show (zwrd 22 ++ [97 + (i : Int)] ++ zwrd 23 ++ [97 + (j : Int)] ++ zwrd 24 ++ zdgt lo ++ zwrd 24 ++ zdgt (lo + hw) ++ zwrd 16).length ≤ 20
      simp only [List.length_append, List.length_cons, List.length_nil]
      omega
    have L3 := hL2.add hz BC (by
      rw [← htx]
      show _ = zhg2 g ++ ST2.flatMap zrnd ++ (zwrd 22 ++ [97 + (i : Int)] ++ zwrd 23 ++ [97 + (j : Int)] ++ zwrd 24 ++ zdgt lo ++ zwrd 24 ++ zdgt (lo + hw) ++ zwrd 16)
      simp only [List.append_assoc]) hlen (by decide)
    have kp := prb_kp (ST2.foldl zxec (zD0.wru (zrg g))) (i : Int) (j : Int) lo (lo + hw)
    refine ih hk3 (((k + 1 : Nat) : Int), SC, μC) ⟨rfl, _, L3, ?_, ?_⟩
    · rw [fold_s]
      exact ⟨kp.1.1.trans hX2.1, kp.1.2.1.trans hX2.2.1, kp.1.2.2.1.trans hX2.2.2.1, kp.1.2.2.2.1.trans hX2.2.2.2.1, kp.1.2.2.2.2.trans hX2.2.2.2.2⟩
    · rw [fold_s]
      exact (lks_cg kp.1.1 kp.2).trans hlk2
  · exact ld_end hg h0 hB hA hW (by omega) hL2 hX2 hlk2
/-- who is linked when the pairs before (i, j) are through -/
def Tv (g : zF) (X : zD) (i j : Nat) : Prop := ∀ a b : Nat, b < a → (X.T (b : Int) (a : Int) = -1 ↔ X.T (a : Int) (b : Int) = -1) ∧ (X.T (a : Int) (b : Int) = -1 ↔ ¬ ((a < i ∨ (a = i ∧ b < j)) ∧ ¬ zdw g (10 + 5 * (a : Int) + (b : Int)) 3 = 0))
def zti (i : Nat) : Nat := match i with
  | 0 => 0
  | 1 => 0
  | 2 => 1
  | 3 => 3
  | 4 => 6
  | _ => 10
theorem ti_s {i : Nat} (h : i < 5) : zti i + i = zti (i + 1) ∧ zti (i + 1) ≤ 10 := by
  have hc : i = 0 ∨ i = 1 ∨ i = 2 ∨ i = 3 ∨ i = 4 := by omega
  rcases hc with z | z | z | z | z <;> subst z <;> decide
theorem ti_10 (i : Nat) (h : i ≤ 5) : zti i ≤ 10 := by
  have hc : i = 0 ∨ i = 1 ∨ i = 2 ∨ i = 3 ∨ i = 4 ∨ i = 5 := by omega
  rcases hc with z | z | z | z | z | z <;> subst z <;> decide
theorem Tv.skip {X : zD} {i j : Nat} (h : Tv g X i j) (hd : zdw g (10 + 5 * (i : Int) + (j : Int)) 3 = 0) : Tv g X i (j + 1) := by
  intro a b hb
  refine ⟨(h a b hb).1, (h a b hb).2.trans ?_⟩
  refine not_congr ⟨fun z => ⟨z.1.imp id (fun y => ⟨y.1, by omega⟩), z.2⟩, fun z => ⟨?_, z.2⟩⟩
  rcases z.1 with y | y
  · exact Or.inl y
  · by_cases e : b = j
    · rw [y.1, e] at z
      exact absurd hd z.2
    · exact Or.inr ⟨y.1, by omega⟩
theorem Tv.row {X : zD} {i : Nat} (h : Tv g X i i) : Tv g X (i + 1) 0 := by
  intro a b hb
  refine ⟨(h a b hb).1, (h a b hb).2.trans ?_⟩
  refine not_congr ⟨fun z => ⟨Or.inl (by omega), z.2⟩, fun z => ⟨by omega, z.2⟩⟩
theorem Tv.link {X : zD} {i j : Nat} {u : Int} (h : Tv g X i j) (hij : j < i) (hd : ¬ zdw g (10 + 5 * (i : Int) + (j : Int)) 3 = 0) (hu : ¬ u = -1) : Tv g (X.wT (zup2 (zup2 X.T (i : Int) (j : Int) u) (j : Int) (i : Int) u)) i (j + 1) := by
  intro a b hb
  have e : ∀ a b : Int, (X.wT (zup2 (zup2 X.T (i : Int) (j : Int) u) (j : Int) (i : Int) u)).T a b = if a = (j : Int) ∧ b = (i : Int) then u else if a = (i : Int) ∧ b = (j : Int) then u else X.T a b := fun _ _ => rfl
  rw [e, e]
  by_cases hc : a = i ∧ b = j
  · have h1 : (b : Int) = (j : Int) ∧ (a : Int) = (i : Int) := by omega
    have h2 : ¬ ((a : Int) = (j : Int) ∧ (b : Int) = (i : Int)) := by omega
    have h3 : (a : Int) = (i : Int) ∧ (b : Int) = (j : Int) := by omega
    rw [if_pos h1, if_neg h2, if_pos h3]
    refine ⟨Iff.rfl, ⟨fun z => absurd z hu, fun z => absurd ⟨Or.inr ⟨hc.1, by omega⟩, ?_⟩ z⟩⟩
    rw [hc.1, hc.2]
    exact hd
  · have h1 : ¬ ((b : Int) = (j : Int) ∧ (a : Int) = (i : Int)) := by omega
    have h2 : ¬ ((a : Int) = (j : Int) ∧ (b : Int) = (i : Int)) := by omega
    have h3 : ¬ ((a : Int) = (i : Int) ∧ (b : Int) = (j : Int)) := by omega
    have h4 : ¬ ((b : Int) = (i : Int) ∧ (a : Int) = (j : Int)) := by omega
    rw [if_neg h1, if_neg h4, if_neg h2, if_neg h3]
    refine ⟨(h a b hb).1, (h a b hb).2.trans (not_congr ⟨fun z => ⟨by omega, z.2⟩, fun z => ⟨by omega, z.2⟩⟩)⟩
theorem ld_links (hg : (zsl9 g : Int) < 2147483648) (h0 : Wd B x S μ0 M L K [] out c p) (hB : B + 99 ≤ 1000000) {A Wn : Nat} (hA : 1 ≤ A ∧ A ≤ 5) (hW : 1 ≤ Wn ∧ Wn ≤ 3) (hN : N ≤ 140) (hL : Lq x S μ0 b (zhg2 g) (zD0.wru (zrg g)) N ST S1 μ1) (hX : ZX (ST.foldl zxec (zD0.wru (zrg g))) A Wn (zrg g)) (hT : Tv g (ST.foldl zxec (zD0.wru (zrg g))) 0 0) : zo (f_L_load_181 g x 200 (A : Int) (Wn : Int) b (S1, μ1)) (Dl B x K out) := by
  have wl := w_lens
  refine j_L_load_181 ?_
  refine zo_lk (F := fun m (q : Int × Int × zG × zM) => f_L_load_187 g m x 200 (A : Int) (Wn : Int) b q.1 q.2.1 (q.2.2.1, q.2.2.2)) (b0 := (0, 0, S1, μ1)) A (fun i q => q.2.1 = (i : Int) ∧ q.1 = zlp (fun i c => zlp (fun j c => c + zdl g i j) 0 i c) 0 i 0 ∧ (0 ≤ q.1 ∧ q.1 ≤ (zti i : Int)) ∧ ∃ ST, Lq x S μ0 b (zhg2 g) (zD0.wru (zrg g)) (N + 20 * zti i) ST q.2.2.1 q.2.2.2 ∧ ZX (ST.foldl zxec (zD0.wru (zrg g))) A Wn (zrg g) ∧ Tv g (ST.foldl zxec (zD0.wru (zrg g))) i 0) ?_ ⟨rfl, rfl, ⟨Int.le_refl _, Int.le_refl _⟩, ST, hL, hX, hT⟩ (by omega)
  rintro m i ⟨lk, ii, S2, μ2⟩ hi ⟨hii, hlk, hlr, ST2, hL2, hX2, hT2⟩ ih
  dsimp only at hii hlk hlr hL2 hX2 hT2 ih ⊢
  subst hii
  have ht10 := ti_10 i (by omega)
  refine j_L_load_187 ?_
  refine zo_ite (fun c1 => ?_) (fun c1 => ?_)
  · have hi3 : i < A := by omega
    have hts := ti_s (i := i) (by omega)
    refine zo_lk (F := fun m2 (q : Int × Int × zG × zM) => f_L_load_196 g (f_L_load_187 g m) m2 x 200 (A : Int) (Wn : Int) b q.1 (i : Int) q.2.1 (q.2.2.1, q.2.2.2)) (b0 := (lk, 0, S2, μ2)) i (fun j q => q.2.1 = (j : Int) ∧ q.1 = zlp (fun j c => c + zdl g i j) 0 j lk ∧ (0 ≤ q.1 ∧ q.1 ≤ ((zti i + j : Nat) : Int)) ∧ ∃ ST, Lq x S μ0 b (zhg2 g) (zD0.wru (zrg g)) (N + 20 * (zti i + j)) ST q.2.2.1 q.2.2.2 ∧ ZX (ST.foldl zxec (zD0.wru (zrg g))) A Wn (zrg g) ∧ Tv g (ST.foldl zxec (zD0.wru (zrg g))) i j) ?_ ⟨rfl, rfl, hlr, ST2, hL2, hX2, hT2⟩ (by omega)
    rintro m2 j ⟨lk2, jj, S3, μ3⟩ hj ⟨hjj, hlk3, hlr3, ST3, hL3, hX3, hT3⟩ ih2
    dsimp only at hjj hlk3 hlr3 hL3 hX3 hT3 ih2 ⊢
    subst hjj
    refine j_L_load_196 ?_
    refine zo_ite (fun c2 => ?_) (fun c2 => ?_)
    · have hj3 : j < i := by omega
      rw [w32_e (z := 5 * (i : Int)) (by omega), w32_e (z := 10 + 5 * (i : Int)) (by omega), w32_e (z := 11 + 5 * (i : Int)) (by omega), w32_e (z := 10 + 5 * (i : Int) + (j : Int)) (by omega), w32_e (z := 11 + 5 * (i : Int) + (j : Int)) (by omega)]
      refine y_draw hg (by omega) (by decide) ?_
      refine zo_ite (fun c3 => ?_) (fun c3 => ?_)
      · refine j_L_load_287 ?_
        rw [w32_s (by omega)]
        have ez : zdl g i j = 0 := if_pos c3
        obtain ⟨g1, g2, g3, g4⟩ := hL3
        refine ih2 hj3 (lk2, ((j + 1 : Nat) : Int), S3, μ3) ⟨rfl, ?_, by show 0 ≤ lk2 ∧ lk2 ≤ ((zti i + (j + 1) : Nat) : Int); omega, ST3, ⟨g1, g2, by omega, by omega⟩, hX3, hT3.skip c3⟩
        rw [zlp_s0, ← hlk3, ez]
        exact (Int.add_zero _).symm
      · obtain ⟨⟨v, cap, hB1⟩, hv, hl, hc⟩ := hL3
        have hL3 : Lq x S μ0 b (zhg2 g) (zD0.wru (zrg g)) (N + 20 * (zti i + j)) ST3 S3 μ3 := ⟨⟨v, cap, hB1⟩, hv, hl, hc⟩
        generalize htx : zhg2 g ++ ST3.flatMap zrnd = tx at hB1 hl
        rw [w32_e (z := 97 + (i : Int)) (by omega), w32_e (z := 97 + (j : Int)) (by omega)]
        refine y_str hB1 (j := 19) (by decide) (by (try simp only [List.length_append, List.length_cons, List.length_nil]); omega) (fun S4 μ4 v4 c4 B4 => ?_)
        refine zo_pos (by omega) ?_
        refine y_chr B4 (by omega) (by (try simp only [List.length_append, List.length_cons, List.length_nil]); omega) (fun S5 μ5 v5 c5 B5 => ?_)
        refine y_str B5 (j := 20) (by decide) (by (try simp only [List.length_append, List.length_cons, List.length_nil]); omega) (fun S6 μ6 v6 c6 B6 => ?_)
        refine zo_pos (by omega) ?_
        refine y_chr B6 (by omega) (by (try simp only [List.length_append, List.length_cons, List.length_nil]); omega) (fun S7 μ7 v7 c7 B7 => ?_)
        refine y_str B7 (j := 21) (by decide) (by (try simp only [List.length_append, List.length_cons, List.length_nil]); omega) (fun S8 μ8 v8 c8 B8 => ?_)
        have rv := dw_rng (n := 11) g (11 + 5 * (i : Int) + (j : Int)) (by decide)
        refine y_draw hg (by omega) (by decide) ?_
        generalize zdw g (11 + 5 * (i : Int) + (j : Int)) 11 = u at rv
        have dl := dc_len (n := u) (by omega)
        have dl2 : (zdgt u).length ≤ 2 := by
          by_cases h1 : u < 10
          · rw [zdgt1 h1]
            exact show 1 ≤ 2 by decide
          · rw [zdgt2 h1 (by omega)]
            exact Nat.le_refl 2
        refine y_num B8 (by omega) (by (try simp only [List.length_append, List.length_cons, List.length_nil]); omega) (fun S9 μ9 v9 c9 B9 => ?_)
        refine y_str B9 (j := 16) (by decide) (by (try simp only [List.length_append, List.length_cons, List.length_nil]); omega) (fun SA μA vA cA BA => ?_)
        refine j_L_load_287 ?_
        rw [w32_s (by omega), w32_e (z := lk2 + 1) (by omega)]
        have hTij : (ST3.foldl zxec (zD0.wru (zrg g))).T (i : Int) (j : Int) = -1 := (hT3 i j hj3).2.mpr (fun z => by omega)
        have hz : zok1 (ST3.foldl zxec (zD0.wru (zrg g))) (2, i, j, u, 0) := ⟨A, by omega, hX3.1, hi3, by show j < A; omega, by show ¬ i = j; omega, hTij, by show 0 ≤ u; omega, by show u ≤ 10; omega⟩
        have hlen : (zrnd (2, i, j, u, 0)).length ≤ 20 := by
          show (zwrd 19 ++ [97 + (i : Int)] ++ zwrd 20 ++ [97 + (j : Int)] ++ zwrd 21 ++ zdgt u ++ zwrd 16).length ≤ 20
          simp only [List.length_append, List.length_cons, List.length_nil]
          omega
        have L4 := hL3.add hz BA (by
          rw [← htx]
          show _ = zhg2 g ++ ST3.flatMap zrnd ++ (zwrd 19 ++ [97 + (i : Int)] ++ zwrd 20 ++ [97 + (j : Int)] ++ zwrd 21 ++ zdgt u ++ zwrd 16)
          simp only [List.append_assoc]) hlen (by decide)
        have ez : zdl g i j = 1 := if_neg c3
        refine ih2 hj3 (lk2 + 1, ((j + 1 : Nat) : Int), SA, μA) ⟨rfl, ?_, by show 0 ≤ lk2 + 1 ∧ lk2 + 1 ≤ ((zti i + (j + 1) : Nat) : Int); omega, _, L4, ?_, ?_⟩
        · rw [zlp_s0, ← hlk3, ez]
        · rw [fold_s]
          exact hX3
        · rw [fold_s]
          exact hT3.link hj3 c3 (by show ¬ u = -1; omega)
    · have hj3 : j = i := by omega
      rw [hj3] at hlk3 hlr3 hL3 hT3
      refine j_L_load_293 ?_
      rw [w32_s (by omega)]
      refine ih hi3 (lk2, ((i + 1 : Nat) : Int), S3, μ3) ⟨rfl, ?_, by show 0 ≤ lk2 ∧ lk2 ≤ (zti (i + 1) : Int); omega, ST3, by rw [← hts.1]; exact hL3, hX3, hT3.row⟩
      rw [zlp_s0, ← hlk]
      exact hlk3
  · have hi3 : i = A := by omega
    rw [hi3] at hlk hL2 hT2 ht10
    refine ld_probes hg h0 hB hA hW (by omega) hL2 hX2 ?_
    rw [hlk]
    refine lks_sum (by rw [hX2.1, zan_l]) hA.2 (fun a d hd ha => ?_)
    have h1 := hT2 a d hd
    unfold zlk zdl
    by_cases hz : zdw g (10 + 5 * (a : Int) + (d : Int)) 3 = 0
    · rw [if_pos hz, if_pos (h1.1.mpr (h1.2.mpr (fun z => z.2 hz)))]
    · rw [if_neg hz, if_neg (fun z => h1.2.mp (h1.1.mp z) ⟨Or.inl ha, hz⟩)]
theorem ld_ways (hg : (zsl9 g : Int) < 2147483648) (h0 : Wd B x S μ0 M L K [] out c p) (hB : B + 99 ≤ 1000000) {A Wn : Nat} (hA : 1 ≤ A ∧ A ≤ 5) (hW : 1 ≤ Wn ∧ Wn ≤ 3) (hN : N ≤ 110) (hL : Lq x S μ0 b (zhg2 g) (zD0.wru (zrg g)) N ST S1 μ1) (hX : ZX (ST.foldl zxec (zD0.wru (zrg g))) A 0 (zrg g)) (hT : (ST.foldl zxec (zD0.wru (zrg g))).T = fun _ _ => -1) : zo (f_L_load_144 g x 200 (A : Int) (Wn : Int) b (S1, μ1)) (Dl B x K out) := by
  have wl := w_lens
  refine j_L_load_144 ?_
  refine zo_lk (F := fun m (q : Int × zG × zM) => f_L_load_147 g m x 200 (A : Int) (Wn : Int) b q.1 (q.2.1, q.2.2)) (b0 := (0, S1, μ1)) Wn (fun k q => q.1 = (k : Int) ∧ ∃ ST, Lq x S μ0 b (zhg2 g) (zD0.wru (zrg g)) (N + 7 * k) ST q.2.1 q.2.2 ∧ ZX (ST.foldl zxec (zD0.wru (zrg g))) A k (zrg g) ∧ (ST.foldl zxec (zD0.wru (zrg g))).T = fun _ _ => -1) ?_ ⟨rfl, ST, hL, hX, hT⟩ (by omega)
  rintro m k ⟨kk, S2, μ2⟩ hk ⟨hkk, ST2, hL2, hX2, hT2⟩ ih
  dsimp only at hkk hL2 hX2 hT2 ih ⊢
  subst hkk
  refine j_L_load_147 ?_
  refine zo_ite (fun c1 => ?_) (fun c1 => ?_)
  · have hk3 : k < Wn := by omega
    rw [w32_e (z := 97 + (k : Int)) (by omega), w32_s (by omega)]
    obtain ⟨⟨v, cap, hB1⟩, hv, hl, hc⟩ := hL2
    have hL2 : Lq x S μ0 b (zhg2 g) (zD0.wru (zrg g)) (N + 7 * k) ST2 S2 μ2 := ⟨⟨v, cap, hB1⟩, hv, hl, hc⟩
    generalize htx : zhg2 g ++ ST2.flatMap zrnd = tx at hB1 hl
    refine y_str hB1 (j := 18) (by decide) (by (try simp only [List.length_append, List.length_cons, List.length_nil]); omega) (fun S3 μ3 v3 c3 B3 => ?_)
    refine zo_pos (by omega) ?_
    refine y_chr B3 (by omega) (by (try simp only [List.length_append, List.length_cons, List.length_nil]); omega) (fun S4 μ4 v4 c4 B4 => ?_)
    refine y_str B4 (j := 16) (by decide) (by (try simp only [List.length_append, List.length_cons, List.length_nil]); omega) (fun S5 μ5 v5 c5 B5 => ?_)
    have hz : zok1 (ST2.foldl zxec (zD0.wru (zrg g))) (1, k, 0, 0, 0) := ⟨by show k < 6; omega, hX2.2.1⟩
    have hlen : (zrnd (1, k, 0, 0, 0)).length ≤ 7 := by
      show (zwrd 18 ++ [97 + (k : Int)] ++ zwrd 16).length ≤ 7
      simp only [List.length_append, List.length_cons, List.length_nil]
      omega
    have L3 := hL2.add hz B5 (by
      rw [← htx]
      show _ = zhg2 g ++ ST2.flatMap zrnd ++ (zwrd 18 ++ [97 + (k : Int)] ++ zwrd 16)
      simp only [List.append_assoc]) hlen (by decide)
    refine ih hk3 (((k + 1 : Nat) : Int), S5, μ5) ⟨rfl, _, L3, ?_, ?_⟩
    · rw [fold_s]
      refine ⟨hX2.1, ?_, hX2.2.2.1, hX2.2.2.2.1, hX2.2.2.2.2⟩
      show (ST2.foldl zxec (zD0.wru (zrg g))).wn ++ [[23, 1 + (k : Int)]] = zwn (k + 1)
      rw [hX2.2.1, zwn_s]
    · rw [fold_s]
      exact hT2
  · have hk3 : k = Wn := by omega
    rw [hk3] at hL2 hX2
    refine ld_links hg h0 hB hA hW (by omega) hL2 hX2 (fun a d hd => ?_)
    rw [hT2]
    exact ⟨Iff.rfl, ⟨fun _ z => by omega, fun _ => rfl⟩⟩
theorem l_load (hg : (zsl9 g : Int) < 2147483648) (h0 : Wd B x S μ0 M L K [] out c p) (hB : B + 99 ≤ 1000000) : zo (f_L_load g x 200 (S, μ0)) (Dl B x K out) := by
  have wl := w_lens
  have hx := h0.nn
  have ra := dw_rng (n := 5) g 0 (by decide)
  have rb := dw_rng (n := 3) g 1 (by decide)
  refine j_L_load ?_
  refine y_draw hg (by decide) (by decide) ?_
  refine y_draw hg (by decide) (by decide) ?_
  refine y_nw (x := x) (fun S1 μ1 e1 nx1 sh1 z1 => ?_)
  refine zo_pos (by omega) ?_
  obtain ⟨S2, μ2, v2, c2, e2, B2⟩ := b_init (j := 11) (by decide) hx e1 sh1 (by omega) (z1 3) (by omega)
  refine zo_bn e2 ?_
  have r2 := dw_rng (n := 4) g 2 (by decide)
  have r3 := dw_rng (n := 12) g 3 (by decide)
  have r4 := dw_rng (n := 7) g 4 (by decide)
  have r5 := dw_rng (n := 40) g 5 (by decide)
  have r6 := dw_rng (n := 3) g 6 (by decide)
  have l2 := dc_len (n := zdw g 2 4) (by omega)
  have l3 := dc_len (n := zdw g 3 12) (by omega)
  have l4 := dc_len (n := zdw g 4 7) (by omega)
  have l5 := dc_len (n := 2 + zdw g 5 40) (by omega)
  have l6 := dc_len (n := 1 + zdw g 6 3) (by omega)
  refine y_draw hg (by decide) (by decide) ?_
  refine y_num B2 (by omega) (by (try simp only [List.length_append, List.length_cons, List.length_nil]); omega) (fun S3 μ3 v3 c3 B3 => ?_)
  refine y_str B3 (j := 12) (by decide) (by (try simp only [List.length_append, List.length_cons, List.length_nil]); omega) (fun S4 μ4 v4 c4 B4 => ?_)
  refine y_draw hg (by decide) (by decide) ?_
  refine y_num B4 (by omega) (by (try simp only [List.length_append, List.length_cons, List.length_nil]); omega) (fun S5 μ5 v5 c5 B5 => ?_)
  refine y_str B5 (j := 13) (by decide) (by (try simp only [List.length_append, List.length_cons, List.length_nil]); omega) (fun S6 μ6 v6 c6 B6 => ?_)
  refine y_draw hg (by decide) (by decide) ?_
  refine y_num B6 (by omega) (by (try simp only [List.length_append, List.length_cons, List.length_nil]); omega) (fun S7 μ7 v7 c7 B7 => ?_)
  refine y_str B7 (j := 14) (by decide) (by (try simp only [List.length_append, List.length_cons, List.length_nil]); omega) (fun S8 μ8 v8 c8 B8 => ?_)
  refine y_draw hg (by decide) (by decide) ?_
  rw [w32_e (z := 2 + zdw g 5 40) (by omega)]
  refine y_num B8 (by omega) (by (try simp only [List.length_append, List.length_cons, List.length_nil]); omega) (fun S9 μ9 v9 c9 B9 => ?_)
  refine y_str B9 (j := 15) (by decide) (by (try simp only [List.length_append, List.length_cons, List.length_nil]); omega) (fun SA μA vA cA BA => ?_)
  refine y_draw hg (by decide) (by decide) ?_
  rw [w32_e (z := 1 + zdw g 6 3) (by omega)]
  refine y_num BA (by omega) (by (try simp only [List.length_append, List.length_cons, List.length_nil]); omega) (fun SC μC vC cC BC => ?_)
  refine y_str BC (j := 16) (by decide) (by (try simp only [List.length_append, List.length_cons, List.length_nil]); omega) (fun SD μD vD cD BD => ?_)
  rw [w32_e (z := 1 + zdw g 0 5) (by omega), w32_e (z := 1 + zdw g 1 3) (by omega)]
  obtain ⟨A, hA⟩ : ∃ A : Nat, 1 + zdw g 0 5 = (A : Int) := ⟨(1 + zdw g 0 5).toNat, by omega⟩
  obtain ⟨Wn, hW⟩ : ∃ Wn : Nat, 1 + zdw g 1 3 = (Wn : Int) := ⟨(1 + zdw g 1 3).toNat, by omega⟩
  rw [hA, hW]
  have hA5 : 1 ≤ A ∧ A ≤ 5 := by omega
  have hW3 : 1 ≤ Wn ∧ Wn ≤ 3 := by omega
  replace BD : Bq x S μ0 SD μD S.2.2 vD cD (zhg2 g) := BD
  have hhl : (zhg2 g).length ≤ 60 := by
    show (zwrd 11 ++ zdgt (zdw g 2 4) ++ zwrd 12 ++ zdgt (zdw g 3 12) ++ zwrd 13 ++ zdgt (zdw g 4 7) ++ zwrd 14 ++ zdgt (2 + zdw g 5 40) ++ zwrd 15 ++ zdgt (1 + zdw g 6 3) ++ zwrd 16).length ≤ 60
    simp only [List.length_append]
    omega
  have hL0 : Lq x S μ0 S.2.2 (zhg2 g) (zD0.wru (zrg g)) 60 [] SD μD := ⟨⟨vD, cD, by rw [List.flatMap_nil, List.append_nil]; exact BD⟩, trivial, by rw [List.flatMap_nil, List.append_nil]; exact hhl, by show 0 ≤ 60; decide⟩
  refine zo_lk (F := fun m (q : Int × zG × zM) => f_L_load_110 g m x 200 (A : Int) (Wn : Int) S.2.2 q.1 (q.2.1, q.2.2)) (b0 := (0, SD, μD)) A (fun k q => q.1 = (k : Int) ∧ ∃ ST, Lq x S μ0 S.2.2 (zhg2 g) (zD0.wru (zrg g)) (60 + 9 * k) ST q.2.1 q.2.2 ∧ ZX (ST.foldl zxec (zD0.wru (zrg g))) k 0 (zrg g) ∧ (ST.foldl zxec (zD0.wru (zrg g))).T = fun _ _ => -1) ?_ ⟨rfl, [], hL0, ⟨rfl, rfl, rfl, rfl, rfl⟩, rfl⟩ (by omega)
  rintro m k ⟨kk, S2, μ2⟩ hk ⟨hkk, ST2, hL2, hX2, hT2⟩ ih
  dsimp only at hkk hL2 hX2 hT2 ih ⊢
  subst hkk
  refine j_L_load_110 ?_
  refine zo_ite (fun c1 => ?_) (fun c1 => ?_)
  · have hk3 : k < A := by omega
    rw [w32_e (z := 97 + (k : Int)) (by omega), w32_s (by omega)]
    obtain ⟨⟨v, cap, hB1⟩, hv, hl, hc⟩ := hL2
    have hL2 : Lq x S μ0 S.2.2 (zhg2 g) (zD0.wru (zrg g)) (60 + 9 * k) ST2 S2 μ2 := ⟨⟨v, cap, hB1⟩, hv, hl, hc⟩
    generalize htx : zhg2 g ++ ST2.flatMap zrnd = tx at hB1 hl
    refine y_str hB1 (j := 17) (by decide) (by (try simp only [List.length_append, List.length_cons, List.length_nil]); omega) (fun S3 μ3 v3 c3 B3 => ?_)
    refine zo_pos (by omega) ?_
    refine y_chr B3 (by omega) (by (try simp only [List.length_append, List.length_cons, List.length_nil]); omega) (fun S4 μ4 v4 c4 B4 => ?_)
    refine y_str B4 (j := 16) (by decide) (by (try simp only [List.length_append, List.length_cons, List.length_nil]); omega) (fun S5 μ5 v5 c5 B5 => ?_)
    have hz : zok1 (ST2.foldl zxec (zD0.wru (zrg g))) (0, k, 0, 0, 0) := ⟨by show k < 6; omega, hX2.1⟩
    have hlen : (zrnd (0, k, 0, 0, 0)).length ≤ 9 := by
      show (zwrd 17 ++ [97 + (k : Int)] ++ zwrd 16).length ≤ 9
      simp only [List.length_append, List.length_cons, List.length_nil]
      omega
    have L3 := hL2.add hz B5 (by
      rw [← htx]
      show _ = zhg2 g ++ ST2.flatMap zrnd ++ (zwrd 17 ++ [97 + (k : Int)] ++ zwrd 16)
      simp only [List.append_assoc]) hlen (by decide)
    refine ih hk3 (((k + 1 : Nat) : Int), S5, μ5) ⟨rfl, _, L3, ?_, ?_⟩
    · rw [fold_s]
      refine ⟨?_, hX2.2.1, hX2.2.2.1, hX2.2.2.2.1, hX2.2.2.2.2⟩
      show (ST2.foldl zxec (zD0.wru (zrg g))).an ++ [[1, 1 + (k : Int)]] = zan (k + 1)
      rw [hX2.1, zan_s]
    · rw [fold_s]
      exact hT2
  · have hk3 : k = A := by omega
    rw [hk3] at hL2 hX2
    exact ld_ways hg h0 hB hA5 hW3 (by omega) hL2 hX2 hT2
end R12
