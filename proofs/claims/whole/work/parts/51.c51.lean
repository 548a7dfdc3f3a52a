/-! C 51: the model: delivering, rounds, time -/
section C51
variable {S : zG} {μ μ' : zM} {m A B : Int} {M X : zD} {Q : zR × zS → Prop} {g g' : zAr}
theorem rcv_some {p q : zP} (h : M.ref p = 0) (hf : (((M.tal (p 7) 1).come (p 7) (zcut p)).li (p 7)).find? (zqb (p 7) (p 3)) = some q) : M.rcv p = ((((M.tal (p 7) 1).come (p 7) (zcut p)).jud (p 7) (zcut p) q).1, 1) := by
  rw [rcv_pos h, hf]
theorem rcv_none {p : zP} (h : M.ref p = 0) (hf : (((M.tal (p 7) 1).come (p 7) (zcut p)).li (p 7)).find? (zqb (p 7) (p 3)) = none) : M.rcv p = ((M.tal (p 7) 1).come (p 7) (zcut p), 1) := by
  rw [rcv_pos h, hf]
set_option maxHeartbeats 1000000 in
theorem b_delivers (H : MSh S m A) (h : D8 (μ A) M) (W : WF B M) {p : zP} {l : List zP} (hq : M.qu = p :: l) : ∃ μ', f_X8_delivers m (S, μ) = some (.inl (M.rcv p).2, (S, μ')) ∧ D8 (μ' A) ((M.rcv p).1.wqu l) ∧ FA A μ μ' := by
  have hk : M.qu[0]? = some p := by rw [hq]; rfl
  have hm := W.qu p (List.mem_of_getElem? hk)
  have h60 := h.al
  have hg := hm.g
  have hv := hm.v
  have hb := hm.b
  have hg6 : 0 ≤ p 7 ∧ p 7 < 6 := by omega
  have hql := h.ql
  apply zo_ux
  refine j_X8_delivers ?_
  refine zo_ob H.o (by omega) ?_
  refine zo_bn (b_ofM7 (k := 0) H h hk) ?_
  refine zo_ob H.o (by omega) ?_
  refine zo_bn (b_refusalOf (k := 0) H h W hk) ?_
  by_cases h0 : M.ref p = 0
  · refine zo_pos h0 ?_
    refine j_X8_delivers_21 ?_
    refine zo_neg (by decide) ?_
    refine j_X8_delivers_33 ?_
    refine zo_ob H.o (by omega) ?_
    obtain ⟨μ1, e1, h1, f1⟩ := b_count H h (i := 1) hg6 (by decide)
    refine zo_bn e1 ?_
    refine zo_neg (by decide) ?_
    have hk1 : (M.tal (p 7) 1).qu[0]? = some p := hk
    have hq1 : (M.tal (p 7) 1).qu = p :: l := hq
    have hcok := hm.cut
    have W1 : WF B (M.tal (p 7) 1) := W.tal _ _
    have hlen : (((M.tal (p 7) 1).li (p 7)).eraseP (zqb (p 0) (p 3))).length + 1 ≤ 36 := come_len W1 (i := p 7) (p := zcut p) hg hcok
    have W2 : WF B ((M.tal (p 7) 1).come (p 7) (zcut p)) := W1.come hg hcok
    have ew : w32 ((w32 (1000 * p 5)) + p 6) = 1000 * p 5 + p 6 := by rw [w32_e (z := 1000 * p 5) (by omega), w32_e (by omega)]
    refine zo_ob H.o (by omega) ?_
    refine zo_bn (b_ofM3 (k := 0) H h1 hk1) ?_
    refine zo_ob H.o (by omega) ?_
    refine zo_bn (b_ofM0 (k := 0) H h1 hk1) ?_
    refine zo_ob H.o (by omega) ?_
    refine zo_bn (b_ofM1 (k := 0) H h1 hk1) ?_
    refine zo_ob H.o (by omega) ?_
    refine zo_bn (b_ofM2 (k := 0) H h1 hk1) ?_
    refine zo_ob H.o (by omega) ?_
    refine zo_bn (b_ofM4 (k := 0) H h1 hk1) ?_
    refine zo_ob H.o (by omega) ?_
    refine zo_bn (b_ofM5 (k := 0) H h1 hk1) ?_
    refine zo_ob H.o (by omega) ?_
    refine zo_bn (b_ofM6 (k := 0) H h1 hk1) ?_
    refine zo_ob H.o (by omega) ?_
    rw [ew]
    obtain ⟨μ2, e2, h2, f2⟩ := b_comes H h1 (o := p 0) (v := p 1) (hh := p 2) (w9 := p 3) (t := p 4) (lo := p 5) (hi := p 6) hg6 hlen rfl (by omega) (by omega)
    refine zo_bn e2 ?_
    have hzc : (M.tal (p 7) 1).come (p 7) (zrow (p 0) (p 1) (p 2) (p 3) (p 4) (p 5) (p 6)) = (M.tal (p 7) 1).come (p 7) (zcut p) := rfl
    rw [hzc] at h2
    have hq2 : ((M.tal (p 7) 1).come (p 7) (zcut p)).qu = p :: l := hq
    have hli : ((M.tal (p 7) 1).come (p 7) (zcut p)).li (p 7) = ((M.tal (p 7) 1).li (p 7)).eraseP (zqb (p 0) (p 3)) ++ [zcut p] := zup1_at
    have hkl : (((M.tal (p 7) 1).come (p 7) (zcut p)).li (p 7))[(((M.tal (p 7) 1).li (p 7)).eraseP (zqb (p 0) (p 3))).length]? = some (zcut p) := by rw [hli, List.getElem?_append_right (Nat.le_refl _), Nat.sub_self]; rfl
    have hsome := fun q => rcv_some (M := M) (p := p) (q := q) h0
    have hnone := rcv_none (M := M) (p := p) h0
    generalize (((M.tal (p 7) 1).li (p 7)).eraseP (zqb (p 0) (p 3))).length = L at *
    generalize (M.tal (p 7) 1).come (p 7) (zcut p) = M2 at *
    refine zo_ob H.o (by omega) ?_
    refine zo_bn (b_ownOf H h2 hg6) ?_
    have fin : ∀ (M3 : zD) (μ3 : zM), M3.qu = p :: l → D8 (μ3 A) M3 → FA A μ μ3 → M.rcv p = (M3, 1) → zo (f_X8_delivers_137 m 1 (S, μ3)) (fun r => ∃ μ', r = (.inl (M.rcv p).2, (S, μ')) ∧ D8 (μ' A) ((M.rcv p).1.wqu l) ∧ FA A μ μ') := by
      intro M3 μ3 hq3 h3 f3 hr
      refine j_X8_delivers_137 ?_
      refine zo_ob H.o (by omega) ?_
      obtain ⟨μ4, e4, h4, f4⟩ := b_dropFirst H h3 hq3
      refine zo_bn e4 ?_
      refine zo_pos (by decide) ?_
      exact zo_rt ⟨μ4, by rw [hr], by rw [hr]; exact h4, FA.tr f3 f4⟩
    rcases zfi_cs (p 7) (p 3) (M2.li (p 7)) with ⟨e4, e5, -⟩ | ⟨j, q, e4, e5, e6, e7, -⟩
    · refine zo_pos e4 ?_
      refine j_X8_delivers_134 ?_
      refine j_X8_delivers_135 ?_
      exact fin M2 μ2 hq2 h2 (FA.tr f1 f2) (hnone e5)
    · rw [e4]
      refine zo_neg (by omega) ?_
      have hjL : j ≠ L := by
        intro z
        subst z
        have e8 : q = zcut p := Option.some.inj (e5.symm.trans hkl)
        have e9 := e7.1
        rw [e8] at e9
        exact hm.g0 e9.symm
      refine zo_neg (by omega) ?_
      refine zo_ob H.o (by omega) ?_
      obtain ⟨μ3, e8, h3, f3⟩ := b_judges H h2 hg6 hkl e5 (show 0 ≤ p 1 ∧ p 1 < 6 by omega) (W2.Tr _ _)
      refine zo_bn e8 ?_
      have hq3 : (M2.jud (p 7) (zcut p) q).1.qu = p :: l := (jud_T M2 (p 7) (zcut p) q).2.2.2.1.trans hq2
      have hr := hsome q e6
      refine zo_ite (fun _ => ?_) (fun _ => ?_)
      · refine j_X8_delivers_134 ?_
        refine j_X8_delivers_135 ?_
        exact fin _ μ3 hq3 h3 (FA.tr f1 (FA.tr f2 f3)) hr
      · refine j_X8_delivers_135 ?_
        exact fin _ μ3 hq3 h3 (FA.tr f1 (FA.tr f2 f3)) hr
  · rw [rcv_neg h0]
    refine zo_neg h0 ?_
    refine j_X8_delivers_21 ?_
    refine zo_pos rfl ?_
    refine j_X8_delivers_33 ?_
    refine zo_ob H.o (by omega) ?_
    obtain ⟨μ1, e1, h1, f1⟩ := b_count H h (i := 2) hg6 (by decide)
    refine zo_bn e1 ?_
    refine zo_pos rfl ?_
    refine j_X8_delivers_137 ?_
    refine zo_ob H.o (by omega) ?_
    obtain ⟨μ2, e2, h2, f2⟩ := b_dropFirst H h1 (p := p) (l := l) hq
    refine zo_bn e2 ?_
    refine zo_pos (by decide) ?_
    exact zo_rt ⟨μ2, rfl, h2, FA.tr f1 f2⟩
theorem dlv_cons (m0 : zP) (r : List zP) (z : zD × Int) : zdlv (m0 :: r) z = zdlv r ((z.1.rcv m0).1, z.2 + (z.1.rcv m0).2) := rfl
theorem wqu_id (M : zD) : M.wqu M.qu = M := rfl
theorem b_deliver_go {n : Nat} {R : List zP} {fin : zD × Int} (H : MSh S m A) (hn : n ≤ 1000) : ∀ (f : Nat) (k : Nat) (c : Int) (μ2 : zM),
    (∃ (Y : zD) (rest : List zP), D8 (μ2 A) (Y.wqu rest) ∧ WF B (Y.wqu rest) ∧ k ≤ n ∧ zdlv (rest.take (n - k)) (Y, c) = fin ∧ rest.drop (n - k) = R ∧ FA A μ μ2 ∧ 0 ≤ c ∧ c ≤ (k : Int)) → n - k < f →
    zo (f_X8_deliverAll_4 f m (n : Int) c (k : Int) (S, μ2)) (fun r => ∃ μ', r = (.inl fin.2, (S, μ')) ∧ D8 (μ' A) (fin.1.wqu R) ∧ FA A μ μ') := by
  refine zo_l3 _ (fun k _ _ => n - k) ?_
  rintro f k c μ2 ⟨Y, rest, h, W, hk, hfin, hR, hfr, hc0, hck⟩ ih
  have hql := h.ql
  refine j_X8_deliverAll_4 ?_
  by_cases e : k < n
  · refine zo_pos (by omega) ?_
    refine zo_ob H.o (by omega) ?_
    refine zo_bn (b_queued H h) ?_
    have e9 : n - k = (n - (k + 1)) + 1 := by omega
    rw [e9] at hfin hR
    cases rest with
    | nil =>
      refine zo_neg (by show ¬ (0 : Int) < ((0 : Nat) : Int); decide) ?_
      rw [List.take_nil] at hfin
      rw [List.drop_nil] at hR
      have hf2 : (Y, c) = fin := hfin
      exact zo_rt ⟨μ2, by rw [← hf2], by rw [← hf2, ← hR]; exact h, hfr⟩
    | cons p l =>
      refine zo_pos (by show (0 : Int) < ((l.length + 1 : Nat) : Int); omega) ?_
      refine zo_ob H.o (by omega) ?_
      rw [List.take_succ_cons, dlv_cons] at hfin
      rw [List.drop_succ_cons] at hR
      obtain ⟨μ3, e3, h3, f3⟩ := b_delivers H h W (p := p) (l := l) rfl
      rw [rcv_qu] at e3 h3
      have hWp := W.rcv (m := p) (W.qu p (List.mem_cons_self ..))
      rw [rcv_qu] at hWp
      have hok : ∀ x, x ∈ l → QOk (Y.an.length : Int) (Y.wn.length : Int) Y.tm x := fun x hx => W.qu x (List.mem_cons_of_mem _ hx)
      have hT := rcv_T Y p
      have h01 := rcv_01 Y p
      refine zo_bn e3 ?_
      have hl100 : l.length ≤ 100 := by
        have : (p :: l).length ≤ 100 := hql
        rw [List.length_cons] at this
        omega
      have hW3 : WF B ((Y.rcv p).1.wqu l) := by
        have := WF.que (M := (Y.rcv p).1.wqu (p :: l)) hWp (l := l) (by
          intro x hx
          show QOk ((Y.rcv p).1.an.length : Int) ((Y.rcv p).1.wn.length : Int) (Y.rcv p).1.tm x
          rw [hT.1, hT.2.1, hT.2.2.1]
          exact hok x hx) hl100
        exact this
      replace h3 : D8 (μ3 A) ((Y.rcv p).1.wqu l) := h3
      dsimp only at hfin ⊢
      generalize Y.rcv p = z at *
      obtain ⟨Z, v⟩ := z
      dsimp only at *
      rcases h01 with h1 | h1
      · subst h1
        refine zo_pos rfl ?_
        refine j_X8_deliverAll_29 ?_
        rw [w32_s (k := k) (by omega), w32_e (by omega)]
        exact ih (k + 1) (c + 0) μ3 ⟨Z, l, h3, hW3, by omega, hfin, hR, FA.tr hfr f3, by omega, by omega⟩ (by omega)
      · subst h1
        refine zo_neg (by decide) ?_
        refine j_X8_deliverAll_29 ?_
        rw [w32_s (k := k) (by omega), w32_e (by omega)]
        exact ih (k + 1) (c + 1) μ3 ⟨Z, l, h3, hW3, by omega, hfin, hR, FA.tr hfr f3, by omega, by omega⟩ (by omega)
  · have e9 : n - k = 0 := by omega
    rw [e9] at hfin hR
    have hf2 : (Y, c) = fin := hfin
    have hR2 : rest = R := hR
    refine zo_neg (by omega) ?_
    exact zo_rt ⟨μ2, by rw [← hf2], by rw [← hf2, ← hR2]; exact h, hfr⟩
theorem b_deliverAll (H : MSh S m A) (h : D8 (μ A) M) (W : WF B M) {n : Nat} (hn : n ≤ 1000) : ∃ μ', f_X8_deliverAll m (n : Int) (S, μ) = some (.inl (M.dlv n).2, (S, μ')) ∧ D8 (μ' A) (M.dlv n).1 ∧ FA A μ μ' := by
  apply zo_ux
  refine j_X8_deliverAll ?_
  exact b_deliver_go (B := B) (μ := μ) (n := n) (R := M.qu.drop n) (fin := zdlv (M.qu.take n) (M, 0)) H hn zFU 0 0 μ ⟨M, M.qu, h, W, by omega, rfl, rfl, FA.rf, by decide, by decide⟩ (by show n - 0 < 1000000; omega)
/-- more than there are -/
theorem dlv_min (M : zD) {n : Nat} (h : M.qu.length ≤ n) : M.dlv n = M.dlv M.qu.length := by
  unfold zD.dlv
  rw [List.take_of_length_le h, List.take_of_length_le (Nat.le_refl _), List.drop_of_length_le h, List.drop_of_length_le (Nat.le_refl _)]
theorem b_doRound (H : MSh S m A) (h : D8 (μ A) M) (W : WF B M) : ∃ μ', f_X8_doRound m (S, μ) = some (.inl M.rnd.2, (S, μ')) ∧ D8 (μ' A) M.rnd.1 ∧ FA A μ μ' := by
  have h6 := h.al
  apply zo_ux
  refine j_X8_doRound ?_
  refine zo_l2 (F := fun n (k : Nat) (μ2 : zM) => f_X8_doRound_2 n m (k : Int) (S, μ2)) (fun k μ2 => k ≤ M.an.length ∧ ∃ M', D8 (μ2 A) M' ∧ WF B M' ∧ SS M M' ∧ zlp (fun a X => X.snd (a : Int) (X.ru 4)) k (M.an.length - k) M' = zlp (fun a X => X.snd (a : Int) (X.ru 4)) 0 M.an.length M ∧ FA A μ μ2) (fun k _ => M.an.length - k) ?_ zFU 0 μ ⟨by omega, M, h, W, SS.rf, rfl, FA.rf⟩ (by show M.an.length - 0 < 1000000; omega)
  rintro n k μ2 ⟨hk, M', h', W', hs, hfin, hfr⟩ ih
  refine j_X8_doRound_2 ?_
  refine zo_ob H.o (by omega) ?_
  refine zo_bn (b_agents H h') ?_
  rw [hs.an]
  by_cases e : k < M.an.length
  · have e9 : M.an.length - k = (M.an.length - (k + 1)) + 1 := by omega
    rw [e9] at hfin
    refine zo_pos (by omega) ?_
    refine zo_ob H.o (by omega) ?_
    obtain ⟨μ3, e3, h3, f3⟩ := b_doRelay H h' (a := (k : Int)) (by omega)
    have hr4 := W'.r4
    obtain ⟨W3, s3⟩ := W'.snd (a := (k : Int)) (hp' := M'.ru 4) (by omega) (by rw [hs.an]; omega)
    refine zo_bn e3 ?_
    rw [w32_s (k := k) (by omega)]
    exact ih (k + 1) μ3 ⟨by omega, _, h3, W3, hs.tr s3, hfin, FA.tr hfr f3⟩ (by omega)
  · have e9 : M.an.length - k = 0 := by omega
    rw [e9] at hfin
    have hf2 : M' = zlp (fun a X => X.snd (a : Int) (X.ru 4)) 0 M.an.length M := hfin
    refine zo_neg (by omega) ?_
    refine j_X8_doRound_22 ?_
    refine zo_ob H.o (by omega) ?_
    obtain ⟨μ3, e3, h3, f3⟩ := b_deliverAll H h' W' (n := 100) (by decide)
    refine zo_bn e3 ?_
    have er : M'.dlv 100 = M.rnd := by
      rw [dlv_min M' h'.ql, hf2]
      rfl
    rw [er] at h3 ⊢
    exact zo_rt ⟨μ3, rfl, h3, FA.tr hfr f3⟩
end C51
