/-! C 50: the model: spreading, delivering, time -/
section C50
variable {S : zG} {μ μ' : zM} {m A B : Int} {M X : zD} {Q : zR × zS → Prop} {g g' : zAr}
theorem b_sends_full (H : MSh S m A) (h : D8 (μ A) M) {a o k : Int} (hq : M.qu.length = 100) : f_X8_sends m a k o (S, μ) = some (.inl 0, (S, μ)) := by
  apply zo_un
  refine j_X8_sends ?_
  refine zo_ob H.o (by omega) ?_
  refine zo_bn (b_queued H h) ?_
  refine zo_pos (by omega) ?_
  exact zo_rt rfl
theorem b_spreads_go {a bu nr : Int} {r : Nat} {p : zP} {fin : zD} {N : Nat} {c0 : Int} (hc00 : 0 ≤ c0) (H : MSh S m A) (ha : 0 ≤ a ∧ a < 6) (hN : N ≤ 6) (T : Int → Int → Int)
    (hb : ∀ o : Nat, o < N → ¬ T a (o : Int) = -1 → ((¬ (o : Int) = bu ∧ ¬ (o : Int) = nr) ↔ (¬ (o : Int) = p 0 ∧ ¬ (o : Int) = p 1))) : ∀ (n : Nat) (k : Nat) (c : Int) (μ2 : zM),
    (∃ M', D8 (μ2 A) M' ∧ M'.T = T ∧ M'.an.length = N ∧ (M'.li a)[r]? = some p ∧ k ≤ N ∧ zlp (zsn1 a p) k (N - k) M' = fin ∧ FA A μ μ2 ∧ c = (M'.qu.length : Int) - c0 ∧ 0 ≤ c) → N - k < n →
    zo (f_X8_spreads_6 n m a (r : Int) bu nr c (k : Int) (S, μ2)) (fun r => ∃ μ', r = (.inl ((fin.qu.length : Int) - c0), (S, μ')) ∧ D8 (μ' A) fin ∧ FA A μ μ') := by
  refine zo_l3 _ (fun k _ _ => N - k) ?_
  rintro n k c μ2 ⟨M', h, hT, hA, hr, hk, hfin, hfr, hc, hc0⟩ ih
  have hql := h.ql
  refine j_X8_spreads_6 ?_
  refine zo_ob H.o (by omega) ?_
  refine zo_bn (b_agents H h) ?_
  by_cases e : k < N
  · have e9 : N - k = (N - (k + 1)) + 1 := by omega
    rw [e9] at hfin
    unfold zlp at hfin
    have next : zsn1 a p k M' = M' → zo (f_X8_spreads_59 (f_X8_spreads_6 n) m a (r : Int) bu nr c (k : Int) (S, μ2)) (fun r => ∃ μ', r = (.inl ((fin.qu.length : Int) - c0), (S, μ')) ∧ D8 (μ' A) fin ∧ FA A μ μ') := by
      intro hs
      rw [hs] at hfin
      refine j_X8_spreads_59 ?_
      rw [w32_s (k := k) (by omega)]
      exact ih (k + 1) c μ2 ⟨M', h, hT, hA, hr, by omega, hfin, hfr, hc, hc0⟩ (by omega)
    refine zo_pos (by omega) ?_
    refine zo_ob H.o (by omega) ?_
    refine zo_bn (b_areLinked H h ha (show 0 ≤ (k : Int) ∧ (k : Int) < 6 by omega)) ?_
    refine zo_zb (fun h0 => next (sn1_neg (fun z => h0 z.1))) (fun h0 => ?_)
    have hb' := hb k e (by rw [← hT]; exact h0)
    refine zo_ite (fun h1 => next (sn1_neg (fun z => (hb'.mpr ⟨z.2.1, z.2.2.1⟩).1 h1))) (fun h1 => ?_)
    refine zo_ite (fun h2 => next (sn1_neg (fun z => (hb'.mpr ⟨z.2.1, z.2.2.1⟩).2 h2))) (fun h2 => ?_)
    have h3 := hb'.mp ⟨h1, h2⟩
    refine zo_ob H.o (by omega) ?_
    by_cases hf : M'.qu.length < 100
    · obtain ⟨μ3, e3, h3', f3⟩ := b_sends H h (o := (k : Int)) ha hr hf
      rw [sn1_pos ⟨h0, h3.1, h3.2, hf⟩] at hfin
      refine zo_bn e3 ?_
      refine zo_neg (by decide) ?_
      refine j_X8_spreads_56 ?_
      refine j_X8_spreads_59 ?_
      have el : (M'.wqu (M'.qu ++ [zmsg p a (k : Int)])).qu.length = M'.qu.length + 1 := List.length_append
      rw [w32_s (k := k) (by omega), w32_e (by omega)]
      exact ih (k + 1) (c + 1) μ3 ⟨_, h3', hT, hA, hr, by omega, hfin, FA.tr hfr f3, by rw [el]; omega, by omega⟩ (by omega)
    · refine zo_bn (b_sends_full H h (by omega)) ?_
      refine zo_pos rfl ?_
      refine j_X8_spreads_56 ?_
      rw [sn1_neg (fun z => hf z.2.2.2)] at hfin
      refine j_X8_spreads_59 ?_
      rw [w32_s (k := k) (by omega), w32_e (by omega)]
      exact ih (k + 1) (c + 0) μ2 ⟨M', h, hT, hA, hr, by omega, hfin, hfr, by omega, by omega⟩ (by omega)
  · have e9 : N - k = 0 := by omega
    rw [e9] at hfin
    unfold zlp at hfin
    refine zo_neg (by omega) ?_
    exact zo_rt ⟨μ2, by rw [← hfin, hc], by rw [← hfin]; exact h, hfr⟩
theorem b_spreads {a bu nr : Int} {r : Nat} {p : zP} (H : MSh S m A) (h : D8 (μ A) M) (ha : 0 ≤ a ∧ a < 6) (hr : (M.li a)[r]? = some p)
    (hb : ∀ o : Nat, o < M.an.length → ¬ M.T a (o : Int) = -1 → ((¬ (o : Int) = bu ∧ ¬ (o : Int) = nr) ↔ (¬ (o : Int) = p 0 ∧ ¬ (o : Int) = p 1))) :
    ∃ μ', f_X8_spreads m a (r : Int) bu nr (S, μ) = some (.inl (((zlp (zsn1 a p) 0 M.an.length M).qu.length : Int) - (M.qu.length : Int)), (S, μ')) ∧ D8 (μ' A) (zlp (zsn1 a p) 0 M.an.length M) ∧ FA A μ μ' := by
  apply zo_ux
  refine j_X8_spreads ?_
  have h6 := h.al
  exact b_spreads_go (μ := μ) (N := M.an.length) (c0 := (M.qu.length : Int)) (by omega) H ha h.al M.T hb zFU 0 0 μ ⟨M, h, rfl, rfl, hr, by omega, rfl, FA.rf, by omega, by decide⟩ (by show M.an.length - 0 < 1000000; omega)
theorem sns_cons (a hp' : Int) (p : zP) (r : List zP) (M : zD) : zsns a hp' (p :: r) M = zsns a hp' r (if p 2 < hp' then zlp (zsn1 a p) 0 M.an.length M else M) := rfl
theorem b_doRelay (H : MSh S m A) (h : D8 (μ A) M) {a : Int} (ha : 0 ≤ a ∧ a < 6) : ∃ μ', f_X8_doRelay m a (S, μ) = some (.inl ((M.snd a (M.ru 4)).qu.length - M.qu.length : Int), (S, μ')) ∧ D8 (μ' A) (M.snd a (M.ru 4)) ∧ FA A μ μ' := by
  have h36 := h.ll a ha.1 ha.2
  apply zo_ux
  refine j_X8_doRelay ?_
  refine zo_l3 (F := fun n (k : Nat) (c : Int) (μ2 : zM) => f_X8_doRelay_4 n m a c (k : Int) (S, μ2)) (fun k c μ2 => k ≤ (M.li a).length ∧ ∃ M', D8 (μ2 A) M' ∧ SS M M' ∧ zsns a (M.ru 4) ((M.li a).drop k) M' = M.snd a (M.ru 4) ∧ FA A μ μ2 ∧ c = (M'.qu.length : Int) - (M.qu.length : Int) ∧ 0 ≤ c) (fun k _ _ => (M.li a).length - k) ?_ zFU 0 0 μ ⟨by omega, M, h, SS.rf, rfl, FA.rf, by omega, by decide⟩ (by show (M.li a).length - 0 < 1000000; omega)
  rintro n k c μ2 ⟨hk, M', h', hs, hfin, hfr, hc, hc0⟩ ih
  have hql := h'.ql
  refine j_X8_doRelay_4 ?_
  refine zo_ob H.o (by omega) ?_
  refine zo_bn (b_manyOf H h' ha) ?_
  rw [hs.li]
  by_cases e : k < (M.li a).length
  · obtain ⟨p, hp, hd, hpm⟩ := drop_cons e
    rw [hd, sns_cons] at hfin
    have hkp : (M'.li a)[k]? = some p := by rw [hs.li]; exact hp
    refine zo_pos (by omega) ?_
    refine zo_ob H.o (by omega) ?_
    refine zo_bn (b_ofR2 H h' ha hkp) ?_
    refine zo_ob H.o (by omega) ?_
    refine zo_bn (b_rule H h' (show 0 ≤ (4 : Int) ∧ (4 : Int) < 5 by decide)) ?_
    rw [hs.ru]
    refine zo_ite (fun h2 => ?_) (fun h2 => ?_)
    · rw [if_pos h2] at hfin
      refine zo_ob H.o (by omega) ?_
      refine zo_bn (b_ofR0 H h' ha hkp) ?_
      refine zo_ob H.o (by omega) ?_
      refine zo_bn (b_ofR1 H h' ha hkp) ?_
      refine zo_ob H.o (by omega) ?_
      obtain ⟨μ3, e3, h3, f3⟩ := b_spreads H h' (bu := p 0) (nr := p 1) ha hkp (fun o _ _ => Iff.rfl)
      refine zo_bn e3 ?_
      refine j_X8_doRelay_53 ?_
      have hs3 := SS.snp a p 0 M'.an.length M'
      have hq3 := hs3.ql
      have hq3' := h3.ql
      rw [w32_s (k := k) (by omega), w32_e (by omega)]
      exact ih (k + 1) _ μ3 ⟨by omega, _, h3, hs.tr hs3, hfin, FA.tr hfr f3, by omega, by omega⟩ (by omega)
    · rw [if_neg h2] at hfin
      refine j_X8_doRelay_53 ?_
      rw [w32_s (k := k) (by omega), w32_e (by omega)]
      exact ih (k + 1) _ μ2 ⟨by omega, M', h', hs, hfin, hfr, by omega, by omega⟩ (by omega)
  · refine zo_neg (by omega) ?_
    have e1 : k = (M.li a).length := by omega
    rw [e1, List.drop_length] at hfin
    have hf2 : M' = M.snd a (M.ru 4) := hfin
    exact zo_rt ⟨μ2, by rw [hc, ← hf2], by rw [← hf2]; exact h', hfr⟩
theorem b_share_go (H : MSh S m A) (h : D8 (μ A) M) (W : WF B M) {a : Int} (ha : 0 ≤ a ∧ a < 6) : zo (f_X8_share_22 zFU m a 0 0 (S, μ)) (fun r => ∃ μ', r = (.inl ((M.snd a 1).qu.length - M.qu.length : Int), (S, μ')) ∧ D8 (μ' A) (M.snd a 1) ∧ FA A μ μ') := by
  have h36 := h.ll a ha.1 ha.2
  refine zo_l3 (F := fun n (k : Nat) (c : Int) (μ2 : zM) => f_X8_share_22 n m a c (k : Int) (S, μ2)) (fun k c μ2 => k ≤ (M.li a).length ∧ ∃ M', D8 (μ2 A) M' ∧ SS M M' ∧ zsns a 1 ((M.li a).drop k) M' = M.snd a 1 ∧ FA A μ μ2 ∧ c = (M'.qu.length : Int) - (M.qu.length : Int) ∧ 0 ≤ c) (fun k _ _ => (M.li a).length - k) ?_ zFU 0 0 μ ⟨by omega, M, h, SS.rf, rfl, FA.rf, by omega, by decide⟩ (by show (M.li a).length - 0 < 1000000; omega)
  rintro n k c μ2 ⟨hk, M', h', hs, hfin, hfr, hc, hc0⟩ ih
  have hql := h'.ql
  refine j_X8_share_22 ?_
  refine zo_ob H.o (by omega) ?_
  refine zo_bn (b_manyOf H h' ha) ?_
  rw [hs.li]
  by_cases e : k < (M.li a).length
  · obtain ⟨p, hp, hd, hpm⟩ := drop_cons e
    rw [hd, sns_cons] at hfin
    have hkp : (M'.li a)[k]? = some p := by rw [hs.li]; exact hp
    have hok := W.li a p hpm
    have hh := hok.h
    have he1 := hok.e1
    have he2 := hok.e2
    refine zo_pos (by omega) ?_
    refine zo_ob H.o (by omega) ?_
    refine zo_bn (b_isOwn H h' ha hkp) ?_
    refine zo_zb (fun h2 => ?_) (fun h2 => ?_)
    · have h3 : ¬ p 2 < 1 := fun z => h2 (he2.mp (by omega))
      rw [if_neg h3] at hfin
      refine j_X8_share_53 ?_
      rw [w32_s (k := k) (by omega), w32_e (by omega)]
      exact ih (k + 1) _ μ2 ⟨by omega, M', h', hs, hfin, hfr, by omega, by omega⟩ (by omega)
    · have h3 : p 2 < 1 := by have := he2.mpr h2; omega
      have h4 := he1.mpr h2
      rw [if_pos h3] at hfin
      refine zo_ob H.o (by omega) ?_
      obtain ⟨μ3, e3, h3, f3⟩ := b_spreads H h' (bu := -1) (nr := -1) ha hkp (fun o _ hT => by
        rw [h2, h4]
        constructor
        · intro _
          have : ¬ (o : Int) = a := by
            intro z
            apply hT
            rw [z, hs.T]
            exact W.Ti a
          exact ⟨this, this⟩
        · intro _
          constructor <;> omega)
      refine zo_bn e3 ?_
      refine j_X8_share_53 ?_
      have hs3 := SS.snp a p 0 M'.an.length M'
      have hq3 := hs3.ql
      have hq3' := h3.ql
      rw [w32_s (k := k) (by omega), w32_e (by omega)]
      exact ih (k + 1) _ μ3 ⟨by omega, _, h3, hs.tr hs3, hfin, FA.tr hfr f3, by omega, by omega⟩ (by omega)
  · refine zo_neg (by omega) ?_
    have e1 : k = (M.li a).length := by omega
    rw [e1, List.drop_length] at hfin
    have hf2 : M' = M.snd a 1 := hfin
    exact zo_rt ⟨μ2, by rw [hc, ← hf2], by rw [← hf2]; exact h', hfr⟩
theorem b_refusalOf (H : MSh S m A) (h : D8 (μ A) M) (W : WF B M) {k : Nat} {p : zP} (hk : M.qu[k]? = some p) : f_X8_refusalOf m (k : Int) (S, μ) = some (.inl (M.ref p), (S, μ)) := by
  have hm := W.qu p (List.mem_of_getElem? hk)
  have h60 := h.al
  have hg := hm.g
  have hv := hm.v
  apply zo_un
  refine j_X8_refusalOf ?_
  refine zo_ob H.o (by omega) ?_
  refine zo_bn (b_ofM7 H h hk) ?_
  refine zo_ob H.o (by omega) ?_
  refine zo_bn (b_ofM1 H h hk) ?_
  refine zo_ob H.o (by omega) ?_
  refine zo_bn (b_areLinked H h (show 0 ≤ p 1 ∧ p 1 < 6 by omega) (show 0 ≤ p 7 ∧ p 7 < 6 by omega)) ?_
  refine zo_zb (fun h0 => ?_) (fun h0 => ?_)
  · have h1 : M.T (p 7) (p 1) = -1 := W.Ts _ _ (by omega)
    have er : M.ref p = 1 := if_pos h1
    exact zo_rt (by rw [er])
  · have h1 : ¬ M.T (p 7) (p 1) = -1 := fun z => h0 (W.Ts _ _ z)
    have er : M.ref p = if M.ru 3 < w32 (M.tm - p 4) then 2 else match (M.li (p 7)).find? (zqb (p 0) (p 3)) with
      | none => 0
      | some q => if p 4 < q 4 ∨ q 4 = p 4 ∧ q 2 ≤ p 2 then 3 else 0 := if_neg h1
    rw [er]
    refine zo_ob H.o (by omega) ?_
    refine zo_bn (b_ofM4 H h hk) ?_
    refine zo_ob H.o (by omega) ?_
    refine zo_bn (b_ageAt H h) ?_
    refine zo_ob H.o (by omega) ?_
    refine zo_bn (b_rule H h (show 0 ≤ (3 : Int) ∧ (3 : Int) < 5 by decide)) ?_
    refine zo_ite (fun h2 => zo_rt (by rw [if_pos h2])) (fun h2 => ?_)
    have er2 : (if M.ru 3 < w32 (M.tm - p 4) then (2 : Int) else match (M.li (p 7)).find? (zqb (p 0) (p 3)) with
      | none => 0
      | some q => if p 4 < q 4 ∨ q 4 = p 4 ∧ q 2 ≤ p 2 then 3 else 0) = match (M.li (p 7)).find? (zqb (p 0) (p 3)) with
      | none => 0
      | some q => if p 4 < q 4 ∨ q 4 = p 4 ∧ q 2 ≤ p 2 then 3 else 0 := if_neg h2
    rw [er2]
    refine zo_ob H.o (by omega) ?_
    refine zo_bn (b_ofM0 H h hk) ?_
    refine zo_ob H.o (by omega) ?_
    refine zo_bn (b_ofM3 H h hk) ?_
    refine zo_ob H.o (by omega) ?_
    have hg6 : 0 ≤ p 7 ∧ p 7 < 6 := by omega
    refine zo_bn (b_reportOf H h hg6) ?_
    rcases zfi_cs (p 0) (p 3) (M.li (p 7)) with ⟨e1, e2, e3⟩ | ⟨j, q, e1, e2, e3, e4, e5⟩
    · rw [e2]
      exact zo_pos e1 (zo_rt rfl)
    · rw [e3, e1]
      dsimp only
      refine zo_neg (by omega) ?_
      refine zo_ob H.o (by omega) ?_
      refine zo_bn (b_ofR4 H h hg6 e2) ?_
      refine zo_ob H.o (by omega) ?_
      refine zo_bn (b_ofM4 H h hk) ?_
      refine zo_ite (fun h3 => zo_rt (by rw [if_pos (Or.inl h3)])) (fun h3 => ?_)
      refine zo_ob H.o (by omega) ?_
      refine zo_bn (b_ofM4 H h hk) ?_
      refine zo_ite (fun h4 => ?_) (fun h4 => zo_rt (by rw [if_neg (by omega)]))
      refine zo_ob H.o (by omega) ?_
      refine zo_bn (b_ofR2 H h hg6 e2) ?_
      refine zo_ob H.o (by omega) ?_
      refine zo_bn (b_ofM2 H h hk) ?_
      refine zo_ite (fun h5 => zo_rt (by rw [if_neg (by omega)])) (fun h5 => zo_rt (by rw [if_pos (by omega)]))
theorem QR8.tail {p : zP} {l : List zP} (h : QR8 g (p :: l)) (hc : g' 8 = (l.length : Int)) (hv : ∀ j, 1605 ≤ j → j < 1605 + 8 * (l.length : Int) → g' j = g (j + 8)) : QR8 g' l := by
  refine ⟨hc, ?_⟩
  intro k q hk c hc8
  have hl := (List.getElem?_eq_some_iff.mp hk).1
  have := h.2 (k + 1) q hk c hc8
  rw [hv _ (by omega) (by omega), ← this]
  congr 1
  omega
theorem b_dropFirst (H : MSh S m A) (h : D8 (μ A) M) {p : zP} {l : List zP} (hq : M.qu = p :: l) : ∃ μ', f_X8_dropFirst m (S, μ) = some (.inl 0, (S, μ')) ∧ D8 (μ' A) (M.wqu l) ∧ FA A μ μ' := by
  have hql := h.ql
  have hqu := h.qu
  rw [hq] at hql hqu
  rw [List.length_cons] at hql
  have hq1 := hqu.1
  rw [List.length_cons] at hq1
  apply zo_ux
  refine j_X8_dropFirst ?_
  refine zo_gr H.o H.r3 (by omega) (by omega) ?_
  refine zo_ld H.A (by omega) hq1 ?_
  refine zo_si H.A (by omega) ?_
  refine zo_bn (b_messageAt (by omega)) ?_
  have ew : w32 (((l.length + 1 : Nat) : Int) - 1) = (l.length : Int) := by rw [w32_e (by omega)]; omega
  rw [ew, show (1605 : Int) + 8 * 0 = 1605 + ((0 : Nat) : Int) from rfl]
  refine zo_l2 (F := fun n (j : Nat) (μ2 : zM) => f_X8_dropFirst_16 n m (1605 + (j : Int)) (S, μ2)) (fun j μ2 => (j : Int) ≤ 8 * (l.length : Int) ∧ μ2 A 8 = (l.length : Int) ∧ (∀ i, 1605 ≤ i → i < 1605 + (j : Int) → μ2 A i = μ A (i + 8)) ∧ (∀ i, i ≠ 8 → ¬ (1605 ≤ i ∧ i < 1605 + (j : Int)) → μ2 A i = μ A i) ∧ FA A μ μ2) (fun j _ => 800 - j) ?_ zFU 0 _ ⟨by show (0 : Int) ≤ _; omega, zup_at, fun i h1 h2 => absurd h2 (by show ¬ i < 1605 + 0; omega), fun i h1 _ => zup_j h1, FA.up⟩ (by show 800 - 0 < 1000000; decide)
  rintro n j μ2 ⟨hj, hc, hv, hf, hA⟩ ih
  refine j_X8_dropFirst_16 ?_
  refine zo_ob H.o (by omega) ?_
  have em : f_X8_queued m (S, μ2) = some (.inl (l.length : Int), (S, μ2)) := by
    apply zo_un
    refine j_X8_queued ?_
    refine zo_gr H.o H.r3 (by omega) (by omega) ?_
    refine zo_ld H.A (by omega) hc ?_
    exact zo_rt rfl
  refine zo_bn em ?_
  refine zo_bn (b_messageAt (by omega)) ?_
  by_cases e : (j : Int) < 8 * (l.length : Int)
  · refine zo_pos (by omega) ?_
    refine zo_gr H.o H.r3 (by omega) (by omega) ?_
    refine zo_gr H.o H.r3 (by omega) (by omega) ?_
    have e7 : w32 (1605 + (j : Int) + 8) = 1605 + (j : Int) + 8 := w32_e (by omega)
    have e1 : w32 (1605 + (j : Int) + 1) = 1605 + ((j + 1 : Nat) : Int) := by rw [w32_e (by omega)]; omega
    rw [e7, e1]
    refine zo_ld H.A (by omega) (hf _ (by omega) (by omega)) ?_
    refine zo_si H.A (by omega) ?_
    refine ih (j + 1) _ ⟨by omega, by rw [zup_j (by omega)]; exact hc, ?_, ?_, FA.tr hA FA.up⟩ (by omega)
    · intro i h1 h2
      by_cases ei : i = 1605 + (j : Int)
      · rw [ei, zup_at]
      · rw [zup_j ei]
        exact hv i h1 (by omega)
    · intro i h1 h2
      rw [zup_j (by omega)]
      exact hf i h1 (by omega)
  · refine zo_neg (by omega) ?_
    refine zo_rt ⟨μ2, rfl, h.setQu (by omega) (hqu.tail hc (fun i h1 h2 => hv i h1 (by omega))) (fun i h1 h2 h3 => hf i h3 (by omega)), hA⟩
theorem jud_qu (X : zD) (q : List zP) (a : Int) (p r : zP) : (X.wqu q).jud a p r = ((X.jud a p r).1.wqu q, (X.jud a p r).2) := by
  by_cases h : X.T a (p 1) = -1
  · rw [jud_pos h, jud_pos (M := X.wqu q) h]
  · rw [jud_neg h, jud_neg (M := X.wqu q) h]
    rfl
theorem rcv_qu (X : zD) (q : List zP) (p : zP) : (X.wqu q).rcv p = ((X.rcv p).1.wqu q, (X.rcv p).2) := by
  by_cases h : X.ref p = 0
  · rw [rcv_pos h, rcv_pos (M := X.wqu q) h]
    have e : (((X.wqu q).tal (p 7) 1).come (p 7) (zcut p)) = ((X.tal (p 7) 1).come (p 7) (zcut p)).wqu q := rfl
    rw [e]
    have e2 : (((X.tal (p 7) 1).come (p 7) (zcut p)).wqu q).li = ((X.tal (p 7) 1).come (p 7) (zcut p)).li := rfl
    rw [e2]
    cases (((X.tal (p 7) 1).come (p 7) (zcut p)).li (p 7)).find? (zqb (p 7) (p 3)) with
    | none => rfl
    | some r =>
      dsimp only
      rw [jud_qu]
  · rw [rcv_neg h, rcv_neg (M := X.wqu q) h]
    rfl
end C50
