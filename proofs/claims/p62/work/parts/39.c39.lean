/-! C 39: sending, delivering, rounds, time -/
theorem c8 {P : Nat → Prop} (h0 : P 0) (h1 : P 1) (h2 : P 2) (h3 : P 3) (h4 : P 4) (h5 : P 5) (h6 : P 6) (h7 : P 7) : ∀ c, c < 8 → P c := by
  intro c hc
  by_cases e : c < 7
  · exact c7 (P := P) h0 h1 h2 h3 h4 h5 h6 c e
  · have : c = 7 := by omega
    rw [this]
    exact h7
def zpC (p : zP) (c : Nat) (v : Int) : zP := fun x => if x = c then v else p x
section C39
variable {S : zG} {μ μ' μ1 : zM} {d B : Int} {M : zD} {Q : zR × zS → Prop}
theorem c_putLast {a n v : Int} {l : List zP} {p : zP} {c : Nat} {w : Nat} (A : RSh S a n) (h : LRp w μ a (l ++ [p])) (hn : 8 * ((l.length : Int) + 1) ≤ n) (hn2 : n ≤ 800) (hw : w ≤ 8) (hc : c < w) : ∃ μ', f_X5_put a (l.length : Int) (c : Int) v (S, μ) = some (.inl 0, (S, μ')) ∧ LRp w μ' a (l ++ [zpC p c v]) ∧ ∀ x, x ≠ a → x ≠ a + 1 → μ' x = μ x := by
  have h1 := h.1
  rw [List.length_append, List.length_singleton] at h1
  refine ⟨_, c_X5_put A (by omega) (by omega) (by omega) hn2, ⟨?_, ?_⟩, fun x hx hy => zup_c hy⟩
  · rw [zup_b (by omega), h1, List.length_append]
    rfl
  · intro k q hk x hx
    by_cases e : k < l.length
    · rw [List.getElem?_append_left e] at hk
      rw [zup_j (by omega)]
      exact h.2 k q (by rw [List.getElem?_append_left e]; exact hk) x hx
    · have e9 : k = l.length := by
        have := (List.getElem?_eq_some_iff.mp hk).1
        rw [List.length_append, List.length_singleton] at this
        omega
      subst e9
      rw [List.getElem?_append_right (Nat.le_refl _), Nat.sub_self] at hk
      have e8 : zpC p c v = q := Option.some.inj hk
      rw [← e8]
      unfold zpC
      by_cases ex : x = c
      · rw [if_pos ex, ex, zup_at]
      · rw [if_neg ex, zup_j (by omega)]
        exact h.2 l.length p (by rw [List.getElem?_append_right (Nat.le_refl _), Nat.sub_self]; rfl) x hx
theorem sn1_pos {a : Int} {p : zP} {o : Nat} (h : ¬ M.T a (o : Int) = -1 ∧ ¬ (o : Int) = p 0 ∧ ¬ (o : Int) = p 1 ∧ M.qu.length < 100) : zsn1 a p o M = M.wqu (M.qu ++ [zmsg p a (o : Int)]) := if_pos h
theorem sn1_neg {a : Int} {p : zP} {o : Nat} (h : ¬ (¬ M.T a (o : Int) = -1 ∧ ¬ (o : Int) = p 0 ∧ ¬ (o : Int) = p 1 ∧ M.qu.length < 100)) : zsn1 a p o M = M := if_neg h
set_option maxHeartbeats 2000000 in
theorem d_send_go {a : Int} {r : Nat} {p : zP} {fin : zD} {N : Nat} (ha : 0 ≤ a ∧ a < 6) (hN : N ≤ 6) : ∀ (m : Nat) (k : Nat) (μ2 : zM),
    (∃ M', D7 S μ2 d M' ∧ M'.an.length = N ∧ (M'.li a)[r]? = some p ∧ k ≤ N ∧ zlp (zsn1 a p) k (N - k) M' = fin ∧ FR d μ μ2) → N - k < m →
    zo (f_X1_sendReport_3 m d a (d + 13 + 2 * a) (r : Int) (k : Int) (S, μ2)) (fun r => ∃ μ', r = (.inl 0, (S, μ')) ∧ D7 S μ' d fin ∧ FR d μ μ') := by
  refine zo_l2 _ (fun k _ => N - k) ?_
  rintro m k μ2 ⟨M', h, hA, hr, hk, hfin, hfr⟩ ih
  have D := h.sh
  have L := D.ls a ha.1 ha.2
  have hql := h.ql
  have hll := h.ll a ha.1 ha.2
  refine j_X1_sendReport_3 ?_
  refine zo_gr D.o D.r1 (by omega) (by omega) ?_
  refine zo_gf D.ag.o h.an0 (by omega) (by omega) ?_
  by_cases e : k < N
  · refine zo_pos (by omega) ?_
    have e9 : N - k = (N - (k + 1)) + 1 := by omega
    rw [e9] at hfin
    unfold zlp at hfin
    have next : zsn1 a p k M' = M' → zo (f_X1_sendReport_122 (f_X1_sendReport_3 m) d a (d + 13 + 2 * a) (r : Int) (k : Int) (S, μ2)) (fun r => ∃ μ', r = (.inl 0, (S, μ')) ∧ D7 S μ' d fin ∧ FR d μ μ') := by
      intro hs
      refine j_X1_sendReport_122 ?_
      rw [w32_s (k := k) (by omega)]
      rw [hs] at hfin
      exact ih (k + 1) μ2 ⟨M', h, hA, hr, by omega, hfin, hfr⟩ (by omega)
    have skip : ∀ s0 : Int, (s0 = 1 → zsn1 a p k M' = M') → (s0 = 0 → ¬ (k : Int) = p 0 ∧ ¬ (k : Int) = p 1) → (s0 = 0 ∨ s0 = 1) → zo (f_X1_sendReport_42 (f_X1_sendReport_3 m) d a (d + 13 + 2 * a) (r : Int) (k : Int) s0 (S, μ2)) (fun r => ∃ μ', r = (.inl 0, (S, μ')) ∧ D7 S μ' d fin ∧ FR d μ μ') := by
      intro s0 hs1 hs0 h01
      refine j_X1_sendReport_42 ?_
      refine zo_ob D.o (by omega) ?_
      refine zo_bn (d_isLinked h ha (show 0 ≤ (k : Int) ∧ (k : Int) < 6 by omega)) ?_
      refine zo_zb (fun h0 => next (sn1_neg (fun z => h0 z.1))) (fun h0 => ?_)
      rcases h01 with h1 | h1
      · refine zo_pos h1 ?_
        have h2 := hs0 h1
        refine zo_gr D.o D.r6 (by omega) (by omega) ?_
        refine zo_ob D.qu.o (by omega) ?_
        by_cases hf : M'.qu.length < 100
        · have ef : f_X5_isFull (d + 10) (S, μ2) = some (.inl 0, (S, μ2)) := by rw [c_isFull D.qu h.qu (by omega) (by decide), if_neg (by omega)]
          refine zo_bn ef ?_
          refine zo_pos rfl ?_
          refine zo_gr D.o D.r6 (by omega) (by omega) ?_
          refine zo_ob D.qu.o (by omega) ?_
          obtain ⟨μ3, p', e3, hl3, hp3, f3⟩ := c_addCopy D.qu L (by omega) h.qu (h.li a ha.1 ha.2) (by omega) (by omega) (by decide) (by decide) (by decide) hr
          refine zo_bn e3 ?_
          refine zo_gr D.o D.r6 (by omega) (by omega) ?_
          refine zo_ob D.qu.o (by omega) ?_
          obtain ⟨μ4, e4, hl4, f4⟩ := c_putLast (c := 1) (v := a) D.qu hl3 (by omega) (by decide) (by decide) (by decide)
          refine zo_bn e4 ?_
          refine zo_gr D.o D.r6 (by omega) (by omega) ?_
          refine zo_ob L.o (by omega) ?_
          have hLi : LRp 7 μ4 (d + 13 + 2 * a) (M'.li a) := (h.li a ha.1 ha.2).frame (fun j => by rw [f4 _ (by omega) (by omega), f3 _ (by omega) (by omega)]) (fun j => by rw [f4 _ (by omega) (by omega), f3 _ (by omega) (by omega)])
          refine zo_bn (c_get2 L hLi (by omega) (by decide) (by decide) hr (by decide)) ?_
          refine zo_ob D.qu.o (by omega) ?_
          obtain ⟨μ5, e5, hl5, f5⟩ := c_putLast (c := 2) (v := w32 (p 2 + 1)) D.qu hl4 (by omega) (by decide) (by decide) (by decide)
          refine zo_bn e5 ?_
          refine zo_gr D.o D.r6 (by omega) (by omega) ?_
          refine zo_ob D.qu.o (by omega) ?_
          obtain ⟨μ6, e6, hl6, f6⟩ := c_putLast (c := 7) (v := (k : Int)) D.qu hl5 (by omega) (by decide) (by decide) (by decide)
          refine zo_bn e6 ?_
          have hl7 := hl6.cong (q := zmsg p a (k : Int)) (c8 (hp3 0 (by decide)).symm rfl rfl (hp3 3 (by decide)).symm (hp3 4 (by decide)).symm (hp3 5 (by decide)).symm (hp3 6 (by decide)).symm rfl)
          have hff : ∀ x, x ≠ d + 10 → x ≠ d + 10 + 1 → μ6 x = μ2 x := fun x hx hy => (((f6 x hx hy).trans (f5 x hx hy)).trans (f4 x hx hy)).trans (f3 x hx hy)
          have h7 := h.setQu (μ' := μ6) (l := M'.qu ++ [zmsg p a (k : Int)]) (by rw [List.length_append]; exact hf) hl7 hff
          rw [sn1_pos ⟨h0, h2.1, h2.2, hf⟩] at hfin
          refine j_X1_sendReport_122 ?_
          rw [w32_s (k := k) (by omega)]
          exact ih (k + 1) μ6 ⟨_, h7, hA, hr, by omega, hfin, FR.tr hfr (fun x hx => hff x (by omega) (by omega))⟩ (by omega)
        · have ef : f_X5_isFull (d + 10) (S, μ2) = some (.inl 1, (S, μ2)) := by rw [c_isFull D.qu h.qu (by omega) (by decide), if_pos (by omega)]
          refine zo_bn ef ?_
          refine zo_neg (by decide) ?_
          exact next (sn1_neg (fun z => hf z.2.2.2))
      · refine zo_neg (by omega) ?_
        exact next (hs1 h1)
    refine zo_ob L.o (by omega) ?_
    refine zo_bn (d_get0 h ha hr) ?_
    refine zo_ite (fun h0 => ?_) (fun h0 => ?_)
    · refine j_X1_sendReport_37 ?_
      exact skip 1 (fun _ => sn1_neg (fun z => z.2.1 h0)) (fun z => absurd z (by decide)) (Or.inr rfl)
    · refine zo_ob L.o (by omega) ?_
      refine zo_bn (d_get1 h ha hr) ?_
      refine zo_ite (fun h1 => ?_) (fun h1 => ?_)
      · refine j_X1_sendReport_37 ?_
        exact skip 1 (fun _ => sn1_neg (fun z => z.2.2.1 h1)) (fun z => absurd z (by decide)) (Or.inr rfl)
      · exact skip 0 (fun z => absurd z (by decide)) (fun _ => ⟨h0, h1⟩) (Or.inl rfl)
  · have e9 : N - k = 0 := by omega
    rw [e9] at hfin
    unfold zlp at hfin
    refine zo_neg (by omega) ?_
    exact zo_rt ⟨μ2, rfl, by rw [← hfin]; exact h, hfr⟩
theorem d_sendReport (h : D7 S μ d M) {a : Int} {r : Nat} {p : zP} (ha : 0 ≤ a ∧ a < 6) (hr : (M.li a)[r]? = some p) : ∃ μ', f_X1_sendReport d a (d + 13 + 2 * a) (r : Int) (S, μ) = some (.inl 0, (S, μ')) ∧ D7 S μ' d (zlp (zsn1 a p) 0 M.an.length M) ∧ FR d μ μ' := by
  apply zo_ux
  refine j_X1_sendReport ?_
  have h6 := h.al
  exact d_send_go (μ := μ) (N := M.an.length) ha h.al zFU 0 μ ⟨M, h, rfl, hr, by omega, rfl, FR.rf⟩ (by show M.an.length - 0 < 1000000; omega)
theorem SS.snp (a : Int) (p : zP) (k n : Nat) (M : zD) : SS M (zlp (zsn1 a p) k n M) :=
  zlp_inv (P := fun X => SS M X) (N := k + n) (fun j X _ hX => hX.tr (SS.sn1 a p j X)) n k M (Nat.le_refl _) SS.rf
theorem SS.sns (a hp' : Int) : ∀ (l : List zP) (M : zD), SS M (zsns a hp' l M) := by
  intro l
  induction l with
  | nil => intro M; exact SS.rf
  | cons p r ih =>
    intro M
    unfold zsns
    split
    · exact (SS.snp a p 0 M.an.length M).tr (ih _)
    · exact ih M
theorem d_sends_go {a hp' c0 : Int} {l : List zP} {fin : zD} (ha : 0 ≤ a ∧ a < 6) (hl : l.length ≤ 36) : ∀ (m : Nat) (k : Nat) (μ2 : zM),
    (∃ M', D7 S μ2 d M' ∧ M'.li a = l ∧ k ≤ l.length ∧ zsns a hp' (l.drop k) M' = fin ∧ FR d μ μ2) → l.length - k < m →
    zo (f_X1_sendReports_18 m d a hp' (d + 13 + 2 * a) c0 (k : Int) (S, μ2)) (fun r => ∃ μ', r = (.inl (w32 ((fin.qu.length : Int) - c0)), (S, μ')) ∧ D7 S μ' d fin ∧ FR d μ μ') := by
  refine zo_l2 _ (fun k _ => l.length - k) ?_
  rintro m k μ2 ⟨M', h, hli, hk, hfin, hfr⟩ ih
  have D := h.sh
  have L := D.ls a ha.1 ha.2
  refine j_X1_sendReports_18 ?_
  refine zo_gf L.o (h.li a ha.1 ha.2).1 (by omega) (by omega) ?_
  rw [hli]
  by_cases e : k < l.length
  · refine zo_pos (by omega) ?_
    obtain ⟨p, hp, hd, hpm⟩ := drop_cons e
    rw [hd] at hfin
    unfold zsns at hfin
    have hkp : (M'.li a)[k]? = some p := by rw [hli]; exact hp
    refine zo_ob L.o (by omega) ?_
    refine zo_bn (d_get2 h ha hkp) ?_
    refine zo_ite (fun h2 => ?_) (fun h2 => ?_)
    · rw [if_pos h2] at hfin
      refine zo_ob D.o (by omega) ?_
      obtain ⟨μ3, e3, h3, f3⟩ := d_sendReport h ha hkp
      refine zo_bn e3 ?_
      refine j_X1_sendReports_46 ?_
      rw [w32_s (k := k) (by omega)]
      exact ih (k + 1) μ3 ⟨_, h3, by rw [(SS.snp a p 0 M'.an.length M').li]; exact hli, by omega, hfin, FR.tr hfr f3⟩ (by omega)
    · rw [if_neg h2] at hfin
      refine j_X1_sendReports_46 ?_
      rw [w32_s (k := k) (by omega)]
      exact ih (k + 1) μ2 ⟨M', h, hli, by omega, hfin, hfr⟩ (by omega)
  · refine zo_neg (by omega) ?_
    have e1 : k = l.length := by omega
    rw [e1, List.drop_length] at hfin
    unfold zsns at hfin
    refine j_X1_sendReports_52 ?_
    refine zo_gr D.o D.r6 (by omega) (by omega) ?_
    refine zo_gf D.qu.o h.qu.1 (by omega) (by omega) ?_
    exact zo_rt ⟨μ2, by rw [← hfin], by rw [← hfin]; exact h, hfr⟩
theorem d_sendReports (h : D7 S μ d M) {a hp' : Int} (ha : 0 ≤ a ∧ a < 6) : ∃ μ', f_X1_sendReports d a hp' (S, μ) = some (.inl ((M.snd a hp').qu.length - M.qu.length : Int), (S, μ')) ∧ D7 S μ' d (M.snd a hp') ∧ FR d μ μ' := by
  have D := h.sh
  have hll := h.ll a ha.1 ha.2
  have hs : M.qu.length ≤ (M.snd a hp').qu.length := (SS.sns a hp' (M.li a) M).ql
  apply zo_ux
  refine j_X1_sendReports ?_
  refine zo_ob D.o (by omega) ?_
  refine zo_bn (d_listOf h ha) ?_
  refine zo_gr D.o D.r6 (by omega) (by omega) ?_
  refine zo_gf D.qu.o h.qu.1 (by omega) (by omega) ?_
  refine zo_mono (d_sends_go (μ := μ) (c0 := (M.qu.length : Int)) (hp' := hp') (fin := M.snd a hp') (l := M.li a) ha hll zFU 0 μ ⟨M, h, rfl, by omega, rfl, FR.rf⟩ (by show (M.li a).length - 0 < 1000000; omega)) ?_
  rintro r ⟨μ', er, h1, f1⟩
  have hq1 := h1.ql
  have ew : w32 (((M.snd a hp').qu.length : Int) - (M.qu.length : Int)) = ((M.snd a hp').qu.length : Int) - (M.qu.length : Int) := w32_e (by omega)
  rw [ew] at er
  exact ⟨μ', er, h1, f1⟩
end C39
