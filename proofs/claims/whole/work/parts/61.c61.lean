/-! C 61: operations: what they share -/
theorem zbl_nz {p : Prop} (h : p) : ¬ zbl p = 0 := by rw [zbl_p h]; decide
section C61
variable {S : zG} {μ μ' μ1 : zM} {x m B A : Int} {M : zD} {L : List zD} {K : zKs} {inp out : List Int} {c p : Int} {P : zG → zM → Prop} {Q : zR × zS → Prop}
theorem op_q {f7 f8 : zS → zFn} {tb : List (Nat × Int)} {v : Int} (h : Wd B x S μ M L K inp out c p) (e7 : ∃ μ', f7 (S, μ) = some (.inl v, (S, μ')) ∧ FV (x + 5) μ μ') (hv : zI v)
    (e8 : ∀ S1 μ2, W8 S1 μ2 (x + 66) M L K inp out c p → ∃ μ3, f8 (S1, μ2) = some (.inl v, (S1, μ3)) ∧ (FM (x + 66) μ2 μ3 ∧ μ3 (x + 66) 0 = 0)) (hP : ∀ S1 μ3, Wd B x S1 μ3 M L K inp out c p → P S1 μ3) : zOp x P f7 f8 tb S μ := by
  obtain ⟨μ1, e1, f1⟩ := e7
  refine op_val h e1 hv (h.a.keep (fun y hy => f1 y (by omega))) (FX.mem (fun y h1 h2 => f1 y (by omega))) h.w ?_ (fun μ3 h3 => hP S μ3 h3)
  intro μ2 h2
  obtain ⟨μ3, e3, f3, t3⟩ := e8 S μ2 h2
  exact ⟨μ3, e3, f3.w8 h2, t3, fun y hy => f3.far y (by omega)⟩
theorem op_t {f7 f8 : zS → zFn} {tb : List (Nat × Int)} (e : Nat) (k : Int) (h : Wd B x S μ M L K inp out c p) (e7 : f7 (S, μ) = some (.inr e, (S, μ))) (ht : (e, k) ∈ tb) (hk : ¬ k = 0)
    (e8 : ∀ S1 μ2, W8 S1 μ2 (x + 66) M L K inp out c p → ∃ b μ3, f8 (S1, μ2) = some (.inl b, (S1, μ3)) ∧ (FM (x + 66) μ2 μ3 ∧ μ3 (x + 66) 0 = k)) (hP : ∀ S1 μ3, Wd B x S1 μ3 M L K inp out c p → P S1 μ3) : zOp x P f7 f8 tb S μ := by
  refine op_thr h e7 ht hk h.w ?_ hP
  intro S1 h2
  obtain ⟨b, μ3, e3, f3, t3⟩ := e8 S1 μ h2
  exact ⟨b, μ3, e3, f3.w8 h2, t3, fun y hy => f3.far y (by omega)⟩
/-- a run that ends -/
theorem zo_xq {A : zFn} {v : Int} {R : zM → Prop} (h : zo A (fun r => ∃ μ', r = (.inl v, (S, μ')) ∧ R μ')) : ∃ μ', A = some (.inl v, (S, μ')) ∧ R μ' := zo_ux h
theorem zo_xt {A : zFn} {R : zM → Prop} (h : zo A (fun r => ∃ b μ', r = (.inl b, (S, μ')) ∧ R μ')) : ∃ b μ', A = some (.inl b, (S, μ')) ∧ R μ' := by
  obtain ⟨r, e, b, μ', hr, hR⟩ := h
  exact ⟨b, μ', by rw [e, hr], hR⟩
theorem m_p1 {t : Int} {F : zS → zFn} (H : MSh S m A) (ht : ¬ t = 0) (q : zo (F (S, zup μ m 0 0)) Q) : zo (zob 8 m (S, μ) (zbn (f_X8_passes m t (S, μ)) fun x τ => if x = 0 then some (.inl 0, τ) else F τ)) Q := by
  refine zo_ob H.o (by omega) ?_
  refine zo_bn (b_passes H) ?_
  rw [if_neg ht]
  exact zo_neg (zbl_nz ht) q
theorem m_f1 {t : Int} {F : zS → zFn} (H : MSh S m A) (ht : t = 0) (q : Q (.inl 0, (S, zup μ m 0 1))) : zo (zob 8 m (S, μ) (zbn (f_X8_passes m t (S, μ)) fun x τ => if x = 0 then some (.inl 0, τ) else F τ)) Q := by
  refine zo_ob H.o (by omega) ?_
  refine zo_bn (b_passes H) ?_
  rw [if_pos ht]
  exact zo_pos (zbl_n (fun z => z ht)) (zo_rt q)
theorem m_p2 {t1 t2 : Int} {F : zS → zFn} (H : MSh S m A) (h1 : ¬ t1 = 0) (h2 : ¬ t2 = 0) (q : zo (F (S, zup μ m 0 0)) Q) : zo (zob 8 m (S, μ) (zbn (f_X8_passes2 m t1 t2 (S, μ)) fun x τ => if x = 0 then some (.inl 0, τ) else F τ)) Q := by
  refine zo_ob H.o (by omega) ?_
  refine zo_bn (b_passes2 H) ?_
  rw [if_neg h1, if_neg h2]
  exact zo_neg (zbl_nz ⟨h1, h2⟩) q
theorem m_f2a {t1 t2 : Int} {F : zS → zFn} (H : MSh S m A) (h1 : t1 = 0) (q : Q (.inl 0, (S, zup μ m 0 1))) : zo (zob 8 m (S, μ) (zbn (f_X8_passes2 m t1 t2 (S, μ)) fun x τ => if x = 0 then some (.inl 0, τ) else F τ)) Q := by
  refine zo_ob H.o (by omega) ?_
  refine zo_bn (b_passes2 H) ?_
  rw [if_pos h1]
  exact zo_pos (zbl_n (fun z => z.1 h1)) (zo_rt q)
theorem m_f2b {t1 t2 : Int} {F : zS → zFn} (H : MSh S m A) (h1 : ¬ t1 = 0) (h2 : t2 = 0) (q : Q (.inl 0, (S, zup μ m 0 2))) : zo (zob 8 m (S, μ) (zbn (f_X8_passes2 m t1 t2 (S, μ)) fun x τ => if x = 0 then some (.inl 0, τ) else F τ)) Q := by
  refine zo_ob H.o (by omega) ?_
  refine zo_bn (b_passes2 H) ?_
  rw [if_neg h1, if_pos h2]
  exact zo_pos (zbl_n (fun z => z.2 h2)) (zo_rt q)
theorem b_areAgents (H : MSh S m A) (h : D8 (μ A) M) {a o : Int} : f_X8_areAgents m a o (S, μ) = some (.inl (zbl ((0 ≤ a ∧ a < (M.an.length : Int)) ∧ (0 ≤ o ∧ o < (M.an.length : Int)))), (S, μ)) := by
  apply zo_un
  refine j_X8_areAgents ?_
  refine zo_ob H.o (by omega) ?_
  refine zo_bn (b_isAgent H h) ?_
  refine zo_zb (fun e => zo_rt (by rw [zbl_n (fun z => e z.1)])) (fun e => ?_)
  refine zo_ob H.o (by omega) ?_
  refine zo_bn (b_isAgent H h) ?_
  refine zo_zb (fun f => zo_rt (by rw [zbl_n (fun z => f z.2)])) (fun f => zo_rt (by rw [zbl_p ⟨e, f⟩]))
theorem b_areThere (H : MSh S m A) (h : D8 (μ A) M) {a w : Int} : f_X8_areThere m a w (S, μ) = some (.inl (zbl ((0 ≤ a ∧ a < (M.an.length : Int)) ∧ (0 ≤ w ∧ w < (M.wn.length : Int)))), (S, μ)) := by
  apply zo_un
  refine j_X8_areThere ?_
  refine zo_ob H.o (by omega) ?_
  refine zo_bn (b_isAgent H h) ?_
  refine zo_zb (fun e => zo_rt (by rw [zbl_n (fun z => e z.1)])) (fun e => ?_)
  refine zo_ob H.o (by omega) ?_
  refine zo_bn (b_isWay H h) ?_
  refine zo_zb (fun f => zo_rt (by rw [zbl_n (fun z => f z.2)])) (fun f => zo_rt (by rw [zbl_p ⟨e, f⟩]))
theorem b_isReport (H : MSh S m A) (h : D8 (μ A) M) {a i : Int} : f_X8_isReport m a i (S, μ) = some (.inl (zbl ((0 ≤ a ∧ a < (M.an.length : Int)) ∧ (0 ≤ i ∧ i < ((M.li a).length : Int)))), (S, μ)) := by
  have h6 := h.al
  apply zo_un
  refine j_X8_isReport ?_
  refine zo_ob H.o (by omega) ?_
  refine zo_bn (b_isAgent H h) ?_
  refine zo_zb (fun e => zo_rt (by rw [zbl_n (fun z => e z.1)])) (fun e => ?_)
  refine zo_ob H.o (by omega) ?_
  have ha : 0 ≤ a ∧ a < 6 := by omega
  have h36 := h.ll a ha.1 ha.2
  refine zo_bn (b_manyOf H h ha) ?_
  refine zo_bn b_in ?_
  have ew : w32 (((M.li a).length : Int) - 1) = ((M.li a).length : Int) - 1 := w32_e (by omega)
  rw [ew]
  refine zo_zb (fun f => zo_rt (by rw [zbl_n (fun z => f (by omega))])) (fun f => zo_rt (by rw [zbl_p ⟨e, by omega⟩]))
theorem b_isMessage (H : MSh S m A) (h : D8 (μ A) M) {i : Int} : f_X8_isMessage m i (S, μ) = some (.inl (zbl (0 ≤ i ∧ i < (M.qu.length : Int))), (S, μ)) := by
  have h6 := h.ql
  have e : w32 ((M.qu.length : Int) - 1) = (M.qu.length : Int) - 1 := w32_e (by omega)
  apply zo_un
  refine j_X8_isMessage ?_
  refine zo_ob H.o (by omega) ?_
  refine zo_bn (b_queued H h) ?_
  refine zo_bn b_in ?_
  rw [e, zbl_i (show (0 ≤ i ∧ i ≤ (M.qu.length : Int) - 1) ↔ (0 ≤ i ∧ i < (M.qu.length : Int)) by omega)]
  exact zo_pos (zbl_01 _) (zo_rt rfl)
theorem b_areBounds {lo hi : Int} {σ : zS} : f_X8_areBounds lo hi σ = some (.inl (zbl (0 ≤ lo ∧ lo ≤ hi ∧ hi ≤ 999)), σ) := by
  apply zo_un
  refine j_X8_areBounds ?_
  refine zo_bn b_in ?_
  refine zo_zb (fun e => zo_rt (by rw [zbl_n (by omega)])) (fun e => ?_)
  refine zo_bn b_in ?_
  refine zo_zb (fun f => zo_rt (by rw [zbl_n (by omega)])) (fun f => zo_rt (by rw [zbl_p (by omega)]))
theorem b_isSlot {i : Int} {σ : zS} : f_X8_isSlot i σ = some (.inl (zbl (0 ≤ i ∧ i ≤ 1)), σ) := by
  apply zo_un
  refine j_X8_isSlot ?_
  refine zo_bn b_in ?_
  exact zo_pos (zbl_01 _) (zo_rt rfl)
theorem k_A (C : CB S x) (h : D7 S μ (x + 12) M) {a : Int} (ha : 0 ≤ a ∧ a < (M.an.length : Int)) : f_X7_checkAgent x a (S, μ) = some (.inl 0, (S, μ)) := by
  apply zo_un
  refine j_X7_checkAgent ?_
  refine zo_neg (by omega) ?_
  refine zo_gr C.o C.r3 (by omega) (by omega) ?_
  refine zo_gr h.sh.o h.sh.r1 (by omega) (by omega) ?_
  refine zo_gf h.sh.ag.o h.an0 (by omega) (by omega) ?_
  exact zo_pos ha.2 (zo_rt rfl)
theorem k_A_no (C : CB S x) (h : D7 S μ (x + 12) M) {a : Int} (ha : ¬ (0 ≤ a ∧ a < (M.an.length : Int))) : f_X7_checkAgent x a (S, μ) = some (.inr 2, (S, μ)) := by
  apply zo_un
  refine j_X7_checkAgent ?_
  by_cases h0 : a < 0
  · exact zo_pos h0 (zo_rt rfl)
  · refine zo_neg h0 ?_
    refine zo_gr C.o C.r3 (by omega) (by omega) ?_
    refine zo_gr h.sh.o h.sh.r1 (by omega) (by omega) ?_
    refine zo_gf h.sh.ag.o h.an0 (by omega) (by omega) ?_
    exact zo_neg (by omega) (zo_rt rfl)
theorem k_W (C : CB S x) (h : D7 S μ (x + 12) M) {a : Int} (ha : 0 ≤ a ∧ a < (M.wn.length : Int)) : f_X7_checkWay x a (S, μ) = some (.inl 0, (S, μ)) := by
  apply zo_un
  refine j_X7_checkWay ?_
  refine zo_neg (by omega) ?_
  refine zo_gr C.o C.r3 (by omega) (by omega) ?_
  refine zo_gr h.sh.o h.sh.r2 (by omega) (by omega) ?_
  refine zo_gf h.sh.wa.o h.wn0 (by omega) (by omega) ?_
  exact zo_pos ha.2 (zo_rt rfl)
theorem k_W_no (C : CB S x) (h : D7 S μ (x + 12) M) {a : Int} (ha : ¬ (0 ≤ a ∧ a < (M.wn.length : Int))) : f_X7_checkWay x a (S, μ) = some (.inr 2, (S, μ)) := by
  apply zo_un
  refine j_X7_checkWay ?_
  by_cases h0 : a < 0
  · exact zo_pos h0 (zo_rt rfl)
  · refine zo_neg h0 ?_
    refine zo_gr C.o C.r3 (by omega) (by omega) ?_
    refine zo_gr h.sh.o h.sh.r2 (by omega) (by omega) ?_
    refine zo_gf h.sh.wa.o h.wn0 (by omega) (by omega) ?_
    exact zo_neg (by omega) (zo_rt rfl)
theorem k_R {v lo hi : Int} {σ : zS} (h : lo ≤ v ∧ v ≤ hi) : f_X7_checkRange v lo hi σ = some (.inl 0, σ) := by
  apply zo_un
  refine j_X7_checkRange ?_
  exact zo_neg (by omega) (zo_neg (by omega) (zo_rt rfl))
theorem k_R_no {v lo hi : Int} {σ : zS} (h : ¬ (lo ≤ v ∧ v ≤ hi)) : f_X7_checkRange v lo hi σ = some (.inr 1, σ) := by
  apply zo_un
  refine j_X7_checkRange ?_
  by_cases h0 : v < lo
  · exact zo_pos h0 (zo_rt rfl)
  · exact zo_neg h0 (zo_pos (by omega) (zo_rt rfl))
theorem k_B {lo hi : Int} {σ : zS} (h : 0 ≤ lo ∧ lo ≤ hi ∧ hi ≤ 999) : f_X7_checkBounds lo hi σ = some (.inl 0, σ) := by
  apply zo_un
  refine j_X7_checkBounds ?_
  refine zo_bn (k_R (by omega)) ?_
  refine zo_bn (k_R (by omega)) ?_
  exact zo_rt rfl
theorem k_B_no {lo hi : Int} {σ : zS} (h : ¬ (0 ≤ lo ∧ lo ≤ hi ∧ hi ≤ 999)) : f_X7_checkBounds lo hi σ = some (.inr 1, σ) := by
  apply zo_un
  refine j_X7_checkBounds ?_
  by_cases h0 : 0 ≤ lo ∧ lo ≤ 999
  · refine zo_bn (k_R h0) ?_
    exact zo_be (k_R_no (by omega)) rfl
  · exact zo_be (k_R_no h0) rfl
theorem k_P (C : CB S x) (h : D7 S μ (x + 12) M) {a i : Int} (ha : 0 ≤ a ∧ a < (M.an.length : Int)) (hi : 0 ≤ i ∧ i < ((M.li a).length : Int)) : f_X7_checkReport x a i (S, μ) = some (.inl 0, (S, μ)) := by
  have h6 := h.al
  apply zo_un
  refine j_X7_checkReport ?_
  refine zo_ob C.o (by omega) ?_
  refine zo_bn (k_A C h ha) ?_
  refine zo_neg (by omega) ?_
  refine zo_gr C.o C.r3 (by omega) (by omega) ?_
  refine zo_ob h.sh.o (by omega) ?_
  refine zo_bn (d_listOf h (by omega)) ?_
  refine zo_gf (h.sh.ls a (by omega) (by omega)).o (h.li a (by omega) (by omega)).1 (by omega) (by omega) ?_
  exact zo_pos hi.2 (zo_rt rfl)
theorem k_P_no (C : CB S x) (h : D7 S μ (x + 12) M) {a i : Int} (hn : ¬ ((0 ≤ a ∧ a < (M.an.length : Int)) ∧ (0 ≤ i ∧ i < ((M.li a).length : Int)))) : f_X7_checkReport x a i (S, μ) = some (.inr 2, (S, μ)) := by
  have h6 := h.al
  apply zo_un
  refine j_X7_checkReport ?_
  refine zo_ob C.o (by omega) ?_
  by_cases ha : 0 ≤ a ∧ a < (M.an.length : Int)
  · refine zo_bn (k_A C h ha) ?_
    by_cases h0 : i < 0
    · exact zo_pos h0 (zo_rt rfl)
    · refine zo_neg h0 ?_
      refine zo_gr C.o C.r3 (by omega) (by omega) ?_
      refine zo_ob h.sh.o (by omega) ?_
      refine zo_bn (d_listOf h (by omega)) ?_
      refine zo_gf (h.sh.ls a (by omega) (by omega)).o (h.li a (by omega) (by omega)).1 (by omega) (by omega) ?_
      exact zo_neg (fun z => hn ⟨ha, by omega⟩) (zo_rt rfl)
  · exact zo_be (k_A_no C h ha) rfl
theorem bel_rng (M : zD) (a w x : Int) : 0 ≤ (M.bel a w x).2.1 ∧ (M.bel a w x).2.1 ≤ (M.bel a w x).2.2 ∧ (M.bel a w x).2.2 ≤ 999 := by
  unfold zD.bel
  refine zlp_inv (P := fun s : zBs => 0 ≤ s.2.1 ∧ s.2.1 ≤ s.2.2 ∧ s.2.2 ≤ 999) (N := (zent w x (M.li a) 0).length) ?_ _ 0 _ (by omega) (show (0 : Int) ≤ 0 ∧ (0 : Int) ≤ 999 ∧ (999 : Int) ≤ 999 by decide)
  intro k s _ hs
  unfold zbs
  split
  · exact hs
  · split
    · exact hs
    · rename_i hc
      dsimp only
      omega
theorem bel_st (M : zD) (a w x o : Int) : -1 ≤ (M.bel a w x).1 o ∧ (M.bel a w x).1 o ≤ 3 := by
  unfold zD.bel
  refine zlp_inv (P := fun s : zBs => ∀ o, -1 ≤ s.1 o ∧ s.1 o ≤ 3) (N := (zent w x (M.li a) 0).length) ?_ _ 0 _ (by omega) ?_ o
  · intro k s _ hs
    have hu : ∀ o t v, (t = 0 ∨ t = 1) → -1 ≤ zup1 s.1 o t v ∧ zup1 s.1 o t v ≤ 3 := by
      intro o t v ht
      unfold zup1
      split
      · omega
      · exact hs v
    unfold zbs
    split
    · exact hs
    · split
      · exact fun v => hu _ 1 v (Or.inr rfl)
      · exact fun v => hu _ 0 v (Or.inl rfl)
  · intro o
    show -1 ≤ zst0 M a (zent w x (M.li a) 0) o ∧ zst0 M a (zent w x (M.li a) 0) o ≤ 3
    unfold zst0
    split
    · decide
    · rename_i e _
      rcases zbl_01 (M.out a e.2) with h | h <;> rw [h] <;> decide
theorem zws_rng (s : zBs) (t : Int) : ∀ (X : zEn) (c : Int), zI c → zI (zws s t X c) := by
  intro X
  induction X with
  | nil => intro c h; exact h
  | cons e r ih =>
    intro c h
    rw [zws_c]
    split
    · exact ih _ (zor_rng _ _)
    · exact ih _ h
theorem zso_rng {s : zBs} (hs : ∀ o, -1 ≤ s.1 o ∧ s.1 o ≤ 3) (k : Nat) : ∀ X : zEn, -1 ≤ zso s k X ∧ zso s k X ≤ 3 := by
  intro X
  induction X with
  | nil => exact ⟨by show (-1 : Int) ≤ 2; decide, by show (2 : Int) ≤ 3; decide⟩
  | cons e r ih =>
    unfold zso
    split
    · exact hs _
    · exact ih
end C61
