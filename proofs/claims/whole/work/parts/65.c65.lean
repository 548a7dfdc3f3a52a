/-! C 65: losing, undoing, trust, links, rules, the input -/
def zOpq (x : Int) (P : zG → zM → Prop) (f7 f8 : zS → zFn) (S : zG) (μ : zM) : Prop := ∃ v S1 μ1, f7 (S, μ) = some (.inl v, (S1, μ1)) ∧ ∃ μ3, f8 (S1, μ1) = some (.inl v, (S1, μ3)) ∧ S1.1 (x + 66) = some (0, 8) ∧ P S1 μ3
section C65
variable {S S' : zG} {μ μ' μ1 : zM} {x m B A : Int} {M M' : zD} {L L' : List zD} {K : zKs} {inp out inp' out' : List Int} {c p : Int} {P : zG → zM → Prop} {Q : zR × zS → Prop}
theorem m_p3 {t1 t2 t3 : Int} {F : zS → zFn} (H : MSh S m A) (h1 : ¬ t1 = 0) (h2 : ¬ t2 = 0) (h3 : ¬ t3 = 0) (q : zo (F (S, zup μ m 0 0)) Q) : zo (zob 8 m (S, μ) (zbn (f_X8_passes3 m t1 t2 t3 (S, μ)) fun x τ => if x = 0 then some (.inl 0, τ) else F τ)) Q := by
  obtain ⟨v, e, hv⟩ := b_passes3 (μ := μ) (t1 := t1) (t2 := t2) (t3 := t3) H
  rw [if_neg h1, if_neg h2, if_neg h3] at hv
  subst hv
  refine zo_ob H.o (by omega) ?_
  refine zo_bn e ?_
  exact zo_neg (zbl_nz ⟨h1, h2, h3⟩) q
theorem m_f3 {t1 t2 t3 : Int} {F : zS → zFn} (H : MSh S m A) (hn : ¬ (¬ t1 = 0 ∧ ¬ t2 = 0 ∧ ¬ t3 = 0)) (q : Q (.inl 0, (S, zup μ m 0 (if t1 = 0 then 1 else if t2 = 0 then 2 else if t3 = 0 then 3 else 0)))) : zo (zob 8 m (S, μ) (zbn (f_X8_passes3 m t1 t2 t3 (S, μ)) fun x τ => if x = 0 then some (.inl 0, τ) else F τ)) Q := by
  obtain ⟨v, e, hv⟩ := b_passes3 (μ := μ) (t1 := t1) (t2 := t2) (t3 := t3) H
  subst hv
  refine zo_ob H.o (by omega) ?_
  refine zo_bn e ?_
  exact zo_pos (zbl_n hn) (zo_rt q)
theorem W7.inpu (h : W7 S μ x M L K inp out c p) (hl : LBy μ' inp' (x + 1) 1 (x + 2)) (f : FB (x + 1) μ μ') (h6 : inp'.length ≤ 600) : W7 S μ' x M L K inp' out c p := by
  obtain ⟨r, hr⟩ := h.H
  have hx := h.C.x0
  exact W7.mk ⟨h.C, h.D.keep (fun y h1 h2 => f y (by omega) (by omega)), h.ts, by rw [f _ (by omega) (by omega)]; exact h.te, ⟨r, hr.keep (fun y hy => f y (by omega) (by omega))⟩, h.bi, hl, h.bo, h.lo.keep (by rw [f _ (by omega) (by omega)]) (fun k => by rw [f _ (by omega) (by omega)]), h.po, h.p0, h.p1, by rw [f _ (by omega) (by omega)]; exact h.pc, by rw [f _ (by omega) (by omega)]; exact h.pp, h6, h.ol⟩
theorem W8.inpu (h : W8 S μ m M L K inp out c p) (hl : LBy μ' inp' m 11 (m + 6)) (f : FI m μ μ') : W8 S μ' m M L K inp' out c p := by
  refine W8.mk ⟨h.H, by rw [f.x _ (by omega) (by omega)]; exact h.D, HRel.mk ⟨h.R.n, by rw [f.f _ (by omega)]; exact h.R.c, fun i X hi => by rw [f.x _ (by omega) (by omega)]; exact h.R.v i X hi⟩, fun i hi hk => by rw [f.x _ (by omega) (by omega)]; exact h.K0 i hi hk, fun i X hi hk => by rw [f.x _ (by omega) (by omega), f.x _ (by omega) (by omega)]; exact h.K1 i X hi hk, hl, h.lo.keep (by rw [f.f _ (by omega)]) (fun k => by rw [f.x _ (by omega) (by omega)]), by rw [f.f _ (by omega)]; exact h.w, by rw [f.f _ (by omega)]; exact h.ec, by rw [f.f _ (by omega)]; exact h.ep⟩
theorem LBy.tk {l : List Int} {a i b : Int} (h : LBy μ l a i b) (hab : a ≠ b) (k : Nat) (hk : k ≤ l.length) : LBy (zup μ a i (k : Int)) (l.take k) a i b := by
  refine LBy.mk ⟨by rw [zup_at, List.length_take]; omega, ?_, fun y hy => h.g y (List.mem_of_mem_take hy)⟩
  intro j y hj
  rw [zup_b (fun z => hab z.symm)]
  have hl := (List.getElem?_eq_some_iff.mp hj).1
  rw [List.length_take] at hl
  rw [List.getElem?_take_of_lt (by omega)] at hj
  exact h.v j y hj
theorem opq_r {f7 f8 : zS → zFn} {v : Int} (h : Wd B x S μ M L K inp out c p) (hB : B + 99 ≤ 1000000) (e7 : f7 (S, μ) = some (.inl v, (S, μ))) (e8 : ∀ μ2, W8 S μ2 (x + 66) M L K inp out c p → ∃ μ3, f8 (S, μ2) = some (.inl v, (S, μ3)) ∧ FM (x + 66) μ2 μ3) (hP : zPP B x P) : zOpq x P f7 f8 S μ := by
  obtain ⟨μ3, e3, f3⟩ := e8 μ h.b
  exact ⟨v, S, μ, e7, μ3, e3, h.b.H.o, hP _ _ _ _ _ _ _ _ _ (Wd.mk ⟨h.a.keep (fun y hy => f3.far y (by omega)), f3.w8 h.b, h.w.same (by omega) hB, h.o⟩)⟩
end C65
theorem o_undoCount {B x : Int} {S : zG} {μ : zM} {M : zD} {L : List zD} {K : zKs} {inp out : List Int} {c p : Int} {P : zG → zM → Prop} (h : Wd B x S μ M L K inp out c p) (hB : B + 99 ≤ 1000000) (hP : zPP B x P) : zOpq x P (f_X7_undoCount x) (f_X8_undoCount (x + 66)) S μ := by
  obtain ⟨rH, hH⟩ := h.a.H
  refine opq_r (v := (L.length : Int)) h hB ?_ ?_ hP
  · apply zo_un
    refine j_X7_undoCount ?_
    refine zo_gr h.a.C.o h.a.C.r6 (by omega) (by omega) ?_
    refine zo_gf hH.o hH.c (by omega) (by omega) ?_
    exact zo_rt rfl
  · intro μ2 h8
    refine zo_ux ?_
    refine j_X8_undoCount ?_
    refine zo_pf 0 h8.H.o (by omega) (by omega) ?_
    refine zo_gf h8.H.o (v := (L.length : Int)) (j := 25) (by rw [zup_j (by decide)]; exact h8.R.c) (by omega) (by omega) ?_
    exact zo_rt ⟨_, rfl, FM.u0⟩
theorem o_errorCode {B x : Int} {S : zG} {μ : zM} {M : zD} {L : List zD} {K : zKs} {inp out : List Int} {c p : Int} {P : zG → zM → Prop} (h : Wd B x S μ M L K inp out c p) (hB : B + 99 ≤ 1000000) (hP : zPP B x P) : zOpq x P (f_X7_errorCode x) (f_X8_errorCode (x + 66)) S μ := by
  refine opq_r (v := c) h hB ?_ ?_ hP
  · apply zo_un
    refine j_X7_errorCode ?_
    refine zo_gr h.a.C.o h.a.C.r5 (by omega) (by omega) ?_
    refine zo_gf h.a.po h.a.pc (by omega) (by omega) ?_
    exact zo_rt rfl
  · intro μ2 h8
    refine zo_ux ?_
    refine j_X8_errorCode ?_
    refine zo_pf 0 h8.H.o (by omega) (by omega) ?_
    refine zo_gf h8.H.o (v := c) (j := 17) (by rw [zup_j (by decide)]; exact h8.ec) (by omega) (by omega) ?_
    exact zo_rt ⟨_, rfl, FM.u0⟩
theorem o_errorPosition {B x : Int} {S : zG} {μ : zM} {M : zD} {L : List zD} {K : zKs} {inp out : List Int} {c p : Int} {P : zG → zM → Prop} (h : Wd B x S μ M L K inp out c p) (hB : B + 99 ≤ 1000000) (hP : zPP B x P) : zOpq x P (f_X7_errorPosition x) (f_X8_errorPosition (x + 66)) S μ := by
  refine opq_r (v := p) h hB ?_ ?_ hP
  · apply zo_un
    refine j_X7_errorPosition ?_
    refine zo_gr h.a.C.o h.a.C.r5 (by omega) (by omega) ?_
    refine zo_gf h.a.po h.a.pp (by omega) (by omega) ?_
    exact zo_rt rfl
  · intro μ2 h8
    refine zo_ux ?_
    refine j_X8_errorPosition ?_
    refine zo_pf 0 h8.H.o (by omega) (by omega) ?_
    refine zo_gf h8.H.o (v := p) (j := 18) (by rw [zup_j (by decide)]; exact h8.ep) (by omega) (by omega) ?_
    exact zo_rt ⟨_, rfl, FM.u0⟩
theorem WF.rul {B : Int} {M : zD} (h : WF B M) {i v : Int} (hi : 0 ≤ i ∧ i < 5) (hv : zsv 0 i ≤ v ∧ v ≤ zsv 1 i) : WF B (M.wru (zup1 M.ru i v)) := by
  have e : ∀ j, zup1 M.ru i v j = if j = i then v else M.ru j := fun _ => rfl
  have hc : i = 0 ∨ i = 1 ∨ i = 2 ∨ i = 3 ∨ i = 4 := by omega
  have h0 := h.r0
  have h1 := h.r1
  have h2 := h.r2
  have h3 := h.r3
  have h4 := h.r4
  rcases hc with z | z | z | z | z <;> subst z
  · have hv' : 0 ≤ v ∧ v ≤ 20 := hv
    exact WF.mk ⟨h.B0, h.tm, h.al, h.wl, hv', h1, h2, h3, h4, h.Tr, h.Ti, h.Ts, h.Ta, h.li, h.lz, h.nd, h.qu, h.ql, h.an, h.wn, h.ai⟩
  · have hv' : 0 ≤ v ∧ v ≤ 50 := hv
    exact WF.mk ⟨h.B0, h.tm, h.al, h.wl, h0, hv', h2, h3, h4, h.Tr, h.Ti, h.Ts, h.Ta, h.li, h.lz, h.nd, h.qu, h.ql, h.an, h.wn, h.ai⟩
  · have hv' : 0 ≤ v ∧ v ≤ 10 := hv
    exact WF.mk ⟨h.B0, h.tm, h.al, h.wl, h0, h1, hv', h3, h4, h.Tr, h.Ti, h.Ts, h.Ta, h.li, h.lz, h.nd, h.qu, h.ql, h.an, h.wn, h.ai⟩
  · have hv' : 1 ≤ v ∧ v ≤ 99 := hv
    exact WF.mk ⟨h.B0, h.tm, h.al, h.wl, h0, h1, h2, hv', h4, h.Tr, h.Ti, h.Ts, h.Ta, h.li, h.lz, h.nd, h.qu, h.ql, h.an, h.wn, h.ai⟩
  · have hv' : 1 ≤ v ∧ v ≤ 3 := hv
    exact WF.mk ⟨h.B0, h.tm, h.al, h.wl, h0, h1, h2, h3, hv', h.Tr, h.Ti, h.Ts, h.Ta, h.li, h.lz, h.nd, h.qu, h.ql, h.an, h.wn, h.ai⟩
theorem o_lose {B x : Int} {S : zG} {μ : zM} {M : zD} {L : List zD} {K : zKs} {inp out : List Int} {c p : Int} {P : zG → zM → Prop} (h : Wd B x S μ M L K inp out c p) (hB : B + 99 ≤ 1000000) (hP : zPP B x P) : zOp x P (f_X7_lose x) (f_X8_lose (x + 66)) [(0, 1)] S μ := by
  have W := h.w.M
  have hql := h.a.D.ql
  cases hq : M.qu with
  | nil =>
    have hq0 : (M.qu.length : Int) = 0 := by rw [hq]; rfl
    refine op_t 0 1 h ?_ (by decide) (by decide) ?_ (hP.q hB)
    · apply zo_un
      refine j_X7_lose ?_
      refine zo_gr h.a.C.o h.a.C.r3 (by omega) (by omega) ?_
      refine zo_gr h.a.D.sh.o h.a.D.sh.r6 (by omega) (by omega) ?_
      refine zo_gf h.a.D.sh.qu.o h.a.D.qu.1 (by omega) (by omega) ?_
      exact zo_pos hq0 (zo_rt rfl)
    · intro S1 μ2 h8
      refine zo_xt ?_
      refine j_X8_lose ?_
      refine zo_ob h8.H.o (by omega) ?_
      refine zo_bn (b_queued h8.H h8.D) ?_
      refine zo_neg (by omega) ?_
      refine j_X8_lose_13 ?_
      refine m_f1 h8.H rfl ?_
      exact ⟨_, _, rfl, FM.u0, zup_at⟩
  | cons q l =>
    have hq0 : (M.qu.length : Int) = (l.length : Int) + 1 := by rw [hq]; rfl
    have hWl : WF B (M.wqu l) := W.que (fun m hm => W.qu m (by rw [hq]; exact List.mem_cons_of_mem _ hm)) (by omega)
    refine op_p (v := (l.length : Int)) (M' := M.wqu l) h hB (hWl.up hB) (by unfold zI; omega) ?_ ?_ hP
    · intro S1 μ1 e1 h1p
      have hq1 : (M.qu.length : Int) = (l.length : Int) + 1 := hq0
      refine zo_x7 ?_
      refine j_X7_lose ?_
      refine zo_gr h.a.C.o h.a.C.r3 (by omega) (by omega) ?_
      refine zo_gr h.a.D.sh.o h.a.D.sh.r6 (by omega) (by omega) ?_
      refine zo_gf h.a.D.sh.qu.o h.a.D.qu.1 (by omega) (by omega) ?_
      refine zo_neg (by omega) ?_
      refine zo_gr h.a.C.o h.a.C.r6 (by omega) (by omega) ?_
      refine zo_gr h.a.C.o h.a.C.r3 (by omega) (by omega) ?_
      obtain ⟨rH, hH⟩ := h.a.H
      refine zo_ob hH.o (by omega) ?_
      refine zo_bn e1 ?_
      refine zo_gr h1p.C.o h1p.C.r3 (by omega) (by omega) ?_
      refine zo_gr h1p.D.sh.o h1p.D.sh.r6 (by omega) (by omega) ?_
      refine zo_ob h1p.D.sh.qu.o (by omega) ?_
      obtain ⟨μ5, e5, h5, f5⟩ := c_removeFirst (k := 1) h1p.D.sh.qu h1p.D.qu (by decide) (by omega) (by decide) (by decide)
      refine zo_bn e5 ?_
      have ed : M.qu.drop (1 : Int).toNat = l := by rw [hq]; rfl
      rw [ed] at h5
      have h6 := h1p.D.setQu (μ' := μ5) (l := l) (by omega) h5 (fun y hy hz => f5 y hy hz)
      refine zo_gr h1p.C.o h1p.C.r3 (by omega) (by omega) ?_
      refine zo_gr h1p.D.sh.o h1p.D.sh.r6 (by omega) (by omega) ?_
      refine zo_gf h1p.D.sh.qu.o h6.qu.1 (by omega) (by omega) ?_
      exact zo_rt ⟨μ5, rfl, Or.inr ⟨h6, fun y hy => f5 y (by omega) (by omega)⟩⟩
    · intro S1 μ2 h8
      refine zo_x7 ?_
      refine j_X8_lose ?_
      refine zo_ob h8.H.o (by omega) ?_
      refine zo_bn (b_queued h8.H h8.D) ?_
      refine zo_pos (by omega) ?_
      refine j_X8_lose_13 ?_
      refine m_p1 h8.H (by decide) ?_
      have g0 : W8 S1 (zup μ2 (x + 66) 0 0) (x + 66) M L K inp out c p := FM.u0.w8 h8
      obtain ⟨μ4, e4, g8, f4⟩ := g0.rem
      have gt : μ4 (x + 66) 0 = 0 := by rw [f4.f _ (by decide)]; exact zup_at
      have gf : ∀ y, y < x + 66 ∨ x + 78 ≤ y → μ4 y = μ2 y := fun y hy => by rw [f4.x y (by omega) (by omega), zup_c (by omega)]
      refine zo_ob g0.H.o (by omega) ?_
      refine zo_bn e4 ?_
      obtain ⟨μ5, e5, h5, f5⟩ := b_dropFirst g8.H g8.D hq
      refine zo_ob g8.H.o (by omega) ?_
      refine zo_bn e5 ?_
      refine zo_ob g8.H.o (by omega) ?_
      refine zo_bn (b_queued g8.H h5) ?_
      exact zo_rt ⟨μ5, rfl, g8.desk h5 f5, by rw [f5 _ (by omega)]; exact gt, fun y hy => by rw [f5 y (by omega)]; exact gf y hy⟩
theorem o_setTrust {B x : Int} {S : zG} {μ : zM} {M : zD} {L : List zD} {K : zKs} {inp out : List Int} {c p : Int} {P : zG → zM → Prop} {a o t : Int} (h : Wd B x S μ M L K inp out c p) (hB : B + 99 ≤ 1000000) (hP : zPP B x P) : zOp x P (f_X7_setTrust x a o t) (f_X8_setTrust (x + 66) a o t) [(2, 1), (1, 2), (0, 3)] S μ := by
  have h60 := h.a.D.al
  have W := h.w.M
  have hP1 : ∀ S1 μ3, Wd B x S1 μ3 M L K inp out c p → P S1 μ3 := hP.q hB
  by_cases h1 : (0 ≤ a ∧ a < (M.an.length : Int)) ∧ (0 ≤ o ∧ o < (M.an.length : Int))
  · by_cases h2 : 0 ≤ t ∧ t ≤ 10
    · by_cases h3 : M.T a o = -1
      · refine op_t 0 3 h ?_ (by decide) (by decide) ?_ hP1
        · apply zo_un
          refine j_X7_setTrust ?_
          refine zo_ob h.a.C.o (by omega) ?_
          refine zo_bn (k_A h.a.C h.a.D h1.1) ?_
          refine zo_ob h.a.C.o (by omega) ?_
          refine zo_bn (k_A h.a.C h.a.D h1.2) ?_
          refine zo_bn (k_R h2) ?_
          refine zo_gr h.a.C.o h.a.C.r3 (by omega) (by omega) ?_
          refine zo_ob h.a.D.sh.o (by omega) ?_
          refine zo_bn (d_isLinked h.a.D (by omega) (by omega)) ?_
          exact zo_zn (fun z => z h3) (zo_rt rfl)
        · intro S1 μ2 h8
          refine zo_xt ?_
          refine j_X8_setTrust ?_
          refine zo_ob h8.H.o (by omega) ?_
          refine zo_bn (b_areAgents h8.H h8.D) ?_
          refine zo_bn b_in ?_
          refine zo_zp h1 ?_
          refine zo_ob h8.H.o (by omega) ?_
          refine zo_bn (b_areLinked h8.H h8.D (by omega) (by omega)) ?_
          refine zo_zn (fun z => z h3) ?_
          refine j_X8_setTrust_38 ?_
          refine j_X8_setTrust_39 ?_
          refine m_f3 h8.H (fun z => z.2.2 rfl) ?_
          exact ⟨_, _, rfl, FM.u0, by rw [zup_at, zbl_p h1, zbl_p h2]; rfl⟩
      · refine op_p (v := M.T a o) (M' := M.wT (zup2 M.T a o t)) h hB ((W.setT h3 h2).up hB) (by have := W.Tr a o; unfold zI; omega) ?_ ?_ hP
        · intro S1 μ1 e1 h1p
          refine zo_x7 ?_
          refine j_X7_setTrust ?_
          refine zo_ob h.a.C.o (by omega) ?_
          refine zo_bn (k_A h.a.C h.a.D h1.1) ?_
          refine zo_ob h.a.C.o (by omega) ?_
          refine zo_bn (k_A h.a.C h.a.D h1.2) ?_
          refine zo_bn (k_R h2) ?_
          refine zo_gr h.a.C.o h.a.C.r3 (by omega) (by omega) ?_
          refine zo_ob h.a.D.sh.o (by omega) ?_
          refine zo_bn (d_isLinked h.a.D (by omega) (by omega)) ?_
          refine zo_zp h3 ?_
          refine zo_gr h.a.C.o h.a.C.r6 (by omega) (by omega) ?_
          refine zo_gr h.a.C.o h.a.C.r3 (by omega) (by omega) ?_
          obtain ⟨rH, hH⟩ := h.a.H
          refine zo_ob hH.o (by omega) ?_
          refine zo_bn e1 ?_
          refine zo_gr h1p.C.o h1p.C.r3 (by omega) (by omega) ?_
          refine zo_ob h1p.D.sh.o (by omega) ?_
          refine zo_bn (d_trustIn h1p.D (by omega) (by omega)) ?_
          refine zo_gr h1p.C.o h1p.C.r3 (by omega) (by omega) ?_
          refine zo_ob h1p.D.sh.o (by omega) ?_
          obtain ⟨μ5, e5, h5, f5⟩ := d_putTrust h1p.D (i := a) (j := o) (v := t) (by omega) (by omega)
          refine zo_bn e5 ?_
          exact zo_rt ⟨μ5, rfl, Or.inr ⟨h5, f5⟩⟩
        · intro S1 μ2 h8
          refine zo_x7 ?_
          refine j_X8_setTrust ?_
          refine zo_ob h8.H.o (by omega) ?_
          refine zo_bn (b_areAgents h8.H h8.D) ?_
          refine zo_bn b_in ?_
          refine zo_zp h1 ?_
          refine zo_ob h8.H.o (by omega) ?_
          refine zo_bn (b_areLinked h8.H h8.D (by omega) (by omega)) ?_
          refine zo_zp h3 ?_
          refine j_X8_setTrust_39 ?_
          refine m_p3 h8.H (zbl_nz h1) (zbl_nz h2) (by decide) ?_
          have g0 : W8 S1 (zup μ2 (x + 66) 0 0) (x + 66) M L K inp out c p := FM.u0.w8 h8
          obtain ⟨μ4, e4, g8, f4⟩ := g0.rem
          have gt : μ4 (x + 66) 0 = 0 := by rw [f4.f _ (by decide)]; exact zup_at
          have gf : ∀ y, y < x + 66 ∨ x + 78 ≤ y → μ4 y = μ2 y := fun y hy => by rw [f4.x y (by omega) (by omega), zup_c (by omega)]
          refine zo_ob g0.H.o (by omega) ?_
          refine zo_bn e4 ?_
          refine zo_ob g8.H.o (by omega) ?_
          refine zo_bn (b_trustOf g8.H g8.D (by omega) (by omega)) ?_
          obtain ⟨μ5, e5, h5, f5⟩ := b_putTrust g8.H g8.D (a := a) (o := o) (v := t) (by omega) (by omega)
          refine zo_ob g8.H.o (by omega) ?_
          refine zo_bn e5 ?_
          exact zo_rt ⟨μ5, rfl, g8.desk h5 f5, by rw [f5 _ (by omega)]; exact gt, fun y hy => by rw [f5 y (by omega)]; exact gf y hy⟩
    · refine op_t 1 2 h ?_ (by decide) (by decide) ?_ hP1
      · apply zo_un
        refine j_X7_setTrust ?_
        refine zo_ob h.a.C.o (by omega) ?_
        refine zo_bn (k_A h.a.C h.a.D h1.1) ?_
        refine zo_ob h.a.C.o (by omega) ?_
        refine zo_bn (k_A h.a.C h.a.D h1.2) ?_
        exact zo_be (k_R_no h2) rfl
      · intro S1 μ2 h8
        refine zo_xt ?_
        refine j_X8_setTrust ?_
        refine zo_ob h8.H.o (by omega) ?_
        refine zo_bn (b_areAgents h8.H h8.D) ?_
        refine zo_bn b_in ?_
        refine zo_zp h1 ?_
        refine zo_ob h8.H.o (by omega) ?_
        refine zo_bn (b_areLinked h8.H h8.D (by omega) (by omega)) ?_
        refine zo_zb (fun h3 => ?_) (fun h3 => ?_)
        · refine j_X8_setTrust_38 ?_
          refine j_X8_setTrust_39 ?_
          refine m_f3 h8.H (fun z => z.2.2 rfl) ?_
          exact ⟨_, _, rfl, FM.u0, by rw [zup_at, zbl_p h1, zbl_n h2]; rfl⟩
        · refine j_X8_setTrust_39 ?_
          refine m_f3 h8.H (fun z => z.2.1 (zbl_n h2)) ?_
          exact ⟨_, _, rfl, FM.u0, by rw [zup_at, zbl_p h1, zbl_n h2]; rfl⟩
  · refine op_t 2 1 h ?_ (by decide) (by decide) ?_ hP1
    · apply zo_un
      refine j_X7_setTrust ?_
      refine zo_ob h.a.C.o (by omega) ?_
      by_cases ha : 0 ≤ a ∧ a < (M.an.length : Int)
      · refine zo_bn (k_A h.a.C h.a.D ha) ?_
        refine zo_ob h.a.C.o (by omega) ?_
        exact zo_be (k_A_no h.a.C h.a.D (fun z => h1 ⟨ha, z⟩)) rfl
      · exact zo_be (k_A_no h.a.C h.a.D ha) rfl
    · intro S1 μ2 h8
      refine zo_xt ?_
      refine j_X8_setTrust ?_
      refine zo_ob h8.H.o (by omega) ?_
      refine zo_bn (b_areAgents h8.H h8.D) ?_
      refine zo_bn b_in ?_
      refine zo_zn h1 ?_
      refine j_X8_setTrust_38 ?_
      refine j_X8_setTrust_39 ?_
      refine m_f3 h8.H (fun z => z.1 (zbl_n h1)) ?_
      exact ⟨_, _, rfl, FM.u0, by rw [zup_at, zbl_n h1]; rfl⟩
