/-! C 64: operations that change the desk -/
section C64
variable {S S' : zG} {μ μ' μ1 : zM} {x m B A : Int} {M M' : zD} {L L' : List zD} {K : zKs} {inp out : List Int} {c p : Int} {P : zG → zM → Prop} {Q : zR × zS → Prop}
theorem CB.keep (h : CB S x) (hs : ∀ y, x ≤ y → y < x + 12 → S'.1 y = S.1 y) (hr : ∀ y j, x ≤ y → y < x + 12 → S'.2.1 y j = S.2.1 y j) : CB S' x := by
  have hv := h.V
  exact CB.mk ⟨h.x0, (hs _ (by omega) (by omega)).trans h.o, (hr _ _ (by omega) (by omega)).trans h.r0, (hr _ _ (by omega) (by omega)).trans h.r1, (hr _ _ (by omega) (by omega)).trans h.r2, (hr _ _ (by omega) (by omega)).trans h.r3, (hr _ _ (by omega) (by omega)).trans h.r4, (hr _ _ (by omega) (by omega)).trans h.r5, (hr _ _ (by omega) (by omega)).trans h.r6, (hr _ _ (by omega) (by omega)).trans h.r7, VSh.mk ⟨(hs _ (by omega) (by omega)).trans hv.o, (hr _ _ (by omega) (by omega)).trans hv.r0, (hr _ _ (by omega) (by omega)).trans hv.r1, (hr _ _ (by omega) (by omega)).trans hv.r2, (hr _ _ (by omega) (by omega)).trans hv.r3, (hr _ _ (by omega) (by omega)).trans hv.r4, (hr _ _ (by omega) (by omega)).trans hv.r5, (hs _ (by omega) (by omega)).trans hv.a0, (hs _ (by omega) (by omega)).trans hv.a1, (hs _ (by omega) (by omega)).trans hv.a2, (hs _ (by omega) (by omega)).trans hv.a3, (hs _ (by omega) (by omega)).trans hv.a4, (hs _ (by omega) (by omega)).trans hv.a5⟩⟩
theorem BSh.keep {b n : Int} (h : BSh S b n) (h0 : S'.1 b = S.1 b) (h1 : S'.1 (b + 1) = S.1 (b + 1)) (h2 : S'.2.1 b 0 = S.2.1 b 0) : BSh S' b n := BSh.mk ⟨h0.trans h.o, h2.trans h.r, h1.trans h.c⟩
theorem W7.hist (h : W7 S μ x M L K inp out c p) (f : FH x (x + 66) S S' μ μ') {r : Nat → Int} {K' : zKs} (hr : HR7 S' μ' x (x + 66) r L' K') : W7 S' μ' x M L' K' inp out c p := by
  have hx := h.C.x0
  have e1 : x + 1 + 1 = x + 2 := by omega
  have e3 : x + 3 + 1 = x + 4 := by omega
  exact W7.mk ⟨h.C.keep (fun y h1 h2 => f.sh y (by omega)) (fun y j h1 h2 => f.rf y j (by omega) (by omega) (by omega)), h.D.keep2 (fun y h1 h2 => f.sh y (by omega)) (fun y j h1 h2 => f.rf y j (by omega) (by omega) (by omega)) (fun y h1 h2 => f.m y (by omega) (by omega)), h.ts.keep (fun y h1 h2 => f.sh y (by omega)) (fun y j h1 h2 => f.rf y j (by omega) (by omega) (by omega)), by rw [f.m _ (by omega) (by omega)]; exact h.te, ⟨r, hr⟩, h.bi.keep (f.sh _ (by omega)) (f.sh _ (by omega)) (f.rf _ _ (by omega) (by omega) (by omega)), h.li.keep (by rw [f.m _ (by omega) (by omega)]) (fun k => by rw [f.m _ (by omega) (by omega)]), h.bo.keep (f.sh _ (by omega)) (f.sh _ (by omega)) (f.rf _ _ (by omega) (by omega) (by omega)), h.lo.keep (by rw [f.m _ (by omega) (by omega)]) (fun k => by rw [f.m _ (by omega) (by omega)]), (f.sh _ (by omega)).trans h.po, (f.rf _ _ (by omega) (by omega) (by omega)).trans h.p0, (f.rf _ _ (by omega) (by omega) (by omega)).trans h.p1, by rw [f.m _ (by omega) (by omega)]; exact h.pc, by rw [f.m _ (by omega) (by omega)]; exact h.pp, h.il, h.ol⟩
theorem w7_push (h : W7 S μ x M L K inp out c p) : ∃ S1 μ1, f_X2_push (x + 63) (x + 12) (S, μ) = some (.inl 0, (S1, μ1)) ∧ W7 S1 μ1 x M (zpush L M) K inp out c p ∧ FX x S S1 μ μ1 := by
  obtain ⟨r, hr⟩ := h.H
  obtain ⟨S1, μ1, r1, e1, h1, f1, -⟩ := c_push hr h.D
  exact ⟨S1, μ1, e1, h.hist f1 h1, f1.fx⟩
theorem W7.desk (h : W7 S μ x M L K inp out c p) (hd : D7 S μ' (x + 12) M') (f : FR (x + 12) μ μ') : W7 S μ' x M' L K inp out c p := by
  obtain ⟨r, hr⟩ := h.H
  have hx := h.C.x0
  exact W7.mk ⟨h.C, hd, h.ts, by rw [f _ (by omega)]; exact h.te, ⟨r, hr.keep (fun y hy => f y (by omega))⟩, h.bi, h.li.keep (by rw [f _ (by omega)]) (fun k => by rw [f _ (by omega)]), h.bo, h.lo.keep (by rw [f _ (by omega)]) (fun k => by rw [f _ (by omega)]), h.po, h.p0, h.p1, by rw [f _ (by omega)]; exact h.pc, by rw [f _ (by omega)]; exact h.pp, h.il, h.ol⟩
theorem WB.psh (h : WB B M L K) (hM : WF (B + 99) M') (hB : B + 99 ≤ 1000000) : WB (B + 99) M' (zpush L M) K := by
  have h1 := h.same (B' := B + 99) (by omega) hB
  refine WB.mk ⟨hM, ?_, h1.K⟩
  intro X hX
  unfold zpush at hX
  rcases List.mem_append.mp hX with hX | hX
  · split at hX
    · exact h1.L X (List.mem_of_mem_tail hX)
    · exact h1.L X hX
  · rw [List.mem_singleton.mp hX]
    exact h1.M
theorem WF.up (h : WF B M) (hB : B + 99 ≤ 1000000) : WF (B + 99) M := ((WB.mk ⟨h, fun X hX => absurd hX (by simp), fun i X _ hk => by cases hk⟩ : WB B M [] (fun _ => none)).same (B' := B + 99) (by omega) hB).M
theorem zo_x7 {A : zFn} {v : Int} {R : zM → Prop} (h : zo A (fun r => ∃ μ', r = (.inl v, (S, μ')) ∧ R μ')) : ∃ μ', A = some (.inl v, (S, μ')) ∧ R μ' := zo_ux h
end C64
theorem dlv_mn (M : zD) (j : Nat) : M.dlv (min j M.qu.length) = M.dlv j := by
  by_cases h : j ≤ M.qu.length
  · rw [Nat.min_eq_left h]
  · rw [Nat.min_eq_right (by omega), dlv_min M (n := j) (by omega)]
