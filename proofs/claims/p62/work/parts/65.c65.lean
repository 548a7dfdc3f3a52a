/-! C 65: losing, undoing, trust, links, rules, the input -/
section C65
variable {S S' : zG} {μ μ' μ1 : zM} {x m B A : Int} {M M' : zD} {L L' : List zD} {K : zKs} {inp out inp' out' : List Int} {c p : Int} {P : zG → zM → Prop} {Q : zR × zS → Prop}
theorem W7.inpu (h : W7 S μ x M L K inp out c p) (hl : LBy μ' inp' (x + 1) 1 (x + 2)) (f : FB (x + 1) μ μ') (h6 : inp'.length ≤ 600) : W7 S μ' x M L K inp' out c p := by
  obtain ⟨r, hr⟩ := h.H
  have hx := h.C.x0
  exact W7.mk ⟨h.C, h.D.keep (fun y h1 h2 => f y (by omega) (by omega)), h.ts, by rw [f _ (by omega) (by omega)]; exact h.te, ⟨r, hr.keep (fun y hy => f y (by omega) (by omega))⟩, h.bi, hl, h.bo, h.lo.keep (by rw [f _ (by omega) (by omega)]) (fun k => by rw [f _ (by omega) (by omega)]), h.po, h.p0, h.p1, by rw [f _ (by omega) (by omega)]; exact h.pc, by rw [f _ (by omega) (by omega)]; exact h.pp, h6, h.ol⟩
theorem LBy.tk {l : List Int} {a i b : Int} (h : LBy μ l a i b) (hab : a ≠ b) (k : Nat) (hk : k ≤ l.length) : LBy (zup μ a i (k : Int)) (l.take k) a i b := by
  refine LBy.mk ⟨by rw [zup_at, List.length_take]; omega, ?_, fun y hy => h.g y (List.mem_of_mem_take hy)⟩
  intro j y hj
  rw [zup_b (fun z => hab z.symm)]
  have hl := (List.getElem?_eq_some_iff.mp hj).1
  rw [List.length_take] at hl
  rw [List.getElem?_take_of_lt (by omega)] at hj
  exact h.v j y hj
end C65
theorem WF.rul {B : Int} {M : zD} (h : WF B M) {i v : Int} (hi : 0 ≤ i ∧ i < 5) (hv : zsv 0 i ≤ v ∧ v ≤ zsv 1 i) : WF B (M.wru (zup1 M.ru i v)) := by
  have e : ∀ j, zup1 M.ru i v j = if j = i then v else M.ru j := fun _ => rfl
  have hc : i = 0 ∨ i = 1 ∨ i = 2 ∨ i = 3 ∨ i = 4 := by omega
  have h0 := h.r0
  have h1 := h.r1
  have h2 := h.r2
  have h3 := h.r3
  have h4 := h.r4
  rcases hc with z | z | z | z | z <;> subst z
  · have hv' : 0 ≤ v ∧ v ≤ 20 := hv
    exact WF.mk ⟨h.B0, h.tm, h.al, h.wl, hv', h1, h2, h3, h4, h.Tr, h.Ti, h.Ts, h.Ta, h.li, h.lz, h.nd, h.qu, h.ql, h.an, h.wn, h.ai⟩
  · have hv' : 0 ≤ v ∧ v ≤ 50 := hv
    exact WF.mk ⟨h.B0, h.tm, h.al, h.wl, h0, hv', h2, h3, h4, h.Tr, h.Ti, h.Ts, h.Ta, h.li, h.lz, h.nd, h.qu, h.ql, h.an, h.wn, h.ai⟩
  · have hv' : 0 ≤ v ∧ v ≤ 10 := hv
    exact WF.mk ⟨h.B0, h.tm, h.al, h.wl, h0, h1, hv', h3, h4, h.Tr, h.Ti, h.Ts, h.Ta, h.li, h.lz, h.nd, h.qu, h.ql, h.an, h.wn, h.ai⟩
  · have hv' : 1 ≤ v ∧ v ≤ 99 := hv
    exact WF.mk ⟨h.B0, h.tm, h.al, h.wl, h0, h1, h2, hv', h4, h.Tr, h.Ti, h.Ts, h.Ta, h.li, h.lz, h.nd, h.qu, h.ql, h.an, h.wn, h.ai⟩
  · have hv' : 1 ≤ v ∧ v ≤ 3 := hv
    exact WF.mk ⟨h.B0, h.tm, h.al, h.wl, h0, h1, h2, h3, hv', h.Tr, h.Ti, h.Ts, h.Ta, h.li, h.lz, h.nd, h.qu, h.ql, h.an, h.wn, h.ai⟩
