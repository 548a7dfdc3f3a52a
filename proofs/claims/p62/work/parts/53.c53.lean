/-! C 53: the model lays a belief -/
theorem zent_has {w x : Int} : ∀ (l : List zP) (k j : Nat) (p : zP), l[j]? = some p → (p 3 = w ∧ ¬ p 1 = x) → (k + j, p) ∈ zent w x l k := by
  intro l
  induction l with
  | nil => intro k j p h; cases h
  | cons q s ih =>
    intro k j p h hr
    rw [zent_c]
    cases j with
    | zero =>
      have e : q = p := Option.some.inj h
      rw [e, if_pos hr]
      exact List.mem_cons_self ..
    | succ j =>
      have h1 := ih (k + 1) j p h hr
      have e : k + 1 + j = k + (j + 1) := by omega
      rw [e] at h1
      split
      · exact List.mem_cons_of_mem _ h1
      · exact h1
theorem rel_dis {B : Int} {M : zD} (W : WF B M) {a : Int} {i j : Nat} {p q : zP} (hi : (M.li a)[i]? = some p) (hj : (M.li a)[j]? = some q) (hw : p 3 = q 3) (hij : i ≠ j) : p 0 ≠ q 0 := by
  have hnd := List.pairwise_iff_getElem.mp (W.nd a)
  obtain ⟨j1, j2⟩ := List.getElem?_eq_some_iff.mp hj
  obtain ⟨i1, i2⟩ := List.getElem?_eq_some_iff.mp hi
  rcases Nat.lt_or_gt_of_ne hij with hlt | hlt
  · have h5 := hnd i j i1 j1 hlt
    rw [j2, i2] at h5
    exact fun z => h5 ⟨z, hw⟩
  · have h5 := hnd j i j1 i1 hlt
    rw [j2, i2] at h5
    exact fun z => h5 ⟨z.symm, hw.symm⟩
section C53
variable {S : zG} {μ μ' : zM} {m A B a w x : Int} {M X : zD} {Q : zR × zS → Prop} {s : zBs}
theorem zst0_row (W : WF B M) {k : Nat} {p : zP} (hk : (M.li a)[k]? = some p) (hr : p 3 = w ∧ ¬ p 1 = x) : zst0 M a (zent w x (M.li a) 0) (p 0) = 3 - zbl (M.out a p) := by
  have h1 := zent_has (M.li a) 0 k p hk hr
  obtain ⟨i, hi⟩ := List.getElem?_of_mem h1
  exact zst0_mem (zent_dis W a w x) hi
end C53
