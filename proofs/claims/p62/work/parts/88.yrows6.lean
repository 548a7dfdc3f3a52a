section ZX2
variable {g : zF} {K : zY} {R : Room} {L : List (Nat × zV)} {S : List zV} {σ : zS} {C D : Nat} {Q : zR × zS → Prop} {pc : Nat}
theorem r_slenI {idx : Nat} {j : Int} {F : Int → zFn} (hw : zsl K.1.cls idx) (hh : K.2.2.2.2 = []) (hR : 2 ≤ R.frames ∧ 40 ≤ R.locals) (hcat : ((S.map fun v => if v.1 == 1 || v.1 == 3 then 2 else 1).sum) ≤ 8) (d : decode K.2.1 pc = .ok (.invokevirtual idx, 3)) (h : zo (zslI j F) Q) (kk : ∀ x, zo (F x) Q → zw g K R (pc + 3) L ((0, x) :: S) σ C D Q) : zw g K R pc L ((6, j) :: S) σ C D Q := by
  obtain ⟨h0, h⟩ := zite_o h
  obtain ⟨n, rfl⟩ := Int.eq_ofNat_of_zero_le h0
  exact r_slen hw hh hR hcat d h kk
theorem r_schI {idx : Nat} {j i : Int} {F : Int → zFn} (hw : zsh K.1.cls idx) (hh : K.2.2.2.2 = []) (hR : 4 ≤ R.frames ∧ 100 ≤ R.locals) (hcat : ((S.map fun v => if v.1 == 1 || v.1 == 3 then 2 else 1).sum) ≤ 8) (d : decode K.2.1 pc = .ok (.invokevirtual idx, 3)) (h : zo (zscI j i F) Q) (kk : ∀ x, zo (F x) Q → zw g K R (pc + 3) L ((0, x) :: S) σ C D Q) : zw g K R pc L ((0, i) :: (6, j) :: S) σ C D Q := by
  obtain ⟨h0, h⟩ := zite_o h
  obtain ⟨n, rfl⟩ := Int.eq_ofNat_of_zero_le h0
  exact r_sch hw hh hR hcat d h kk
end ZX2
