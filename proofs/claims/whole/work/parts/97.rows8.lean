/-! ROWS 8: pieces of the law's body -/
def zQ1 : zR × zS → Prop := fun r => r.1 = .inl 1
def zbz (v : Int) : Int := if v = 0 then 0 else 1
theorem z_yes {c : Prop} {d : Decidable c} {σ : zS} (hc : c) : zo (@ite _ c d (some ((.inl 1 : zR), σ)) none) zQ1 := ⟨_, if_pos hc, rfl⟩
theorem z_br {c : Int} {σ : zS} : zo (if c = 0 then (if c = 0 then some ((.inl 1 : zR), σ) else none) else (if c ≠ 0 then some ((.inl 1 : zR), σ) else none)) zQ1 := by
  by_cases h : c = 0
  · rw [if_pos h, if_pos h]; exact ⟨_, rfl, rfl⟩
  · rw [if_neg h, if_pos h]; exact ⟨_, rfl, rfl⟩
theorem zlc_eq {a b : Int} (h : a = b) : zlc a b = 0 := by rw [h]; unfold zlc; rw [if_neg (by omega), if_pos rfl]
section ZR9
variable {g : zF} {K : zY} {R : Room} {L : List (Nat × zV)} {S : List zV} {σ : zS} {C D : Nat} {pc : Nat}
theorem r_scrk {i : Int} {k : Nat} (j0 j5 : Nat) (hL9 : zsl9 g ≤ 3072) (hi : 0 ≤ i) (hk : i + k < (zsl9 g : Int)) (d0 : decode K.2.1 pc = .ok (.aload_n 0, 1)) (h0 : L[j0]? = some (0, (6, 200))) (d1 : decode K.2.1 (pc + 1) = .ok (.iload 5, 2)) (h5 : L[j5]? = some (5, (0, i))) (d2 : decode K.2.1 (pc + 3) = .ok (.iconst (k : Int), 1)) (d3 : decode K.2.1 (pc + 4) = .ok (.iadd, 1)) (d4 : decode K.2.1 (pc + 5) = .ok (.iaload, 1)) (kk : zw g K R (pc + 6) L ((0, zscr g (i.toNat + k)) :: S) σ C D zQ1) : zw g K R pc L S σ C D zQ1 := by
  refine r_aload_n (k := 0) (t := 2) (x := 200) j0 d0 h0 ?_
  refine r_iload j5 d1 h5 ?_
  refine r_iconst (v := (k : Int)) d2 rfl (decide_eq_true (by omega)) ?_
  refine r_iadd d3 ?_
  rw [w32_id (by unfold zI; omega)]
  refine r_scrld (F := fun x => if x = zscr g (i.toNat + k) then some ((.inl 1 : zR), σ) else none) (by omega) d4 ?_ (fun x h => ?_)
  · rw [if_pos ⟨by omega, hk⟩]
    have e : (i + (k : Int)).toNat = i.toNat + k := by omega
    rw [e]
    exact z_yes rfl
  · rw [zite_p h]
    exact kk
theorem r_bnz {a off off2 : Int} (tgt jt : Nat) (d0 : decode K.2.1 pc = .ok (.ifCond .eq off, 3)) (h0 : (pc : Int) + off = (tgt : Int)) (d1 : decode K.2.1 (pc + 3) = .ok (.iconst 1, 1)) (d2 : decode K.2.1 (pc + 4) = .ok (.goto off2, 3)) (h2 : ((pc + 4 : Nat) : Int) + off2 = (jt : Int)) (d3 : decode K.2.1 tgt = .ok (.iconst 0, 1)) (h3 : tgt + 1 = jt) (kk : zw g K R jt L ((0, zbz a) :: S) σ C D zQ1) : zw g K R pc L ((0, a) :: S) σ C D zQ1 := by
  refine r_if_eq tgt d0 h0 (z_br (σ := σ)) (fun h => ?_) (fun h => ?_)
  · refine r_iconst (v := 0) d3 rfl rfl ?_
    rw [h3]
    rw [show zbz a = 0 from if_pos (zite_p h)] at kk
    exact kk
  · refine r_iconst (v := 1) d1 rfl rfl ?_
    refine r_goto jt d2 h2 ?_
    rw [show zbz a = 1 from if_neg (zite_p h)] at kk
    exact kk
theorem r_lbnz {a off off2 : Int} (tgt jt : Nat) (d0 : decode K.2.1 pc = .ok (.ifCond .eq off, 3)) (h0 : (pc : Int) + off = (tgt : Int)) (d1 : decode K.2.1 (pc + 3) = .ok (.lconst 1, 1)) (d2 : decode K.2.1 (pc + 4) = .ok (.goto off2, 3)) (h2 : ((pc + 4 : Nat) : Int) + off2 = (jt : Int)) (d3 : decode K.2.1 tgt = .ok (.lconst 0, 1)) (h3 : tgt + 1 = jt) (kk : zw g K R jt L ((1, zbz a) :: S) σ C D zQ1) : zw g K R pc L ((0, a) :: S) σ C D zQ1 := by
  refine r_if_eq tgt d0 h0 (z_br (σ := σ)) (fun h => ?_) (fun h => ?_)
  · refine r_lconst (n := 0) d3 ?_
    rw [h3]
    rw [show zbz a = 0 from if_pos (zite_p h)] at kk
    exact kk
  · refine r_lconst (n := 1) d1 ?_
    refine r_goto jt d2 h2 ?_
    rw [show zbz a = 1 from if_neg (zite_p h)] at kk
    exact kk
end ZR9
/-- a call of the model's that answers -/
def zpm (F8 : zS → zFn) (m : Int) (τ : zS) (K : Int → zS → Prop) : Prop := τ.1.1 m = some (0, 8) ∧ ∃ b τ1, F8 τ = some (.inl b, τ1) ∧ K b τ1
