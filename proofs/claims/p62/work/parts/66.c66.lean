/-! C 66: links, rules, keeping, restoring, undoing, the input -/
theorem zo_for {β : Type} {F : Nat → Nat → β → zM → zFn} {Q : zR × zS → Prop} {N : Nat} {st : Nat → β → β} {c0 : β} {μ0 : zM} (I : Nat → β → Prop) (R : zM → Prop)
    (step : ∀ n k c μ2, k ≤ N → I k c → R μ2 → (k < N → ∀ μ3, R μ3 → I (k + 1) (st k c) → zo (F n (k + 1) (st k c) μ3) Q) → (k = N → zlp st 0 N c0 = c) → zo (F (n + 1) k c μ2) Q) (hI : I 0 c0) (hR : R μ0) {m : Nat} (hm : N < m) : zo (F m 0 c0 μ0) Q := by
  have key : ∀ (j k : Nat) (c : β) (μ2 : zM) (m : Nat), k + j = N → j < m → I k c → R μ2 → zlp st k j c = zlp st 0 N c0 → zo (F m k c μ2) Q := by
    intro j
    induction j with
    | zero =>
      intro k c μ2 m hk hm hI hR hz
      cases m with
      | zero => exact absurd hm (by omega)
      | succ m => exact step m k c μ2 (by omega) hI hR (fun h => absurd h (by omega)) (fun _ => hz.symm)
    | succ j ih =>
      intro k c μ2 m hk hm hI hR hz
      cases m with
      | zero => exact absurd hm (by omega)
      | succ m => exact step m k c μ2 (by omega) hI hR (fun _ μ3 h3 h4 => ih (k + 1) (st k c) μ3 m (by omega) (by omega) h4 h3 hz) (fun h => absurd h (by omega))
  exact key N 0 c0 μ0 m (by omega) hm hI hR rfl
theorem zo_fon {β : Type} {F : Nat → Nat → β → zFn} {Q : zR × zS → Prop} {N : Nat} {st : Nat → β → β} {c0 : β} (I : Nat → β → Prop)
    (step : ∀ n k c, k ≤ N → I k c → (k < N → I (k + 1) (st k c) → zo (F n (k + 1) (st k c)) Q) → (k = N → zlp st 0 N c0 = c) → zo (F (n + 1) k c) Q) (hI : I 0 c0) {m : Nat} (hm : N < m) : zo (F m 0 c0) Q :=
  zo_for (F := fun n k c (_ : zM) => F n k c) (μ0 := fun _ _ => 0) I (fun _ => True) (fun n k c _ h1 h2 _ h3 h4 => step n k c h1 h2 (fun h5 h6 => h3 h5 (fun _ _ => 0) True.intro h6) h4) hI True.intro hm
section C66
variable {S S' : zG} {μ μ' μ1 : zM} {x m B A Z : Int} {M M' X : zD} {L L' : List zD} {K : zKs} {inp out inp' out' : List Int} {c p : Int} {r : Nat → Int} {P : zG → zM → Prop} {Q : zR × zS → Prop}
theorem WF.lnk (h : WF B M) {a o v : Int} (ha : 0 ≤ a ∧ a < (M.an.length : Int)) (ho : 0 ≤ o ∧ o < (M.an.length : Int)) (hao : ¬ a = o) (hv : -1 ≤ v ∧ v ≤ 10) : WF B (M.wT (zup2 (zup2 M.T a o v) o a v)) := by
  have e1 : ∀ i j, (i = o ∧ j = a) ∨ (i = a ∧ j = o) → zup2 (zup2 M.T a o v) o a v i j = v := by
    intro i j hij
    show (if i = o ∧ j = a then v else if i = a ∧ j = o then v else M.T i j) = v
    by_cases c1 : i = o ∧ j = a
    · exact if_pos c1
    · rw [if_neg c1]
      exact if_pos (hij.resolve_left c1)
  have e2 : ∀ i j, ¬ ((i = o ∧ j = a) ∨ (i = a ∧ j = o)) → zup2 (zup2 M.T a o v) o a v i j = M.T i j := by
    intro i j hij
    show (if i = o ∧ j = a then v else if i = a ∧ j = o then v else M.T i j) = M.T i j
    rw [if_neg (fun z => hij (Or.inl z)), if_neg (fun z => hij (Or.inr z))]
  have cs : ∀ i j, ((i = o ∧ j = a) ∨ (i = a ∧ j = o)) ∨ ¬ ((i = o ∧ j = a) ∨ (i = a ∧ j = o)) := fun i j => Classical.em _
  refine WF.mk ⟨h.B0, h.tm, h.al, h.wl, h.r0, h.r1, h.r2, h.r3, h.r4, ?_, ?_, ?_, ?_, h.li, h.lz, h.nd, h.qu, h.ql, h.an, h.wn, h.ai⟩
  · intro i j
    show -1 ≤ zup2 (zup2 M.T a o v) o a v i j ∧ zup2 (zup2 M.T a o v) o a v i j ≤ 10
    rcases cs i j with q | q
    · rw [e1 i j q]; omega
    · rw [e2 i j q]; exact h.Tr i j
  · intro i
    show zup2 (zup2 M.T a o v) o a v i i = -1
    rw [e2 i i (by omega)]
    exact h.Ti i
  · intro i j hij
    have hij' : zup2 (zup2 M.T a o v) o a v i j = -1 := hij
    show zup2 (zup2 M.T a o v) o a v j i = -1
    rcases cs i j with q | q
    · rw [e1 j i (by omega)]
      rw [e1 i j q] at hij'
      exact hij'
    · rw [e2 j i (by omega)]
      rw [e2 i j q] at hij'
      exact h.Ts i j hij'
  · intro i j hij
    have hij' : ¬ zup2 (zup2 M.T a o v) o a v i j = -1 := hij
    show 0 ≤ i ∧ i < (M.an.length : Int) ∧ 0 ≤ j ∧ j < (M.an.length : Int)
    rcases cs i j with q | q
    · omega
    · rw [e2 i j q] at hij'
      exact h.Ta i j hij'
end C66
theorem zo_sa {k : Nat} {i : Int} {F : Int → zFn} {Q : zR × zS → Prop} (hi : 0 ≤ i ∧ i < 5) (q : zo (F (zsv k i)) Q) : zo (zsa k i F) Q := zo_pos hi q
theorem k_rv {w v : Int} {σ : zS} : f_X7_isRuleValue w v σ = some (.inl (zbl ((0 ≤ w ∧ w < 5) ∧ (zsv 0 w ≤ v ∧ v ≤ zsv 1 w))), σ) := by
  apply zo_un
  refine j_X7_isRuleValue ?_
  refine zo_ite (fun z1 => zo_rt (by rw [zbl_n (by omega)])) (fun z1 => ?_)
  refine zo_ite (fun z2 => ?_) (fun z2 => zo_rt (by rw [zbl_n (by omega)]))
  refine zo_sa ⟨by omega, z2⟩ ?_
  refine zo_ite (fun z3 => zo_rt (by rw [zbl_n (by omega)])) (fun z3 => ?_)
  refine zo_sa ⟨by omega, z2⟩ ?_
  refine zo_ite (fun z4 => zo_rt (by rw [zbl_n (by omega)])) (fun z4 => zo_rt (by rw [zbl_p (by omega)]))
