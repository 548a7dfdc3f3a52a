/-! C 69: bottlenecks, properties, messages -/
theorem zo_tb {Q : zR × zS → Prop} {a : Int} {A d : zFn} : ∀ (As : List zFn) (lo : Int) (i : Nat), As[i]? = some A → a = lo + (i : Int) → zo A Q → zo (ztb a lo As d) Q
  | [], lo, i, h, _, _ => by simp at h
  | X :: As, lo, 0, h, ha, q => by
    have e : X = A := by simpa using h
    subst e
    show zo (if a = lo then X else ztb a (lo + 1) As d) Q
    exact zo_pos (by omega) q
  | X :: As, lo, i + 1, h, ha, q => by
    show zo (if a = lo then X else ztb a (lo + 1) As d) Q
    exact zo_neg (by omega) (zo_tb As (lo + 1) i (by simpa using h) (by omega) q)
section C69
variable {S S' : zG} {μ μ' μ1 : zM} {x m d B A a o t : Int} {M M' : zD} {L : List zD} {K : zKs} {P : zG → zM → Prop} {Q : zR × zS → Prop}
noncomputable def zD.lks (M : zD) : Int := zlp (fun i c => zlp (fun k c => c + zlk M i (i + 1 + k)) 0 (M.an.length - (i + 1)) c) 0 M.an.length 0
theorem d_linkCount (D : D7 S μ d M) : f_X1_linkCount d (S, μ) = some (.inl M.lks, (S, μ)) := by
  have h60 := D.al
  apply zo_un
  refine j_X1_linkCount ?_
  refine zo_fon (F := fun n (k : Nat) (c : Int) => f_X1_linkCount_4 n d c (k : Int) (S, μ)) (N := M.an.length) (st := fun i c => zlp (fun k c => c + zlk M i (i + 1 + k)) 0 (M.an.length - (i + 1)) c) (c0 := 0) (fun k c => 0 ≤ c ∧ c ≤ 6 * (k : Int)) ?_ (by decide) (by show M.an.length < 1000000; omega)
  intro n i c hi hc ih fin
  refine j_X1_linkCount_4 ?_
  refine zo_gr D.sh.o D.sh.r1 (by omega) (by omega) ?_
  refine zo_gf D.sh.ag.o D.an0 (by omega) (by omega) ?_
  by_cases e : i < M.an.length
  · have ih := ih e
    refine zo_pos (by omega) ?_
    have e1 : w32 ((i : Int) + 1) = ((i + 1 + 0 : Nat) : Int) := by rw [w32_e (by omega)]; rfl
    rw [e1]
    refine zo_fon (F := fun n2 (k : Nat) (c : Int) => f_X1_linkCount_19 (f_X1_linkCount_4 n) n2 d c (i : Int) ((i + 1 + k : Nat) : Int) (S, μ)) (N := M.an.length - (i + 1)) (st := fun k c => c + zlk M i (i + 1 + k)) (c0 := c) (fun k c2 => c ≤ c2 ∧ c2 ≤ c + (k : Int)) ?_ ⟨Int.le_refl _, by show c ≤ c + ((0 : Nat) : Int); omega⟩ (by show M.an.length - (i + 1) < 1000000; omega)
    intro n2 k c2 hk hc2 ih2 fin2
    refine j_X1_linkCount_19 ?_
    refine zo_gr D.sh.o D.sh.r1 (by omega) (by omega) ?_
    refine zo_gf D.sh.ag.o D.an0 (by omega) (by omega) ?_
    by_cases e2 : k < M.an.length - (i + 1)
    · have ih2 := ih2 e2
      have e3 : w32 (((i + 1 + k : Nat) : Int) + 1) = ((i + 1 + (k + 1) : Nat) : Int) := by rw [w32_e (by omega)]; rfl
      refine zo_pos (by omega) ?_
      refine zo_ob D.sh.o (by omega) ?_
      refine zo_bn (d_isLinked D (by omega) (by omega)) ?_
      refine zo_zb (fun z => ?_) (fun z => ?_)
      · have es : zlk M i (i + 1 + k) = 0 := if_pos (Classical.not_not.mp z)
        rw [es, Int.add_zero] at ih2
        refine j_X1_linkCount_42 ?_
        rw [e3]
        exact ih2 (by omega)
      · have es : zlk M i (i + 1 + k) = 1 := if_neg z
        rw [es] at ih2
        refine j_X1_linkCount_42 ?_
        rw [e3, w32_e (show -2147483648 ≤ c2 + 1 ∧ c2 + 1 < 2147483648 by omega)]
        exact ih2 (by omega)
    · refine zo_neg (by omega) ?_
      refine j_X1_linkCount_48 ?_
      have e9 := fin2 (by omega)
      subst e9
      rw [w32_s (k := i) (by omega)]
      exact ih (by omega)
  · refine zo_neg (by omega) ?_
    exact zo_rt (by rw [← fin (by omega)]; rfl)
end C69
noncomputable def zD.prp (M : zD) (w : Int) : Int := if w = 0 then (M.an.length : Int) else if w = 1 then (M.wn.length : Int) else if w = 2 then M.tm else if w = 8 then (M.qu.length : Int) else if w = 9 then M.lks else M.ru (w - 3)
