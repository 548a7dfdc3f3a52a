/-! C 45: what the view tells -/
def zbc (a0 : Int) : Int := zand (w32 ((w32 ((zand (w32 ((w32 ((zand (w32 (a0 - (zand (zush a0 1) 1431655765))) 858993459) + (zand (zush (w32 (a0 - (zand (zush a0 1) 1431655765))) 2) 858993459))) + (zush (w32 ((zand (w32 (a0 - (zand (zush a0 1) 1431655765))) 858993459) + (zand (zush (w32 (a0 - (zand (zush a0 1) 1431655765))) 2) 858993459))) 4))) 252645135) + (zush (zand (w32 ((w32 ((zand (w32 (a0 - (zand (zush a0 1) 1431655765))) 858993459) + (zand (zush (w32 (a0 - (zand (zush a0 1) 1431655765))) 2) 858993459))) + (zush (w32 ((zand (w32 (a0 - (zand (zush a0 1) 1431655765))) 858993459) + (zand (zush (w32 (a0 - (zand (zush a0 1) 1431655765))) 2) 858993459))) 4))) 252645135) 8))) + (zush (w32 ((zand (w32 ((w32 ((zand (w32 (a0 - (zand (zush a0 1) 1431655765))) 858993459) + (zand (zush (w32 (a0 - (zand (zush a0 1) 1431655765))) 2) 858993459))) + (zush (w32 ((zand (w32 (a0 - (zand (zush a0 1) 1431655765))) 858993459) + (zand (zush (w32 (a0 - (zand (zush a0 1) 1431655765))) 2) 858993459))) 4))) 252645135) + (zush (zand (w32 ((w32 ((zand (w32 (a0 - (zand (zush a0 1) 1431655765))) 858993459) + (zand (zush (w32 (a0 - (zand (zush a0 1) 1431655765))) 2) 858993459))) + (zush (w32 ((zand (w32 (a0 - (zand (zush a0 1) 1431655765))) 858993459) + (zand (zush (w32 (a0 - (zand (zush a0 1) 1431655765))) 2) 858993459))) 4))) 252645135) 8))) 16))) 63
theorem c_bits {a0 : Int} {σ : zS} : f_J6_bitCount_0f7a4 a0 σ = some (.inl (zbc a0), σ) := rfl
def zws (s : zBs) (t : Int) : zEn → Int → Int
  | [], c => c
  | e :: r, c => zws s t r (if s.1 (e.2 0) = t then zor c (zshl 1 (e.2 0)) else c)
def zso (s : zBs) (k : Nat) : zEn → Int
  | [] => 2
  | e :: r => if e.1 = k then s.1 (e.2 0) else zso s k r
def zard (M : zD) (a : Int) (s : zBs) (n : Int) : zEn → Int → Int
  | [], c => c
  | e :: r, c => zard M a s n r (if ¬ s.1 (e.2 0) = 2 ∧ M.lo a e.2 ≤ n ∧ n ≤ M.hi a e.2 then zor c (zshl 1 (e.2 0)) else c)
def zlg (M : zD) (a : Int) (s : zBs) (X : zEn) : zEn → Int → Int
  | [], c => c
  | e :: r, c => zlg M a s X r (
    if 0 < w32 (zbc (if s.1 (e.2 0) = 2 then 0 else zard M a s (M.lo a e.2) X 0) - zbc c) ∨ (w32 (zbc (if s.1 (e.2 0) = 2 then 0 else zard M a s (M.lo a e.2) X 0) - zbc c) = 0 ∧ (if s.1 (e.2 0) = 2 then 0 else zard M a s (M.lo a e.2) X 0) < c) then (if s.1 (e.2 0) = 2 then 0 else zard M a s (M.lo a e.2) X 0) else c)
noncomputable def zlw (M : zD) (a : Int) (t : Int) : zEn → Int → Int
  | [], c => c
  | e :: r, c => zlw M a t r (@ite _ (zct t (e.2 0)) (zctD t (e.2 0)) (max c (M.lo a e.2)) c)
noncomputable def zhg (M : zD) (a : Int) (t : Int) : zEn → Int → Int
  | [], c => c
  | e :: r, c => zhg M a t r (@ite _ (zct t (e.2 0)) (zctD t (e.2 0)) (min c (M.hi a e.2)) c)
theorem c_cont {s i : Int} {σ : zS} : f_X7_contains s i σ = some (.inl (zbl (zct s i)), σ) := by
  rw [c_contains]
  by_cases h : zct s i
  · rw [if_pos h, zbl_p h]
  · rw [if_neg h, zbl_n h]
section C45
variable {S : zG} {μ μ' μ1 : zM} {d B a v w x t : Int} {M : zD} {Q : zR × zS → Prop} {X : zEn} {s : zBs}
theorem c_originsWith (V : VSh S v) (h : VRel M a μ v X s) : f_X6_originsWith v t (S, μ) = some (.inl (zws s t X 0), (S, μ)) := by
  have hn := h.n
  apply zo_un
  refine j_X6_originsWith ?_
  refine zo_l2 (F := fun m (k : Nat) (c : Int) => f_X6_originsWith_4 m v t c (k : Int) (S, μ)) (fun k c => k ≤ X.length ∧ zws s t (X.drop k) c = zws s t X 0) (fun k _ => X.length - k) ?_ zFU 0 0 ⟨by omega, rfl⟩ (by show X.length - 0 < 1000000; omega)
  rintro m k c ⟨hk, hz⟩ ih
  refine j_X6_originsWith_4 ?_
  refine zo_gf V.o h.c (by omega) (by omega) ?_
  by_cases e : k < X.length
  · obtain ⟨⟨r, p⟩, hp, hd, hpm⟩ := drop_cons e
    have hz' : zws s t (X.drop (k + 1)) (if s.1 (p 0) = t then zor c (zshl 1 (p 0)) else c) = zws s t X 0 := by rw [← hz, hd]; rfl
    refine zo_pos (by omega) ?_
    refine zo_pos (by omega) ?_
    refine zo_gr V.o V.r5 (by omega) (by omega) ?_
    refine zo_ld V.a5 (by omega) (h.e5 k r p hp) ?_
    by_cases ht : s.1 (p 0) = t
    · rw [if_pos ht] at hz'
      refine zo_pos ht ?_
      refine zo_gr V.o V.r1 (by omega) (by omega) ?_
      refine zo_ld V.a1 (by omega) (h.e1 k r p hp) ?_
      refine j_X6_originsWith_39 ?_
      rw [w32_s (k := k) (by omega)]
      exact ih (k + 1) _ ⟨by omega, hz'⟩ (by omega)
    · rw [if_neg ht] at hz'
      refine zo_neg ht ?_
      refine j_X6_originsWith_39 ?_
      rw [w32_s (k := k) (by omega)]
      exact ih (k + 1) _ ⟨by omega, hz'⟩ (by omega)
  · refine zo_neg (by omega) ?_
    have e1 : k = X.length := by omega
    rw [e1, List.drop_length] at hz
    exact zo_rt (by rw [← hz]; rfl)
theorem c_statusOf {r0 : Nat} (V : VSh S v) (h : VRel M a μ v X s) : f_X6_statusOf v (r0 : Int) (S, μ) = some (.inl (zso s r0 X), (S, μ)) := by
  have hn := h.n
  apply zo_un
  refine j_X6_statusOf ?_
  refine zo_l1 (F := fun m (k : Nat) => f_X6_statusOf_2 m v (r0 : Int) (k : Int) (S, μ)) (fun k => k ≤ X.length ∧ zso s r0 (X.drop k) = zso s r0 X) (fun k => X.length - k) ?_ zFU 0 ⟨by omega, rfl⟩ (by show X.length - 0 < 1000000; omega)
  rintro m k ⟨hk, hz⟩ ih
  refine j_X6_statusOf_2 ?_
  refine zo_gf V.o h.c (by omega) (by omega) ?_
  by_cases e : k < X.length
  · obtain ⟨⟨r, p⟩, hp, hd, hpm⟩ := drop_cons e
    have hz' : (if r = r0 then s.1 (p 0) else zso s r0 (X.drop (k + 1))) = zso s r0 X := by rw [← hz, hd]; rfl
    refine zo_pos (by omega) ?_
    refine zo_pos (by omega) ?_
    refine zo_gr V.o V.r0 (by omega) (by omega) ?_
    refine zo_ld V.a0 (by omega) (h.e0 k r p hp) ?_
    by_cases ht : r = r0
    · rw [if_pos ht] at hz'
      refine zo_pos (by omega) ?_
      refine zo_gr V.o V.r5 (by omega) (by omega) ?_
      refine zo_ld V.a5 (by omega) (h.e5 k r p hp) ?_
      exact zo_rt (by rw [hz'])
    · rw [if_neg ht] at hz'
      refine zo_neg (by omega) ?_
      rw [w32_s (k := k) (by omega)]
      exact ih (k + 1) ⟨by omega, hz'⟩ (by omega)
  · refine zo_neg (by omega) ?_
    have e1 : k = X.length := by omega
    rw [e1, List.drop_length] at hz
    exact zo_rt (by rw [← hz]; rfl)
theorem c_around {n : Int} (V : VSh S v) (h : VRel M a μ v X s) : f_X6_originsAround v n (S, μ) = some (.inl (zard M a s n X 0), (S, μ)) := by
  have hn := h.n
  apply zo_un
  refine j_X6_originsAround ?_
  refine zo_l2 (F := fun m (k : Nat) (c : Int) => f_X6_originsAround_4 m v n c (k : Int) (S, μ)) (fun k c => k ≤ X.length ∧ zard M a s n (X.drop k) c = zard M a s n X 0) (fun k _ => X.length - k) ?_ zFU 0 0 ⟨by omega, rfl⟩ (by show X.length - 0 < 1000000; omega)
  rintro m k c ⟨hk, hz⟩ ih
  refine j_X6_originsAround_4 ?_
  refine zo_gf V.o h.c (by omega) (by omega) ?_
  by_cases e : k < X.length
  · obtain ⟨⟨r, p⟩, hp, hd, hpm⟩ := drop_cons e
    have hz' : zard M a s n (X.drop (k + 1)) (if ¬ s.1 (p 0) = 2 ∧ M.lo a p ≤ n ∧ n ≤ M.hi a p then zor c (zshl 1 (p 0)) else c) = zard M a s n X 0 := by rw [← hz, hd]; rfl
    have go : ∀ c', (if ¬ s.1 (p 0) = 2 ∧ M.lo a p ≤ n ∧ n ≤ M.hi a p then zor c (zshl 1 (p 0)) else c) = c' → zo (f_X6_originsAround_59 (f_X6_originsAround_4 m) v n c' (k : Int) (S, μ)) (fun x => x = (.inl (zard M a s n X 0), (S, μ))) := by
      intro c' hc
      rw [hc] at hz'
      refine j_X6_originsAround_59 ?_
      rw [w32_s (k := k) (by omega)]
      exact ih (k + 1) c' ⟨by omega, hz'⟩ (by omega)
    refine zo_pos (by omega) ?_
    refine zo_pos (by omega) ?_
    refine zo_gr V.o V.r5 (by omega) (by omega) ?_
    refine zo_ld V.a5 (by omega) (h.e5 k r p hp) ?_
    refine zo_ite (fun h2 => go _ (if_neg (fun z => z.1 h2))) (fun h2 => ?_)
    refine zo_gr V.o V.r3 (by omega) (by omega) ?_
    refine zo_ld V.a3 (by omega) (h.e3 k r p hp) ?_
    refine zo_ite (fun h3 => go _ (if_neg (fun z => absurd z.2.1 (by omega)))) (fun h3 => ?_)
    refine zo_gr V.o V.r4 (by omega) (by omega) ?_
    refine zo_ld V.a4 (by omega) (h.e4 k r p hp) ?_
    refine zo_ite (fun h4 => go _ (if_neg (fun z => absurd z.2.2 (by omega)))) (fun h4 => ?_)
    refine zo_gr V.o V.r1 (by omega) (by omega) ?_
    refine zo_ld V.a1 (by omega) (h.e1 k r p hp) ?_
    exact go _ (if_pos ⟨h2, by omega, by omega⟩)
  · refine zo_neg (by omega) ?_
    have e1 : k = X.length := by omega
    rw [e1, List.drop_length] at hz
    exact zo_rt (by rw [← hz]; rfl)
theorem c_largest (V : VSh S v) (h : VRel M a μ v X s) : f_X6_largestSet v (S, μ) = some (.inl (zlg M a s X X 0), (S, μ)) := by
  have hn := h.n
  apply zo_un
  refine j_X6_largestSet ?_
  refine zo_l2 (F := fun m (k : Nat) (c : Int) => f_X6_largestSet_4 m v c (k : Int) (S, μ)) (fun k c => k ≤ X.length ∧ zlg M a s X (X.drop k) c = zlg M a s X X 0) (fun k _ => X.length - k) ?_ zFU 0 0 ⟨by omega, rfl⟩ (by show X.length - 0 < 1000000; omega)
  rintro m k c ⟨hk, hz⟩ ih
  refine j_X6_largestSet_4 ?_
  refine zo_gf V.o h.c (by omega) (by omega) ?_
  by_cases e : k < X.length
  · obtain ⟨⟨r, p⟩, hp, hd, hpm⟩ := drop_cons e
    have hz1 : ∀ u, (if s.1 (p 0) = 2 then 0 else zard M a s (M.lo a p) X 0) = u → zlg M a s X (X.drop (k + 1)) (if 0 < w32 (zbc u - zbc c) ∨ (w32 (zbc u - zbc c) = 0 ∧ u < c) then u else c) = zlg M a s X X 0 := by
      intro u hu
      rw [← hz, hd, ← hu]
      rfl
    have go : ∀ u, (if s.1 (p 0) = 2 then 0 else zard M a s (M.lo a p) X 0) = u → zo (f_X6_largestSet_42 (f_X6_largestSet_4 m) v c (k : Int) u (S, μ)) (fun x => x = (.inl (zlg M a s X X 0), (S, μ))) := by
      intro u hu
      have hz2 := hz1 u hu
      refine j_X6_largestSet_42 ?_
      refine zo_bn c_bits ?_
      refine zo_bn c_bits ?_
      by_cases h1 : 0 < w32 (zbc u - zbc c)
      · refine zo_pos h1 ?_
        refine j_X6_largestSet_69 ?_
        refine j_X6_largestSet_71 ?_
        rw [if_pos (Or.inl h1)] at hz2
        rw [w32_s (k := k) (by omega)]
        exact ih (k + 1) u ⟨by omega, hz2⟩ (by omega)
      · refine zo_neg h1 ?_
        by_cases h2 : w32 (zbc u - zbc c) = 0
        · refine zo_pos h2 ?_
          by_cases h3 : u < c
          · refine zo_pos h3 ?_
            refine j_X6_largestSet_69 ?_
            refine j_X6_largestSet_71 ?_
            rw [if_pos (Or.inr ⟨h2, h3⟩)] at hz2
            rw [w32_s (k := k) (by omega)]
            exact ih (k + 1) u ⟨by omega, hz2⟩ (by omega)
          · refine zo_neg h3 ?_
            refine j_X6_largestSet_71 ?_
            rw [if_neg (fun z => z.elim h1 (fun y => h3 y.2))] at hz2
            rw [w32_s (k := k) (by omega)]
            exact ih (k + 1) c ⟨by omega, hz2⟩ (by omega)
        · refine zo_neg h2 ?_
          refine j_X6_largestSet_71 ?_
          rw [if_neg (fun z => z.elim h1 (fun y => h2 y.1))] at hz2
          rw [w32_s (k := k) (by omega)]
          exact ih (k + 1) c ⟨by omega, hz2⟩ (by omega)
    refine zo_pos (by omega) ?_
    refine zo_pos (by omega) ?_
    refine zo_gr V.o V.r5 (by omega) (by omega) ?_
    refine zo_ld V.a5 (by omega) (h.e5 k r p hp) ?_
    refine zo_ite (fun h2 => go _ (if_pos h2)) (fun h2 => ?_)
    refine zo_gr V.o V.r3 (by omega) (by omega) ?_
    refine zo_ld V.a3 (by omega) (h.e3 k r p hp) ?_
    refine zo_ob V.o (by omega) ?_
    refine zo_bn (c_around V h) ?_
    exact go _ (if_neg h2)
  · refine zo_neg (by omega) ?_
    have e1 : k = X.length := by omega
    rw [e1, List.drop_length] at hz
    exact zo_rt (by rw [← hz]; rfl)
theorem c_lowOf (V : VSh S v) (h : VRel M a μ v X s) : f_X6_lowOf v t (S, μ) = some (.inl (zlw M a t X 0), (S, μ)) := by
  have hn := h.n
  apply zo_un
  refine j_X6_lowOf ?_
  refine zo_l2 (F := fun m (k : Nat) (c : Int) => f_X6_lowOf_4 m v t c (k : Int) (S, μ)) (fun k c => k ≤ X.length ∧ zlw M a t (X.drop k) c = zlw M a t X 0) (fun k _ => X.length - k) ?_ zFU 0 0 ⟨by omega, rfl⟩ (by show X.length - 0 < 1000000; omega)
  rintro m k c ⟨hk, hz⟩ ih
  refine j_X6_lowOf_4 ?_
  refine zo_gf V.o h.c (by omega) (by omega) ?_
  by_cases e : k < X.length
  · obtain ⟨⟨r, p⟩, hp, hd, hpm⟩ := drop_cons e
    have hz' : zlw M a t (X.drop (k + 1)) (@ite _ (zct t (p 0)) (zctD t (p 0)) (max c (M.lo a p)) c) = zlw M a t X 0 := by rw [← hz, hd]; rfl
    refine zo_pos (by omega) ?_
    refine zo_pos (by omega) ?_
    refine zo_gr V.o V.r1 (by omega) (by omega) ?_
    refine zo_ld V.a1 (by omega) (h.e1 k r p hp) ?_
    refine zo_bn c_cont ?_
    refine zo_zb (fun h2 => ?_) (fun h2 => ?_)
    · rw [if_neg h2] at hz'
      refine j_X6_lowOf_42 ?_
      rw [w32_s (k := k) (by omega)]
      exact ih (k + 1) _ ⟨by omega, hz'⟩ (by omega)
    · rw [if_pos h2] at hz'
      refine zo_gr V.o V.r3 (by omega) (by omega) ?_
      refine zo_ld V.a3 (by omega) (h.e3 k r p hp) ?_
      refine j_X6_lowOf_42 ?_
      rw [w32_s (k := k) (by omega)]
      exact ih (k + 1) _ ⟨by omega, hz'⟩ (by omega)
  · refine zo_neg (by omega) ?_
    have e1 : k = X.length := by omega
    rw [e1, List.drop_length] at hz
    exact zo_rt (by rw [← hz]; rfl)
theorem c_highOf (V : VSh S v) (h : VRel M a μ v X s) : f_X6_highOf v t (S, μ) = some (.inl (zhg M a t X 999), (S, μ)) := by
  have hn := h.n
  apply zo_un
  refine j_X6_highOf ?_
  refine zo_l2 (F := fun m (k : Nat) (c : Int) => f_X6_highOf_6 m v t c (k : Int) (S, μ)) (fun k c => k ≤ X.length ∧ zhg M a t (X.drop k) c = zhg M a t X 999) (fun k _ => X.length - k) ?_ zFU 0 999 ⟨by omega, rfl⟩ (by show X.length - 0 < 1000000; omega)
  rintro m k c ⟨hk, hz⟩ ih
  refine j_X6_highOf_6 ?_
  refine zo_gf V.o h.c (by omega) (by omega) ?_
  by_cases e : k < X.length
  · obtain ⟨⟨r, p⟩, hp, hd, hpm⟩ := drop_cons e
    have hz' : zhg M a t (X.drop (k + 1)) (@ite _ (zct t (p 0)) (zctD t (p 0)) (min c (M.hi a p)) c) = zhg M a t X 999 := by rw [← hz, hd]; rfl
    refine zo_pos (by omega) ?_
    refine zo_pos (by omega) ?_
    refine zo_gr V.o V.r1 (by omega) (by omega) ?_
    refine zo_ld V.a1 (by omega) (h.e1 k r p hp) ?_
    refine zo_bn c_cont ?_
    refine zo_zb (fun h2 => ?_) (fun h2 => ?_)
    · rw [if_neg h2] at hz'
      refine j_X6_highOf_44 ?_
      rw [w32_s (k := k) (by omega)]
      exact ih (k + 1) _ ⟨by omega, hz'⟩ (by omega)
    · rw [if_pos h2] at hz'
      refine zo_gr V.o V.r4 (by omega) (by omega) ?_
      refine zo_ld V.a4 (by omega) (h.e4 k r p hp) ?_
      refine j_X6_highOf_44 ?_
      rw [w32_s (k := k) (by omega)]
      exact ih (k + 1) _ ⟨by omega, hz'⟩ (by omega)
  · refine zo_neg (by omega) ?_
    have e1 : k = X.length := by omega
    rw [e1, List.drop_length] at hz
    exact zo_rt (by rw [← hz]; rfl)
end C45
