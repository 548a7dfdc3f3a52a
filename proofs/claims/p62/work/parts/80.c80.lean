/-! C 80: what a text says -/
section C80
variable {S : zG} {μ μ' : zM} {d B : Int} {M X : zD} {g g' : Int → Int} {l : List Int} {t : zTk}
theorem D7.setAn (h : D7 S μ d M) {ns : List (List Int)} (hn : LNm μ' (d + 2) ns) (f : ∀ y, y ≠ d + 2 → y ≠ d + 3 → μ' y = μ y) : D7 S μ' d (M.wan ns) := D7.mk ⟨(h.sh), (h.d0), (hn.n), (h.wl), (h.ll), (h.ql), (fun i h1 h2 => by rw [f _ (by omega) (by omega)]; exact h.ru i h1 h2), (hn.c), (fun k nm hk => by have e := hn.v k nm hk; rw [show d + 2 + 1 = d + 3 by omega] at e; exact e), (by rw [f _ (by omega) (by omega)]; exact h.wn0), (fun k nm hk => by rw [f _ (by omega) (by omega)]; exact h.wn k nm hk), (fun i j h1 h2 h3 h4 => by rw [f _ (by omega) (by omega)]; exact h.T i j h1 h2 h3 h4), (by rw [f _ (by omega) (by omega)]; exact h.em), (fun i h1 h2 => (h.li i h1 h2).frame (fun j => by rw [f _ (by omega) (by omega)]) (fun j => by rw [f _ (by omega) (by omega)])), (h.qu.frame (fun j => by rw [f _ (by omega) (by omega)]) (fun j => by rw [f _ (by omega) (by omega)])), (fun i j h1 h2 h3 h4 => by rw [f _ (by omega) (by omega)]; exact h.ac i j h1 h2 h3 h4), (by rw [f _ (by omega) (by omega)]; exact h.tm)⟩
theorem D7.setWn (h : D7 S μ d M) {ns : List (List Int)} (hn : LNm μ' (d + 4) ns) (f : ∀ y, y ≠ d + 4 → y ≠ d + 5 → μ' y = μ y) : D7 S μ' d (M.wwn ns) := D7.mk ⟨(h.sh), (h.d0), (h.al), (hn.n), (h.ll), (h.ql), (fun i h1 h2 => by rw [f _ (by omega) (by omega)]; exact h.ru i h1 h2), (by rw [f _ (by omega) (by omega)]; exact h.an0), (fun k nm hk => by rw [f _ (by omega) (by omega)]; exact h.an k nm hk), (hn.c), (fun k nm hk => by have e := hn.v k nm hk; rw [show d + 4 + 1 = d + 5 by omega] at e; exact e), (fun i j h1 h2 h3 h4 => by rw [f _ (by omega) (by omega)]; exact h.T i j h1 h2 h3 h4), (by rw [f _ (by omega) (by omega)]; exact h.em), (fun i h1 h2 => (h.li i h1 h2).frame (fun j => by rw [f _ (by omega) (by omega)]) (fun j => by rw [f _ (by omega) (by omega)])), (h.qu.frame (fun j => by rw [f _ (by omega) (by omega)]) (fun j => by rw [f _ (by omega) (by omega)])), (fun i j h1 h2 h3 h4 => by rw [f _ (by omega) (by omega)]; exact h.ac i j h1 h2 h3 h4), (by rw [f _ (by omega) (by omega)]; exact h.tm)⟩
theorem ROk.more {A A' W W' t i : Int} {p : zP} (h : ROk A W t i p) (hA : A ≤ A') (hW : W ≤ W') : ROk A' W' t i p := by
  unfold ROk at *
  omega
theorem QOk.more {A A' W W' t : Int} {p : zP} (h : QOk A W t p) (hA : A ≤ A') (hW : W ≤ W') : QOk A' W' t p := by
  unfold QOk at *
  omega
theorem nodup_snoc {ns : List (List Int)} {nm : List Int} (h : ns.Nodup) (hn : ¬ nm ∈ ns) : (ns ++ [nm]).Nodup := by
  rw [List.nodup_append]
  refine ⟨h, by simp, fun a ha b hb => ?_⟩
  rw [List.mem_singleton.mp hb]
  intro e
  rw [e] at ha
  exact hn ha
theorem WF.addA (h : WF B M) {nm : List Int} (hl : M.an.length < 6) (hn : NOk nm) (hm : ¬ nm ∈ M.an) : WF B (M.wan (M.an ++ [nm])) := by
  have e : ((M.an ++ [nm]).length : Int) = (M.an.length : Int) + 1 := by rw [List.length_append]; rfl
  refine WF.mk ⟨h.B0, h.tm, ?_, h.wl, h.r0, h.r1, h.r2, h.r3, h.r4, h.Tr, h.Ti, h.Ts, ?_, ?_, ?_, h.nd, ?_, h.ql, ⟨nodup_snoc h.an.1 hm, ?_⟩, h.wn, h.ai⟩
  · show (M.an ++ [nm]).length ≤ 6
    omega
  · intro i j hij
    show 0 ≤ i ∧ i < ((M.an ++ [nm]).length : Int) ∧ 0 ≤ j ∧ j < ((M.an ++ [nm]).length : Int)
    have := h.Ta i j hij
    omega
  · intro i p hp
    show ROk ((M.an ++ [nm]).length : Int) _ _ i p
    exact (h.li i p hp).more (by omega) (Int.le_refl _)
  · intro i hi
    have hi' : ¬ (0 ≤ i ∧ i < ((M.an ++ [nm]).length : Int)) := hi
    exact h.lz i (by omega)
  · intro p hp
    show QOk ((M.an ++ [nm]).length : Int) _ _ p
    exact (h.qu p hp).more (by omega) (Int.le_refl _)
  · intro y hy
    rcases List.mem_append.mp hy with z | z
    · exact h.an.2 y z
    · rw [List.mem_singleton.mp z]; exact hn
theorem WF.addW (h : WF B M) {nm : List Int} (hl : M.wn.length < 6) (hn : NOk nm) (hm : ¬ nm ∈ M.wn) : WF B (M.wwn (M.wn ++ [nm])) := by
  have e : ((M.wn ++ [nm]).length : Int) = (M.wn.length : Int) + 1 := by rw [List.length_append]; rfl
  refine WF.mk ⟨h.B0, h.tm, h.al, ?_, h.r0, h.r1, h.r2, h.r3, h.r4, h.Tr, h.Ti, h.Ts, h.Ta, ?_, h.lz, h.nd, ?_, h.ql, h.an, ⟨nodup_snoc h.wn.1 hm, ?_⟩, h.ai⟩
  · show (M.wn ++ [nm]).length ≤ 6
    omega
  · intro i p hp
    show ROk _ ((M.wn ++ [nm]).length : Int) _ i p
    exact (h.li i p hp).more (Int.le_refl _) (by omega)
  · intro p hp
    show QOk _ ((M.wn ++ [nm]).length : Int) _ p
    exact (h.qu p hp).more (Int.le_refl _) (by omega)
  · intro y hy
    rcases List.mem_append.mp hy with z | z
    · exact h.wn.2 y z
    · rw [List.mem_singleton.mp z]; exact hn
theorem wf0 (h : 0 ≤ B) (h2 : B ≤ 1000000) : WF B zD0 := by
  refine WF.mk ⟨h2, ⟨Int.le_refl _, h⟩, by decide, by decide, by decide, by decide, by decide, by decide, by decide, ?_, ?_, ?_, ?_, ?_, ?_, ?_, ?_, by decide, ⟨by decide, ?_⟩, ⟨by decide, ?_⟩, ?_⟩
  · intro i j
    show (-1 : Int) ≤ -1 ∧ (-1 : Int) ≤ 10
    decide
  · intro i; rfl
  · intro i j _; rfl
  · intro i j hij; exact absurd rfl hij
  · intro i p hp; exact absurd (show p ∈ ([] : List zP) from hp) (by simp)
  · intro i _; rfl
  · intro i; exact List.Pairwise.nil
  · intro p hp; exact absurd (show p ∈ ([] : List zP) from hp) (by simp)
  · intro y hy; exact absurd (show y ∈ ([] : List (List Int)) from hy) (by simp)
  · intro y hy; exact absurd (show y ∈ ([] : List (List Int)) from hy) (by simp)
  · intro i j
    show -2147483648 ≤ (0 : Int) ∧ (0 : Int) < 2147483648
    decide
theorem zni_mem {nm : List Int} : ∀ (ns : List (List Int)) (k : Int), 0 ≤ k → (zni nm ns k = -1 ↔ ¬ nm ∈ ns) ∧ (¬ zni nm ns k = -1 → k ≤ zni nm ns k ∧ zni nm ns k < k + (ns.length : Int)) := by
  intro ns
  induction ns with
  | nil => intro k _; exact ⟨⟨fun _ => by simp, fun _ => rfl⟩, fun h => absurd rfl h⟩
  | cons y ns ih =>
    intro k hk
    rw [zni_c, List.length_cons]
    by_cases e : y = nm
    · rw [if_pos e]
      refine ⟨⟨fun z => by omega, fun z => absurd (by rw [e]; exact List.mem_cons_self ..) z⟩, fun _ => by omega⟩
    · rw [if_neg e]
      have h := ih (k + 1) (by omega)
      refine ⟨h.1.trans ⟨fun z w => ?_, fun z w => z (List.mem_cons_of_mem _ w)⟩, fun w => by have := h.2 w; omega⟩
      rcases List.mem_cons.mp w with u | u
      · exact e u.symm
      · exact z u
end C80
def zD.nms (X : zD) : Bool → List (List Int)
  | true => X.an
  | false => X.wn
def zD.ads (X : zD) (nm : List Int) : Bool → zD
  | true => X.wan (X.an ++ [nm])
  | false => X.wwn (X.wn ++ [nm])
noncomputable def pTold (l : List Int) (ns : List (List Int)) (t : zTk) : zEr ⊕ Int := @ite _ (zisN l t) (Classical.propDecidable _) (if zni (znm (zsg l t)) ns 0 = -1 then .inl (3, t.2.1) else .inr (zni (znm (zsg l t)) ns 0)) (.inl (1, t.2.1))
def pBnd {α β : Type} (r : zEr ⊕ α) (f : α → zEr ⊕ β) : zEr ⊕ β := match r with
  | .inl e => .inl e
  | .inr a => f a
abbrev zPr : Type := zEr ⊕ (zTk × zD)
noncomputable def pEnd (l : List Int) (X : zD) (t : zTk) : zPr := pBnd (pSemi l t) fun t2 => .inr (t2, X)
noncomputable def pNew (l : List Int) (ag : Bool) (X : zD) (t : zTk) : zPr := if (X.nms ag).length = 6 then .inl (4, t.2.1) else
  @ite _ (zisN l (ztk l t.2.2)) (Classical.propDecidable _) (if zni (znm (zsg l (ztk l t.2.2))) (X.nms ag) 0 = -1 then pEnd l (X.ads (znm (zsg l (ztk l t.2.2))) ag) (ztk l (ztk l t.2.2).2.2) else .inl (3, (ztk l t.2.2).2.1)) (.inl (1, (ztk l t.2.2).2.1))
noncomputable def pLnk (l : List Int) (X : zD) (i j v : Int) (t : zTk) : zPr := pEnd l (X.wT (zup2 (zup2 X.T i j v) j i v)) t
noncomputable def pLnT (l : List Int) (X : zD) (i j : Int) (t : zTk) : zPr := @ite _ (ziw l t 9) (Classical.propDecidable _) (pBnd (pNum l 0 10 (ztk l t.2.2)) fun t5 => pLnk l X i j (znv (zsg l (ztk l t.2.2))) t5) (pLnk l X i j 5 t)
noncomputable def pLink (l : List Int) (X : zD) (t : zTk) : zPr := pBnd (pTold l X.an (ztk l t.2.2)) fun i => pBnd (pTold l X.an (ztk l (ztk l t.2.2).2.2)) fun j =>
  if j = i ∨ ¬ X.T i j = -1 then .inl (3, (ztk l (ztk l t.2.2).2.2).2.1) else pLnT l X i j (ztk l (ztk l (ztk l t.2.2).2.2).2.2)
noncomputable def pPrN (l : List Int) (X : zD) (i w : Int) (t : zTk) : zPr := pBnd (pNum l 0 999 t) fun t4 => pBnd (pNum l (znv (zsg l t)) 999 t4) fun t5 => pEnd l (X.prb i w (znv (zsg l t)) (znv (zsg l t4))).1 t5
noncomputable def pProbe (l : List Int) (X : zD) (t : zTk) : zPr := pBnd (pTold l X.an (ztk l t.2.2)) fun i => pBnd (pTold l X.wn (ztk l (ztk l t.2.2).2.2)) fun w => pPrN l X i w (ztk l (ztk l (ztk l t.2.2).2.2).2.2)
noncomputable def pStat (l : List Int) (X : zD) (t : zTk) : zPr := @ite _ (ziw l t 6) (Classical.propDecidable _) (pNew l true X t) (@ite _ (ziw l t 7) (Classical.propDecidable _) (pNew l false X t) (@ite _ (ziw l t 8) (Classical.propDecidable _) (pLink l X t) (@ite _ (ziw l t 10) (Classical.propDecidable _) (pProbe l X t) (.inl (1, t.2.1)))))
noncomputable def pRul (l : List Int) (i : Nat) (z : zTk × (Int → Int)) : zEr ⊕ (zTk × (Int → Int)) := pBnd (pWord l (i + 1) z.1) fun t1 => pBnd (pNum l (zsv 0 (i : Int)) (zsv 1 (i : Int)) t1) fun t2 => .inr (t2, zup1 z.2 (i : Int) (znv (zsg l t1)))
noncomputable def pRules (l : List Int) (t : zTk) : zPr := pBnd (pWord l 0 t) fun t0 => pBnd (pRul l 0 (t0, zD0.ru)) fun z0 => pBnd (pRul l 1 z0) fun z1 => pBnd (pRul l 2 z1) fun z2 => pBnd (pRul l 3 z2) fun z3 => pBnd (pRul l 4 z3) fun z4 => pEnd l (zD0.wru z4.2) z4.1
noncomputable def pLoop (l : List Int) : Nat → zD → zTk → zPr
  | 0, X, t => .inr (t, X)
  | f + 1, X, t => if t.1 = 0 then .inr (t, X) else pBnd (pStat l X t) fun z => pLoop l f z.2 z.1
noncomputable def pParse (l : List Int) : zPr := pBnd (pRules l (ztk l 0)) fun z => pLoop l 601 z.2 z.1
section C80b
variable {B : Int} {X X' : zD} {l : List Int} {t t' : zTk}
theorem bnd_inv {α β : Type} {r : zEr ⊕ α} {f : α → zEr ⊕ β} {b : β} (h : pBnd r f = .inr b) : ∃ a, r = .inr a ∧ f a = .inr b := by
  cases r with
  | inl e => exact absurd (show (Sum.inl e : zEr ⊕ β) = .inr b from h) (by simp)
  | inr a => exact ⟨a, rfl, h⟩
theorem word_inv {i : Nat} (ht : TOk l t) (h : pWord l i t = .inr t') : ziw l t i ∧ TOk l t' ∧ t.2.2 ≤ t'.2.1 := by
  unfold pWord at h
  split at h
  · rename_i z
    have e : ztk l t.2.2 = t' := Sum.inr.inj h
    have hk := tk_ok (l := l) ht.el
    rw [e] at hk
    exact ⟨z, hk⟩
  · exact absurd h (by simp)
theorem num_inv {lo hi : Int} (ht : TOk l t) (h : pNum l lo hi t = .inr t') : (lo ≤ znv (zsg l t) ∧ znv (zsg l t) ≤ hi) ∧ TOk l t' ∧ t.2.2 ≤ t'.2.1 := by
  unfold pNum at h
  split at h
  · split at h
    · rename_i z
      have e : ztk l t.2.2 = t' := Sum.inr.inj h
      have hk := tk_ok (l := l) ht.el
      rw [e] at hk
      exact ⟨z, hk⟩
    · exact absurd h (by simp)
  · exact absurd h (by simp)
theorem semi_inv (ht : TOk l t) (h : pSemi l t = .inr t') : TOk l t' ∧ t.2.2 ≤ t'.2.1 := by
  unfold pSemi at h
  split at h
  · have e : ztk l t.2.2 = t' := Sum.inr.inj h
    have hk := tk_ok (l := l) ht.el
    rw [e] at hk
    exact hk
  · exact absurd h (by simp)
theorem told_inv {ns : List (List Int)} {i : Int} (h : pTold l ns t = .inr i) : zisN l t ∧ i = zni (znm (zsg l t)) ns 0 ∧ 0 ≤ i ∧ i < (ns.length : Int) := by
  unfold pTold at h
  split at h
  · rename_i z
    split at h
    · exact absurd h (by simp)
    · rename_i y
      have e : zni (znm (zsg l t)) ns 0 = i := Sum.inr.inj h
      have h2 := (zni_mem (nm := znm (zsg l t)) ns 0 (by decide)).2 y
      exact ⟨z, e.symm, by omega, by omega⟩
  · exact absurd h (by simp)
theorem end_inv (ht : TOk l t) (h : pEnd l X t = .inr (t', X')) : X' = X ∧ TOk l t' ∧ t.2.2 ≤ t'.2.1 := by
  obtain ⟨t2, h1, h2⟩ := bnd_inv h
  have e : (t2, X) = (t', X') := Sum.inr.inj h2
  have e1 : t2 = t' := congrArg Prod.fst e
  have e2 : X = X' := congrArg Prod.snd e
  rw [← e1]
  exact ⟨e2.symm, semi_inv ht h1⟩
theorem stat_inv (hg : ∀ y, y ∈ l → -128 ≤ y ∧ y < 128) (ht : TOk l t) (W : WF B X) (h : pStat l X t = .inr (t', X')) : WF B X' ∧ TOk l t' ∧ t.2.2 ≤ t'.2.1 := by
  have k1 := tk_ok (l := l) ht.el
  have k2 := tk_ok (l := l) k1.1.el
  have k3 := tk_ok (l := l) k2.1.el
  have new : ∀ ag, pNew l ag X t = .inr (t', X') → WF B X' ∧ TOk l t' ∧ t.2.2 ≤ t'.2.1 := by
    intro ag h
    unfold pNew at h
    split at h
    · exact absurd h (by simp)
    · rename_i h6
      split at h
      · rename_i hN
        split at h
        · rename_i hz
          obtain ⟨e, h1, h2⟩ := end_inv k2.1 h
          have hm := (zni_mem (nm := znm (zsg l (ztk l t.2.2))) (X.nms ag) 0 (by decide)).1.mp hz
          have hok := zisn_ok (isN_ok k1.1 hg hN)
          refine ⟨?_, h1, by have := k1.1.se; have := k2.1.se; omega⟩
          rw [e]
          cases ag with
          | true => exact W.addA (by have := W.al; show X.an.length < 6; have : ¬ X.an.length = 6 := h6; omega) hok hm
          | false => exact W.addW (by have := W.wl; show X.wn.length < 6; have : ¬ X.wn.length = 6 := h6; omega) hok hm
        · exact absurd h (by simp)
      · exact absurd h (by simp)
  unfold pStat at h
  split at h
  · exact new true h
  · split at h
    · exact new false h
    · split at h
      · obtain ⟨i, h1, h⟩ := bnd_inv h
        obtain ⟨j, h2, h⟩ := bnd_inv h
        have i1 := told_inv h1
        have i2 := told_inv h2
        split at h
        · exact absurd h (by simp)
        · rename_i hc
          have fin : ∀ v t5, (-1 ≤ v ∧ v ≤ 10) → TOk l t5 → (ztk l (ztk l (ztk l t.2.2).2.2).2.2).2.1 ≤ t5.2.1 → pLnk l X i j v t5 = .inr (t', X') → WF B X' ∧ TOk l t' ∧ t.2.2 ≤ t'.2.1 := by
            intro v t5 hv ht5 hle h
            obtain ⟨e, h3, h4⟩ := end_inv ht5 h
            refine ⟨?_, h3, by have := k1.1.se; have := k2.1.se; have := k3.1.se; have := ht5.se; omega⟩
            rw [e]
            exact W.lnk ⟨i1.2.2.1, i1.2.2.2⟩ ⟨i2.2.2.1, i2.2.2.2⟩ (fun z => hc (Or.inl z.symm)) hv
          unfold pLnT at h
          split at h
          · obtain ⟨t5, h3, h⟩ := bnd_inv h
            have k4 := tk_ok (l := l) k3.1.el
            have i3 := num_inv k4.1 h3
            exact fin _ t5 ⟨by omega, i3.1.2⟩ i3.2.1 (by have := k3.1.se; have := k4.1.se; omega) h
          · exact fin 5 _ (by decide) k3.1 (Nat.le_refl _) h
      · split at h
        · obtain ⟨i, h1, h⟩ := bnd_inv h
          obtain ⟨w, h2, h⟩ := bnd_inv h
          have i1 := told_inv h1
          have i2 := told_inv h2
          obtain ⟨t4, h3, h⟩ := bnd_inv h
          obtain ⟨t5, h4, h⟩ := bnd_inv h
          have i3 := num_inv k3.1 h3
          have i4 := num_inv i3.2.1 h4
          obtain ⟨e, h5, h6⟩ := end_inv i4.2.1 h
          refine ⟨?_, h5, by have := k1.1.se; have := k2.1.se; have := k3.1.se; have := i3.2.1.se; have := i4.2.1.se; omega⟩
          rw [e]
          exact W.prb ⟨i1.2.2.1, i1.2.2.2⟩ ⟨i2.2.2.1, i2.2.2.2⟩ ⟨i3.1.1, i4.1.1, i4.1.2⟩
        · exact absurd h (by simp)
theorem rul_inv {i : Nat} {z z' : zTk × (Int → Int)} (hi : i < 5) (ht : TOk l z.1) (W : WF B (zD0.wru z.2)) (h : pRul l i z = .inr z') : TOk l z'.1 ∧ WF B (zD0.wru z'.2) := by
  obtain ⟨t1, h1, h⟩ := bnd_inv h
  obtain ⟨t2, h2, h⟩ := bnd_inv h
  have i1 := word_inv ht h1
  have i2 := num_inv i1.2.1 h2
  have e : (t2, zup1 z.2 (i : Int) (znv (zsg l t1))) = z' := Sum.inr.inj h
  rw [← e]
  exact ⟨i2.2.1, W.rul (i := (i : Int)) (by omega) i2.1⟩
theorem rules_inv (h0 : 0 ≤ B) (hB : B ≤ 1000000) (ht : TOk l t) (h : pRules l t = .inr (t', X')) : WF B X' ∧ TOk l t' := by
  obtain ⟨t0, h1, h⟩ := bnd_inv h
  obtain ⟨z0, h2, h⟩ := bnd_inv h
  obtain ⟨z1, h3, h⟩ := bnd_inv h
  obtain ⟨z2, h4, h⟩ := bnd_inv h
  obtain ⟨z3, h5, h⟩ := bnd_inv h
  obtain ⟨z4, h6, h⟩ := bnd_inv h
  have i1 := word_inv ht h1
  have i2 := rul_inv (B := B) (z := (t0, zD0.ru)) (by decide) i1.2.1 (wf0 h0 hB) h2
  have i3 := rul_inv (by decide) i2.1 i2.2 h3
  have i4 := rul_inv (by decide) i3.1 i3.2 h4
  have i5 := rul_inv (by decide) i4.1 i4.2 h5
  have i6 := rul_inv (by decide) i5.1 i5.2 h6
  obtain ⟨e, h7, _⟩ := end_inv i6.1 h
  rw [e]
  exact ⟨i6.2, h7⟩
theorem loop_inv (hg : ∀ y, y ∈ l → -128 ≤ y ∧ y < 128) : ∀ (f : Nat) (X : zD) (t : zTk), TOk l t → WF B X → pLoop l f X t = .inr (t', X') → WF B X' := by
  intro f
  induction f with
  | zero =>
    intro X t _ W h
    have e : (t, X) = (t', X') := Sum.inr.inj h
    have e2 : X = X' := congrArg Prod.snd e
    rw [← e2]; exact W
  | succ f ih =>
    intro X t ht W h
    unfold pLoop at h
    split at h
    · have e : (t, X) = (t', X') := Sum.inr.inj h
      have e2 : X = X' := congrArg Prod.snd e
      rw [← e2]; exact W
    · obtain ⟨z, h1, h2⟩ := bnd_inv h
      have i1 := stat_inv hg ht W (show pStat l X t = .inr (z.1, z.2) from h1)
      exact ih z.2 z.1 i1.2.1 i1.1 h2
end C80b
