/-! ROWS 2: fields, arrays, new cells, ends, entry -/
abbrev zFn : Type := Option (zR × zS)
def zup (M : zM) (a k v : Int) : zM := fun b j => if b = a ∧ j = k then v else M b j
/-- the fields of the class's objects: int fields live in the memory, references beside the shapes -/
def zgf (ci k : Nat) (a : Int) (σ : zS) (F : Int → zFn) : zFn := if σ.1.1 a = some (0, (ci : Int)) then F (σ.2 a k) else none
def zgr (ci k : Nat) (a : Int) (σ : zS) (F : Int → zFn) : zFn := if σ.1.1 a = some (0, (ci : Int)) then F (σ.1.2.1 a k) else none
def zpf (ci k : Nat) (a v : Int) (σ : zS) (F : zS → zFn) : zFn := if σ.1.1 a = some (0, (ci : Int)) then F (σ.1, zup σ.2 a k v) else none
def zpr (ci k : Nat) (a v : Int) (σ : zS) (F : zS → zFn) : zFn := if σ.1.1 a = some (0, (ci : Int)) then F ((σ.1.1, zup σ.1.2.1 a k v, σ.1.2.2), σ.2) else none
def zin (σ : zS) (t : Nat) (a i : Int) : Prop := match σ.1.1 a with
  | some k => k.1 = t ∧ 0 ≤ i ∧ i < k.2
  | none => False
def zinD (σ : zS) (t : Nat) (a i : Int) : Decidable (zin σ t a i) := by
  unfold zin
  split <;> infer_instance
/-- arrays: kind t, at a; loads and stores -/
def zld (t : Nat) (a i : Int) (σ : zS) (F : Int → zFn) : zFn := @ite _ (zin σ t a i) (zinD σ t a i) (F (σ.2 a i)) none
def zlr (t : Nat) (a i : Int) (σ : zS) (F : Int → zFn) : zFn := @ite _ (zin σ t a i) (zinD σ t a i) (F (σ.1.2.1 a i)) none
def zsi (t : Nat) (a i v : Int) (σ : zS) (F : zS → zFn) : zFn := @ite _ (zin σ t a i) (zinD σ t a i) (F (σ.1, zup σ.2 a i v)) none
def zsr_ (t : Nat) (a i v : Int) (σ : zS) (F : zS → zFn) : zFn := @ite _ (zin σ t a i) (zinD σ t a i) (F ((σ.1.1, zup σ.1.2.1 a i v, σ.1.2.2), σ.2)) none
def zal (a : Int) (σ : zS) (F : Int → zFn) : zFn := match σ.1.1 a with
  | some k => if k.1 = 0 then none else F k.2
  | none => none
def zmk (σ : zS) (k : zK) : zS := ((fun b => if b = σ.1.2.2 then some k else σ.1.1 b, fun b j => if b = σ.1.2.2 then -1 else σ.1.2.1 b j, σ.1.2.2 + 1), fun b j => if b = σ.1.2.2 then 0 else σ.2 b j)
theorem zgf_o {ci k : Nat} {a : Int} {σ : zS} {F : Int → zFn} {Q : zR × zS → Prop} (h : zo (zgf ci k a σ F) Q) : σ.1.1 a = some (0, (ci : Int)) ∧ zo (F (σ.2 a k)) Q := by
  unfold zgf at h
  split at h
  · exact ⟨by assumption, h⟩
  · obtain ⟨r, h, -⟩ := h; cases h
theorem zgr_o {ci k : Nat} {a : Int} {σ : zS} {F : Int → zFn} {Q : zR × zS → Prop} (h : zo (zgr ci k a σ F) Q) : σ.1.1 a = some (0, (ci : Int)) ∧ zo (F (σ.1.2.1 a k)) Q := by
  unfold zgr at h
  split at h
  · exact ⟨by assumption, h⟩
  · obtain ⟨r, h, -⟩ := h; cases h
theorem zpf_o {ci k : Nat} {a v : Int} {σ : zS} {F : zS → zFn} {Q : zR × zS → Prop} (h : zo (zpf ci k a v σ F) Q) : σ.1.1 a = some (0, (ci : Int)) ∧ zo (F (σ.1, zup σ.2 a k v)) Q := by
  unfold zpf at h
  split at h
  · exact ⟨by assumption, h⟩
  · obtain ⟨r, h, -⟩ := h; cases h
theorem zpr_o {ci k : Nat} {a v : Int} {σ : zS} {F : zS → zFn} {Q : zR × zS → Prop} (h : zo (zpr ci k a v σ F) Q) : σ.1.1 a = some (0, (ci : Int)) ∧ zo (F ((σ.1.1, zup σ.1.2.1 a k v, σ.1.2.2), σ.2)) Q := by
  unfold zpr at h
  split at h
  · exact ⟨by assumption, h⟩
  · obtain ⟨r, h, -⟩ := h; cases h
theorem zite_o {c : Prop} {d : Decidable c} {A : zFn} {Q : zR × zS → Prop} (h : zo (@ite _ c d A none) Q) : c ∧ zo A Q := by
  by_cases hc : c
  · rw [if_pos hc] at h; exact ⟨hc, h⟩
  · rw [if_neg hc] at h; obtain ⟨r, h, -⟩ := h; cases h
theorem zin_k {σ : zS} {t : Nat} {a i : Int} (h : zin σ t a i) : ∃ n : Int, σ.1.1 a = some (t, n) ∧ 0 ≤ i ∧ i < n := by
  unfold zin at h
  split at h
  · rename_i k hk
    obtain ⟨k1, k2⟩ := k
    obtain ⟨rfl, h⟩ := h
    exact ⟨k2, hk, h⟩
  · exact h.elim
theorem zvp {a i : Int} {N : Nat} (h0 : 0 ≤ i) (hi : i < (N : Int)) (hz : zI i) : ¬ (Int32.ofInt i < 0 ∨ N ≤ (Int32.ofInt i).toNatClampNeg) ∧ (Int32.ofInt i).toNatClampNeg = i.toNat := by
  have e : (Int32.ofInt i).toNatClampNeg = i.toNat := by
    unfold zI at hz
    exact Int32.toNatClampNeg_ofInt_of_le (by omega) (by omega)
  refine ⟨fun q => ?_, e⟩
  rcases q with q | q
  · have := (z_lt hz zI_0).mp q; omega
  · rw [e] at q; omega
/-- a cell's picture depends on its own entries alone -/
theorem zat_keep {g : zF} {σ τ : zS} {a : Int} {k : zK} {H H1 : Heap} (h : zat g σ a k H) (hq : H1[a.toNat]? = H[a.toNat]?) (hr : ∀ j : Int, τ.1.2.1 a j = σ.1.2.1 a j) (hm : ∀ j : Int, τ.2 a j = σ.2 a j) : zat g τ a k H1 := by
  have he : ∀ t (j : Int), ze τ a t j = ze σ a t j := fun t j => by unfold ze; rw [hr, hm]
  obtain ⟨k1, k2⟩ := k
  match k1 with
  | 0 =>
    obtain ⟨r, h1, h2⟩ := h
    exact ⟨r, h1, (h2.kept hq).to (fun j _ => by rw [he])⟩
  | t + 1 =>
    obtain ⟨h0, h1, h2⟩ := h
    refine ⟨h0, h1, ?_⟩
    rw [hq, h2]
    congr 2
    funext j
    rw [he]
theorem zat_lt {g : zF} {σ : zS} {a : Int} {k : zK} {H : Heap} (h : zat g σ a k H) : a.toNat < H.size := by
  obtain ⟨k1, k2⟩ := k
  match k1 with
  | 0 =>
    obtain ⟨r, h1, cell, h2, -⟩ := h
    exact (Array.getElem?_eq_some_iff.mp h2).1
  | t + 1 => exact (Array.getElem?_eq_some_iff.mp h.2.2).1
/-- a write at (a, j): the rest stays -/
theorem zW_put {g : zF} {σ τ : zS} {a : Int} {k0 : zK} {H H1 : Heap} (h : zW g σ H) (hk : σ.1.1 a = some k0) (hz : H1.size = H.size) (oq : ∀ q : Nat, q ≠ a.toNat → H1[q]? = H[q]?) (hs : τ.1.1 = σ.1.1) (hn : τ.1.2.2 = σ.1.2.2) (hr : ∀ b j : Int, b ≠ a → τ.1.2.1 b j = σ.1.2.1 b j) (hm : ∀ b j : Int, b ≠ a → τ.2 b j = σ.2 b j) (ha : zat g τ a k0 H1) (hN : zNM τ) : zW g τ H1 := by
  obtain ⟨w1, w2, w3, w4⟩ := h
  refine ⟨fun b k hb => ?_, hN, by rw [hz, hn]; exact w3, by rw [hz]; exact w4⟩
  rw [hs] at hb
  obtain ⟨g1, g2⟩ := w1 b k hb
  by_cases e : b = a
  · subst e
    cases Option.some.inj (hk.symm.trans hb)
    exact ⟨g1, ha⟩
  · have g3 := (w1 a k0 hk).1
    exact ⟨g1, zat_keep g2 (oq _ (fun z => e (by omega))) (fun j => hr b j e) (fun j => hm b j e)⟩
theorem zNM_put {σ : zS} {a i v : Int} (h : zNM σ) (hv : (∀ n : Int, σ.1.1 a ≠ some (5, n)) → zI v) : zNM (σ.1, zup σ.2 a i v) := by
  intro b j hb
  show zI (zup σ.2 a i v b j)
  unfold zup
  split
  · rename_i e
    obtain ⟨rfl, rfl⟩ := e
    exact hv hb
  · exact h b j hb
theorem zup_nj {M : zM} {a i v b j : Int} (h : j ≠ i) : zup M a i v b j = M b j := by
  unfold zup
  rw [if_neg (fun q => h q.2)]
theorem zup_ne {M : zM} {a i v b j : Int} (h : b ≠ a) : zup M a i v b j = M b j := by
  unfold zup
  rw [if_neg (fun q => h q.1)]
/-- an object's field, as a row needs it -/
def zFd (own : String) (idx : Nat) (ci k : Nat) : Prop := ∃ r : vw_C, vwCl[ci]? = some r ∧ k < r.2.2 ∧ (∀ w ∈ u_ws r.1 r.2.1 r.2.2, zL w) ∧ (zL (.fieldLink own idx (r.2.1 k).1 (r.2.1 k).2.1 (r.2.1 k).2.2.1) ∨ ∃ host, zL (.fieldLinkNest own idx (r.2.1 k).1 (r.2.1 k).2.1 (r.2.1 k).2.2.1 host))
def zID (v : Int) : Decidable (zI v) := by
  unfold zI
  infer_instance
theorem zI_w8 (z : Int) : zI (w8 z) := by
  unfold zI w8
  have h1 := Int.le_bmod (x := z) (m := 256) (by decide)
  have h2 := Int.bmod_lt (x := z) (m := 256) (by decide)
  omega
theorem z_nb {v : Int} (h : zI v) : narrow .byte (.int (Int32.ofInt v)) = .int (Int32.ofInt (w8 v)) := by
  show Value.int _ = _
  congr 1
  apply Int32.toInt_inj.mp
  rw [z_to (zI_w8 v)]
  show (Int32.ofInt v).toInt8.toInt32.toInt = _
  rw [Int8.toInt_toInt32, Int32.toInt_toInt8, z_to h]; rfl
theorem z_nz {v : Int} (h : v = 0 ∨ v = 1) : narrow .boolean (.int (Int32.ofInt v)) = .int (Int32.ofInt v) := by
  rcases h with rfl | rfl <;> rfl
section ZR2
variable {g : zF} {K : zY} {R : Room} {L : List (Nat × zV)} {S : List zV} {σ : zS} {C D : Nat} {Q : zR × zS → Prop} {pc : Nat}
theorem z_ref {a : Int} (h : 0 ≤ a) : zv g (4, a) = .ref a.toNat := by
  rw [zv_4]
  exact if_neg (by omega)
theorem r_get {ci k idx : Nat} {a : Int} (hf : zFd K.1.cls idx ci k) (d : decode K.2.1 pc = .ok (.getfield idx, 3)) (hs : σ.1.1 a = some (0, (ci : Int))) (kk : zw g K R (pc + 3) L (ze σ a (zfe ci k) k :: S) σ C D Q) (hn : zfe ci k = 0 ∨ zfe ci k = 4) : zw g K R pc L ((4, a) :: S) σ C D Q := by
  intro p e s m args below meth c H locs cells slots ls hC hl hL hS hW hV h1 h2
  obtain ⟨r, hc, hk, hu, hlink⟩ := hf
  have hC0 := hC
  obtain ⟨hx, hb, -, -, -, hown, hQ, -, -⟩ := hC
  have hts : ∀ w ∈ u_ws r.1 r.2.1 r.2.2, w.before args s = true := fun w hw => hQ.2.2.1 w (hu w hw) args
  obtain ⟨gb, r', hr', hob⟩ := hW.1 a _ hs
  have ea : ((0, (ci : Int)) : zK).2.toNat = ci := rfl
  rw [ea] at hr' hob
  cases Option.some.inj (hr'.symm.trans hc)
  obtain ⟨cell, q1, q2, q3, q4⟩ := hob
  obtain ⟨hSl, hfc, kC, hkC, hkind⟩ := hQ.1 ci _ hc
  obtain ⟨cf, kf, fi, f, hi, hsl⟩ := hSl k hk
  have hst := (u_facts hfc hkC (u_lays hts (fun w h => h) hk) hi).1
  have kk := kk p e s m args below meth c H locs cells slots ls hC0 hl hL (zS_c ?_ (zS_t hS)) hW hV h1 h2
  · have hslot : cell.slots[f.slot]? = some (zv g (ze σ a (zfe ci k) k)) := by rw [hsl]; exact q4 k hk
    have e0 : zv g (4, a) = .ref a.toNat := z_ref (by omega)
    rw [List.map_cons, e0]
    rcases hlink with hlink | ⟨host, hlink⟩
    · exact W.getf hx hb hown (hQ.2.2.1 _ hlink _) hi hst q1 (by rw [q3]; exact fun h => by cases h) hslot rfl rfl d kk
    · exact va_Wgetf hx hb hown (hQ.2.2.1 _ hlink _) hi hst q1 (by rw [q3]; exact fun h => by cases h) hslot rfl rfl d kk
  · rcases hn with hn | hn <;> rw [hn]
    · exact hW.2.1 a k (fun n => by rw [hs]; intro h; cases h)
    · trivial
theorem r_getf {ci k idx : Nat} {a : Int} {F : Int → zFn} (hf : zFd K.1.cls idx ci k) (hn : zfe ci k = 0) (d : decode K.2.1 pc = .ok (.getfield idx, 3)) (h : zo (zgf ci k a σ F) Q) (kk : ∀ x, zo (F x) Q → zw g K R (pc + 3) L ((0, x) :: S) σ C D Q) : zw g K R pc L ((4, a) :: S) σ C D Q := by
  obtain ⟨hs, h⟩ := zgf_o h
  refine r_get hf d hs ?_ (Or.inl hn)
  rw [hn]
  exact kk _ h
theorem r_getr {ci k idx : Nat} {a : Int} {F : Int → zFn} (hf : zFd K.1.cls idx ci k) (hn : zfe ci k = 4) (d : decode K.2.1 pc = .ok (.getfield idx, 3)) (h : zo (zgr ci k a σ F) Q) (kk : ∀ x, zo (F x) Q → zw g K R (pc + 3) L ((4, x) :: S) σ C D Q) : zw g K R pc L ((4, a) :: S) σ C D Q := by
  obtain ⟨hs, h⟩ := zgr_o h
  refine r_get hf d hs ?_ (Or.inr hn)
  rw [hn]
  exact kk _ h
/-- what a putfield asks beside: the field's type; it isn't final, or this is its own constructor -/
def zFp (K : zY) (idx ci k : Nat) (tag : Nat) : Prop := ∃ (r : vw_C) (ty0 : Nat → FieldType), vwCl[ci]? = some r ∧ (∀ j, j < r.2.2 → parseFieldDescriptor (r.2.1 j).2.2.1 = some (ty0 j)) ∧ (∀ a, a < r.2.2 → ∀ b, b < r.2.2 → a ≠ b → (r.2.1 a).2.1 ≠ (r.2.1 b).2.1) ∧ zfe ci k = tag ∧ (if tag = 0 then ty0 k = .int else (∃ n, ty0 k = .object n) ∨ ∃ t, ty0 k = .array t) ∧ ((r.2.1 k).2.2.2 = false ∨ ((r.2.1 k).2.2.2 = true ∧ K.1.name = "<init>" ∧ (r.2.1 k).1 = K.1.cls ∧ zL (.fieldLink K.1.cls idx (r.2.1 k).1 (r.2.1 k).2.1 (r.2.1 k).2.2.1)))
theorem r_put {ci k idx tag : Nat} {a v : Int} {τ : zS} (hf : zFd K.1.cls idx ci k) (hp : zFp K idx ci k tag) (d : decode K.2.1 pc = .ok (.putfield idx, 3)) (hs : σ.1.1 a = some (0, (ci : Int))) (ht : tag = 0 ∨ tag = 4)
    (hτ : τ = if tag = 0 then (σ.1, zup σ.2 a k v) else ((σ.1.1, zup σ.1.2.1 a k v, σ.1.2.2), σ.2)) (kk : zw g K R (pc + 3) L S τ C D Q) : zw g K R pc L ((tag, v) :: (4, a) :: S) σ C D Q := by
  intro p e s m args below meth c H locs cells slots ls hC hl hL hS hW hV h1 h2
  obtain ⟨r, hc, hk, hu, hlink⟩ := hf
  obtain ⟨r', ty0, hc', hty, hnm, htag, htyk, hfin⟩ := hp
  cases Option.some.inj (hc'.symm.trans hc)
  have hC0 := hC
  obtain ⟨hx, hb, -, -, -, hown, hQ, hmn, -⟩ := hC
  have hts : ∀ w ∈ u_ws r.1 r.2.1 r.2.2, w.before args s = true := fun w hw => hQ.2.2.1 w (hu w hw) args
  have hvn : zn (tag, v) := zS_1 hS
  obtain ⟨gb, r'', hr', hob⟩ := hW.1 a _ hs
  have ea : ((0, (ci : Int)) : zK).2.toNat = ci := rfl
  rw [ea] at hr' hob
  cases Option.some.inj (hr'.symm.trans hc)
  obtain ⟨cell, q1, q2, q3, q4⟩ := hob
  obtain ⟨hSl, hfc, kC, hkC, hkind⟩ := hQ.1 ci _ hc
  obtain ⟨cf, kf, fi, f, hi, hsl⟩ := hSl k hk
  have hi0 := hi
  have hst := (u_facts hfc hkC (u_lays hts (fun w h => h) hk) hi0).1
  have hap : ∀ x y, x < r.2.2 → y < r.2.2 → x ≠ y → (g.1.2 ci) x ≠ (g.1.2 ci) y := by
    intro x y hx hy hne
    obtain ⟨_, _, _, fa, hia, ea⟩ := hSl x hx
    obtain ⟨_, _, _, fb, hib, eb⟩ := hSl y hy
    rw [← ea, ← eb]
    refine u_apart (u_lays hts (fun w h => h) hx) (u_lays hts (fun w h => h) hy) hia hib ?_
    rw [(State.fieldFound?_type hia (hty x hx)).1, (State.fieldFound?_type hib (hty y hy)).1]
    exact hnm x hx y hy hne
  have e0 : zv g (4, a) = .ref a.toNat := z_ref (by omega)
  have hvv : narrow (ty0 k) (zv g (tag, v)) = zv g (tag, v) ∧ fits (ty0 k) (zv g (tag, v)) = true := by
    rcases ht with rfl | rfl
    · rw [if_pos rfl] at htyk
      rw [htyk]
      exact ⟨rfl, rfl⟩
    · rw [if_neg (by decide)] at htyk
      have hz : zv g (4, v) = .null ∨ ∃ q, zv g (4, v) = .ref q := by
        rw [zv_4]; split
        · exact Or.inl rfl
        · exact Or.inr ⟨_, rfl⟩
      rcases hz with hz | ⟨q, hz⟩ <;> rw [hz] <;> rcases htyk with ⟨n, h⟩ | ⟨t, h⟩ <;> rw [h] <;> exact ⟨rfl, rfl⟩
  have hd : parseFieldDescriptor (r.2.1 k).2.2.1 = some (ty0 k) := hty k hk
  -- the world behind the write
  have hnew : ∀ H' : Heap, H'[a.toNat]? = some (cell.setSlot (g.1.2 ci k) (zv g (tag, v))) → H'.size = H.size → (∀ q, q ≠ a.toNat → H'[q]? = H[q]?) → zW g τ H' ∧ va_S (zA g) s.heap H' (locs ++ [⟨a.toNat, g.1.2 ci k⟩]) := by
    intro H' e1 e2 e3
    refine ⟨zW_put hW hs e2 e3 (by rw [hτ]; rcases ht with rfl | rfl <;> rfl) (by rw [hτ]; rcases ht with rfl | rfl <;> rfl) (fun b j hb => ?_) (fun b j hb => ?_) ⟨r, hc, ?_⟩ ?_, hV.put e2 e3 (by show g.2.2.1 ≤ a.toNat; omega)⟩
    · rw [hτ]; rcases ht with rfl | rfl
      · rfl
      · exact zup_ne hb
    · rw [hτ]; rcases ht with rfl | rfl
      · exact zup_ne hb
      · rfl
    · refine t_OB.to (V := updV (fun j => zv g (ze σ a (zfe ci j) j)) k (zv g (tag, v))) ⟨_, e1, q2, q3, t_set q4 hap hk _⟩ (fun j hj => ?_)
      unfold updV
      by_cases ej : j = k
      · subst ej
        rw [if_pos rfl, hτ]
        show _ = zv g (ze _ a (zfe ci j) j)
        rw [htag]
        rcases ht with rfl | rfl
        · show _ = zv g (0, zup σ.2 a j v a j)
          unfold zup; rw [if_pos ⟨rfl, rfl⟩]
        · show _ = zv g (4, zup σ.1.2.1 a j v a j)
          unfold zup; rw [if_pos ⟨rfl, rfl⟩]
      · rw [if_neg ej, hτ]
        have ej' : (j : Int) ≠ (k : Int) := fun z => ej (by omega)
        show zv g (ze σ a (zfe ci j) j) = zv g (ze _ a (zfe ci j) j)
        unfold ze
        rcases ht with rfl | rfl
        · show _ = zv g (zfe ci j, if zfe ci j = 4 then σ.1.2.1 a j else zup σ.2 a k v a j)
          rw [zup_nj ej']
        · show _ = zv g (zfe ci j, if zfe ci j = 4 then zup σ.1.2.1 a k v a j else σ.2 a j)
          rw [zup_nj ej']
    · rw [hτ]; rcases ht with rfl | rfl
      · exact zNM_put hW.2.1 (fun _ => hvn)
      · exact hW.2.1
  have kk := fun H' locs' hW' hV' => kk p e s m args below meth c H' locs' cells slots ls hC0 hl hL (zS_t (zS_t hS)) hW' hV' h1 h2
  rw [List.map_cons, List.map_cons, e0]
  rcases hfin with hfin | ⟨hfin, hin2, hdecl, hlk⟩
  · have hlay := hts _ (u_in_lay (C := r.1) (T := r.2.1) (N := r.2.2) hk)
    unfold u_lay at hlay
    rw [if_neg (by rw [hfin]; decide)] at hlay
    have h6 := u_store hfc hkC hkind hlay hi0 hd hvv.1 hvv.2
    rcases hlink with hlink | ⟨host, hlink⟩
    · refine W.putK hx hb (f := f) ⟨hown, hQ.2.2.1 _ hlink _, ⟨_, _, _, hi⟩, hst⟩ (by rw [q2]; exact h6) q1 q3 (by rw [hsl]; exact k2_hasslot (q4 k hk)) rfl rfl d fun H' e1 e2 e3 => ?_
      rw [hsl] at e1 ⊢
      obtain ⟨w1, w2⟩ := hnew H' e1 e2 e3
      exact kk _ _ w1 w2
    · refine va_WputK hx hb (f := f) hown (hQ.2.2.1 _ hlink _) hi hst (by rw [q2]; exact h6) q1 q3 (by rw [hsl]; exact k2_hasslot (q4 k hk)) rfl rfl d fun H' e1 e2 e3 => ?_
      rw [hsl] at e1 ⊢
      obtain ⟨w1, w2⟩ := hnew H' e1 e2 e3
      exact kk _ _ w1 w2
  · have hlay := hts _ (u_in_lay (C := r.1) (T := r.2.1) (N := r.2.2) hk)
    unfold u_lay at hlay
    rw [if_pos hfin] at hlay
    have hcf : m.cls = cf := by
      obtain ⟨_, _, c', _, _, _, -, -, hf', -, -, -, hown2, -⟩ := Cond.laysFinal_spec hlay
      have e1 : c' = cf := by have := hi0.symm.trans hf'; simp at this; exact this.1.symm
      rw [hdecl] at hown2
      rw [← e1]; exact Option.some.inj (hown.symm.trans hown2)
    have h6 := u_fits hfc hkC hkind (Or.inr hlay) hi0 hd hvv.1 hvv.2
    refine W.putFinK hx hb hown (hQ.2.2.1 _ hlk _) hi hst hcf (hmn.trans hin2) (by rw [q2]; exact h6) q1 q3 (by rw [hsl]; exact k2_hasslot (q4 k hk)) rfl rfl d fun H' e1 e2 e3 => ?_
    rw [hsl] at e1 ⊢
    obtain ⟨w1, w2⟩ := hnew H' e1 e2 e3
    exact kk _ _ w1 w2
theorem r_putf {ci k idx : Nat} {a v : Int} {F : zS → zFn} (hf : zFd K.1.cls idx ci k) (hp : zFp K idx ci k 0) (d : decode K.2.1 pc = .ok (.putfield idx, 3)) (h : zo (zpf ci k a v σ F) Q) (kk : ∀ τ, zo (F τ) Q → zw g K R (pc + 3) L S τ C D Q) : zw g K R pc L ((0, v) :: (4, a) :: S) σ C D Q := by
  obtain ⟨hs, h⟩ := zpf_o h
  exact r_put hf hp d hs (Or.inl rfl) rfl (kk _ h)
theorem r_putr {ci k idx : Nat} {a v : Int} {F : zS → zFn} (hf : zFd K.1.cls idx ci k) (hp : zFp K idx ci k 4) (d : decode K.2.1 pc = .ok (.putfield idx, 3)) (h : zo (zpr ci k a v σ F) Q) (kk : ∀ τ, zo (F τ) Q → zw g K R (pc + 3) L S τ C D Q) : zw g K R pc L ((4, v) :: (4, a) :: S) σ C D Q := by
  obtain ⟨hs, h⟩ := zpr_o h
  exact r_put hf hp d hs (Or.inr rfl) rfl (kk _ h)

theorem r_iald {a i : Int} {F : Int → zFn} (d : decode K.2.1 pc = .ok (.iaload, 1)) (h : zo (zld 1 a i σ F) Q) (kk : ∀ x, zo (F x) Q → zw g K R (pc + 1) L ((0, x) :: S) σ C D Q) : zw g K R pc L ((0, i) :: (4, a) :: S) σ C D Q := by
  intro p e s m args below meth c H locs cells slots ls hC hl hL hS hW hV h1 h2
  obtain ⟨hin, h⟩ := zite_o h
  obtain ⟨n, hn, i0, i1⟩ := zin_k hin
  obtain ⟨gb, -, ⟨n0, n1⟩, hcell⟩ := hW.1 a _ hn
  have hi : zI i := zS_1 hS
  obtain ⟨hv, ev⟩ := zvp (a := a) (N := n.toNat) i0 (by omega) hi
  have e0 : zv g (4, a) = .ref a.toNat := z_ref (by omega)
  have kk := kk _ h p e s m args below meth c H locs cells slots ls hC hl hL (zS_c (hW.2.1 a i (fun q => by rw [hn]; intro h; cases h)) (zS_t (zS_t hS))) hW hV h1 h2
  rw [List.map_cons, List.map_cons, e0]
  refine W.iald (v := zv g (0, σ.2 a i)) hC.1 hC.2.1 hcell ((hC.2.2.2.2.2.2.1.2.1 1 (by decide) (by decide)).1 _ _) (fun q => by cases q) (by show ¬ (_ ∨ (arrV _ _ _).slots.size ≤ _); rw [arrV_size]; exact hv) (by show (arrV _ _ _).slots[_]? = _; rw [ev, arrV_read _ _ (by show i.toNat < n.toNat; omega)]; show some (zv g (0, σ.2 a ((i.toNat : Nat) : Int))) = _; rw [Int.toNat_of_nonneg i0]) rfl rfl d kk
theorem r_bald {a i : Int} {F : Int → zFn} (d : decode K.2.1 pc = .ok (.baload, 1)) (h : zo (zld 2 a i σ F) Q) (kk : ∀ x, zo (F x) Q → zw g K R (pc + 1) L ((0, x) :: S) σ C D Q) : zw g K R pc L ((0, i) :: (4, a) :: S) σ C D Q := by
  intro p e s m args below meth c H locs cells slots ls hC hl hL hS hW hV h1 h2
  obtain ⟨hin, h⟩ := zite_o h
  obtain ⟨n, hn, i0, i1⟩ := zin_k hin
  obtain ⟨gb, -, ⟨n0, n1⟩, hcell⟩ := hW.1 a _ hn
  have hi : zI i := zS_1 hS
  obtain ⟨hv, ev⟩ := zvp (a := a) (N := n.toNat) i0 (by omega) hi
  have e0 : zv g (4, a) = .ref a.toNat := z_ref (by omega)
  have kk := kk _ h p e s m args below meth c H locs cells slots ls hC hl hL (zS_c (hW.2.1 a i (fun q => by rw [hn]; intro h; cases h)) (zS_t (zS_t hS))) hW hV h1 h2
  rw [List.map_cons, List.map_cons, e0]
  refine W.bald (v := zv g (0, σ.2 a i)) hC.1 hC.2.1 hcell ((hC.2.2.2.2.2.2.1.2.1 2 (by decide) (by decide)).1 _ _) (fun q => by cases q) (by show ¬ (_ ∨ (arrV _ _ _).slots.size ≤ _); rw [arrV_size]; exact hv) (by show (arrV _ _ _).slots[_]? = _; rw [ev, arrV_read _ _ (by show i.toNat < n.toNat; omega)]; show some (zv g (0, σ.2 a ((i.toNat : Nat) : Int))) = _; rw [Int.toNat_of_nonneg i0]) rfl rfl d kk
theorem r_aald6 {a i : Int} {F : Int → zFn} (d : decode K.2.1 pc = .ok (.aaload, 1)) (h : zo (zlr 6 a i σ F) Q) (kk : ∀ x, zo (F x) Q → zw g K R (pc + 1) L ((4, x) :: S) σ C D Q) : zw g K R pc L ((0, i) :: (4, a) :: S) σ C D Q := by
  intro p e s m args below meth c H locs cells slots ls hC hl hL hS hW hV h1 h2
  obtain ⟨hin, h⟩ := zite_o h
  obtain ⟨n, hn, i0, i1⟩ := zin_k hin
  obtain ⟨gb, -, ⟨n0, n1⟩, hcell⟩ := hW.1 a _ hn
  have hi : zI i := zS_1 hS
  obtain ⟨hv, ev⟩ := zvp (a := a) (N := n.toNat) i0 (by omega) hi
  have e0 : zv g (4, a) = .ref a.toNat := z_ref (by omega)
  have kk := kk _ h p e s m args below meth c H locs cells slots ls hC hl hL (zS_c (by trivial) (zS_t (zS_t hS))) hW hV h1 h2
  rw [List.map_cons, List.map_cons, e0]
  refine W.aald (v := zv g (4, σ.1.2.1 a i)) (ty := zty 6) hC.1 hC.2.1 hcell ((hC.2.2.2.2.2.2.1.2.1 6 (by decide) (by decide)).1 _ _) rfl (fun q => by cases q) (by show ¬ (_ ∨ (arrV _ _ _).slots.size ≤ _); rw [arrV_size]; exact hv) (by show (arrV _ _ _).slots[_]? = _; rw [ev, arrV_read _ _ (by show i.toNat < n.toNat; omega)]; show some (zv g (4, σ.1.2.1 a ((i.toNat : Nat) : Int))) = _; rw [Int.toNat_of_nonneg i0]) rfl rfl d kk
theorem r_aald7 {a i : Int} {F : Int → zFn} (d : decode K.2.1 pc = .ok (.aaload, 1)) (h : zo (zlr 7 a i σ F) Q) (kk : ∀ x, zo (F x) Q → zw g K R (pc + 1) L ((4, x) :: S) σ C D Q) : zw g K R pc L ((0, i) :: (4, a) :: S) σ C D Q := by
  intro p e s m args below meth c H locs cells slots ls hC hl hL hS hW hV h1 h2
  obtain ⟨hin, h⟩ := zite_o h
  obtain ⟨n, hn, i0, i1⟩ := zin_k hin
  obtain ⟨gb, -, ⟨n0, n1⟩, hcell⟩ := hW.1 a _ hn
  have hi : zI i := zS_1 hS
  obtain ⟨hv, ev⟩ := zvp (a := a) (N := n.toNat) i0 (by omega) hi
  have e0 : zv g (4, a) = .ref a.toNat := z_ref (by omega)
  have kk := kk _ h p e s m args below meth c H locs cells slots ls hC hl hL (zS_c (by trivial) (zS_t (zS_t hS))) hW hV h1 h2
  rw [List.map_cons, List.map_cons, e0]
  refine W.aald (v := zv g (4, σ.1.2.1 a i)) (ty := zty 7) hC.1 hC.2.1 hcell ((hC.2.2.2.2.2.2.1.2.1 7 (by decide) (by decide)).1 _ _) rfl (fun q => by cases q) (by show ¬ (_ ∨ (arrV _ _ _).slots.size ≤ _); rw [arrV_size]; exact hv) (by show (arrV _ _ _).slots[_]? = _; rw [ev, arrV_read _ _ (by show i.toNat < n.toNat; omega)]; show some (zv g (4, σ.1.2.1 a ((i.toNat : Nat) : Int))) = _; rw [Int.toNat_of_nonneg i0]) rfl rfl d kk
/-- an array's cell behind a store -/
theorem zat_st {t : Nat} {a i : Int} {n : Int} {H1 : Heap} {x : Value} {τ : zS} (ht : t < 7) (hn : 0 ≤ n ∧ n < 2147483648) (i0 : 0 ≤ i) (e1 : H1[a.toNat]? = some ((arrV (g.2.1 (t + 1)) n.toNat (fun j => zv g (ze σ a (zet (t + 1)) j))).setSlot i.toNat x)) (hx : x = zv g (ze τ a (zet (t + 1)) i)) (ho : ∀ j : Int, j ≠ i → ze τ a (zet (t + 1)) j = ze σ a (zet (t + 1)) j) : zat g τ a (t + 1, n) H1 := by
  refine ⟨ht, hn, ?_⟩
  rw [e1, arrV_store]
  congr 2
  funext j
  unfold updV
  by_cases ej : j = i.toNat
  · rw [if_pos ej, hx, ej, Int.toNat_of_nonneg i0]
  · rw [if_neg ej, ho _ (fun z => ej (by omega))]
theorem r_iast {a i v : Int} {F : zS → zFn} (d : decode K.2.1 pc = .ok (.iastore, 1)) (h : zo (zsi 1 a i (v) σ F) Q) (kk : ∀ τ, zo (F τ) Q → zw g K R (pc + 1) L S τ C D Q) : zw g K R pc L ((0, v) :: (0, i) :: (4, a) :: S) σ C D Q := by
  intro p e s m args below meth c H locs cells slots ls hC hl hL hS hW hV h1 h2
  obtain ⟨hin, h⟩ := zite_o h
  obtain ⟨n, hn, i0, i1⟩ := zin_k hin
  obtain ⟨gb, -, ⟨n0, n1⟩, hcell⟩ := hW.1 a _ hn
  have hvn : zn (0, v) := zS_1 hS
  have hi : zI i := zS_1 (zS_t hS)
  obtain ⟨hv, ev⟩ := zvp (a := a) (N := n.toNat) i0 (by omega) hi
  have e0 : zv g (4, a) = .ref a.toNat := z_ref (by omega)
  rw [List.map_cons, List.map_cons, List.map_cons, e0]
  refine W.iast hC.1 hC.2.1 hcell ((hC.2.2.2.2.2.2.1.2.1 1 (by decide) (by decide)).1 _ _) (fun q => by cases q) (by show ¬ (_ ∨ (arrV _ _ _).slots.size ≤ _); rw [arrV_size]; exact hv) rfl rfl d fun H1 e1 e2 e3 => ?_
  rw [ev] at e1 ⊢
  refine kk _ h p e s m args below meth c H1 _ cells slots ls hC hl hL (zS_t (zS_t (zS_t hS))) (zW_put hW hn e2 e3 rfl rfl (fun b j hb => rfl) (fun b j hb => zup_ne hb) (zat_st (t := 0) (σ := σ) (τ := (σ.1, zup σ.2 a i (v))) (by decide) ⟨n0, n1⟩ i0 e1 ?_ (fun j hj => ?_)) (zNM_put hW.2.1 (fun q => hvn))) (hV.put e2 e3 (by show g.2.2.1 ≤ a.toNat; omega)) h1 h2
  · show (.int (Int32.ofInt v)) = zv g (0, zup σ.2 a i (v) a i)
    unfold zup
    rw [if_pos ⟨rfl, rfl⟩]
    exact rfl
  · show (0, zup σ.2 a i (v) a j) = (0, σ.2 a j)
    unfold zup
    rw [if_neg (fun z => hj z.2)]
theorem r_bast {a i v : Int} {F : zS → zFn} (d : decode K.2.1 pc = .ok (.bastore, 1)) (h : zo (zsi 2 a i (w8 v) σ F) Q) (kk : ∀ τ, zo (F τ) Q → zw g K R (pc + 1) L S τ C D Q) : zw g K R pc L ((0, v) :: (0, i) :: (4, a) :: S) σ C D Q := by
  intro p e s m args below meth c H locs cells slots ls hC hl hL hS hW hV h1 h2
  obtain ⟨hin, h⟩ := zite_o h
  obtain ⟨n, hn, i0, i1⟩ := zin_k hin
  obtain ⟨gb, -, ⟨n0, n1⟩, hcell⟩ := hW.1 a _ hn
  have hvn : zn (0, v) := zS_1 hS
  have hi : zI i := zS_1 (zS_t hS)
  obtain ⟨hv, ev⟩ := zvp (a := a) (N := n.toNat) i0 (by omega) hi
  have e0 : zv g (4, a) = .ref a.toNat := z_ref (by omega)
  rw [List.map_cons, List.map_cons, List.map_cons, e0]
  refine W.bast hC.1 hC.2.1 hcell ((hC.2.2.2.2.2.2.1.2.1 2 (by decide) (by decide)).1 _ _) (fun q => by cases q) (by show ¬ (_ ∨ (arrV _ _ _).slots.size ≤ _); rw [arrV_size]; exact hv) rfl rfl d fun H1 e1 e2 e3 => ?_
  rw [ev] at e1 ⊢
  refine kk _ h p e s m args below meth c H1 _ cells slots ls hC hl hL (zS_t (zS_t (zS_t hS))) (zW_put hW hn e2 e3 rfl rfl (fun b j hb => rfl) (fun b j hb => zup_ne hb) (zat_st (t := 1) (σ := σ) (τ := (σ.1, zup σ.2 a i (w8 v))) (by decide) ⟨n0, n1⟩ i0 e1 ?_ (fun j hj => ?_)) (zNM_put hW.2.1 (fun q => zI_w8 v))) (hV.put e2 e3 (by show g.2.2.1 ≤ a.toNat; omega)) h1 h2
  · show (narrow .byte (.int (Int32.ofInt v))) = zv g (0, zup σ.2 a i (w8 v) a i)
    unfold zup
    rw [if_pos ⟨rfl, rfl⟩]
    exact by rw [z_nb (zS_1 hS)]; rfl
  · show (0, zup σ.2 a i (w8 v) a j) = (0, σ.2 a j)
    unfold zup
    rw [if_neg (fun z => hj z.2)]
theorem r_alen {a : Int} {F : Int → zFn} (d : decode K.2.1 pc = .ok (.arraylength, 1)) (h : zo (zal a σ F) Q) (kk : ∀ n : Int, zo (F n) Q → zw g K R (pc + 1) L ((0, n) :: S) σ C D Q) : zw g K R pc L ((4, a) :: S) σ C D Q := by
  intro p e s m args below meth c H locs cells slots ls hC hl hL hS hW hV h1 h2
  unfold zal at h
  split at h
  · rename_i k hk
    split at h
    · obtain ⟨r, h, -⟩ := h; cases h
    · rename_i hk0
      obtain ⟨k1, n⟩ := k
      obtain ⟨gb, hat⟩ := hW.1 a _ hk
      obtain ⟨t, rfl⟩ : ∃ t, k1 = t + 1 := ⟨k1 - 1, by have : k1 ≠ 0 := hk0; omega⟩
      obtain ⟨ht, ⟨n0, n1⟩, hcell⟩ := hat
      have n0 : (0 : Int) ≤ n := n0
      have n1 : n < 2147483648 := n1
      have e0 : zv g (4, a) = .ref a.toNat := z_ref (by omega)
      have en : (Nat.toInt32 n.toNat) = Int32.ofInt n := by
        have e1 : n = ((n.toNat : Nat) : Int) := by omega
        rw [e1, Int32.ofInt_eq_ofNat]; rfl
      have kk := kk n h p e s m args below meth c H locs cells slots ls hC hl hL (zS_c (by show zI n; unfold zI; omega) (zS_t hS)) hW hV h1 h2
      rw [List.map_cons, e0]
      exact W.alen (n := Int32.ofInt n) hC.1 hC.2.1 hcell ((hC.2.2.2.2.2.2.1.2.1 (t + 1) (by omega) (by omega)).1 _ _) (by rw [arrV_size]; exact en) rfl rfl d kk
  · obtain ⟨r, h, -⟩ := h; cases h
end ZR2
