/-! C 77: standing -/
theorem fl_tab : ∀ s : Fin 61, ∀ n : Fin 7, (n : Nat) = 0 ∨ ((FP.fdiv (UInt32.ofNat (zif ((s : Nat) : Int)).toNat) (UInt32.ofNat (zif ((n : Nat) : Int)).toNat)) &&& 0x7fffffff ≤ 0x7f800000 ∧ (FP.f2d (UInt32.ofNat (zfd (zif ((s : Nat) : Int)) (zif ((n : Nat) : Int))).toNat)) &&& 0x7fffffffffffffff ≤ 0x7ff0000000000000 ∧ zdc .l (zfD (zfd (zif ((s : Nat) : Int)) (zif ((n : Nat) : Int)))) (zfD (zfd (zif ((s : Nat) : Int)) (zif ((n : Nat) : Int)))) = 0) := by decide +kernel
theorem fl_0 : (FP.f2d (UInt32.ofNat (0 : Int).toNat)) &&& 0x7fffffffffffffff ≤ 0x7ff0000000000000 ∧ zdc .l (zfD 0) (zfD 0) = 0 := by decide +kernel
def zFok (v : Int) : Prop := vf_n64 (FP.f2d (UInt32.ofNat v.toNat)) ∧ zdc .l (zfD v) (zfD v) = 0
theorem fl_ok {s n : Int} (hs : 0 ≤ s ∧ s ≤ 60) (hn : 1 ≤ n ∧ n ≤ 6) : vf_n32 (FP.fdiv (UInt32.ofNat (zif s).toNat) (UInt32.ofNat (zif n).toNat)) ∧ zFok (zfd (zif s) (zif n)) := by
  have h := fl_tab ⟨s.toNat, by omega⟩ ⟨n.toNat, by omega⟩
  dsimp only at h
  rw [Int.toNat_of_nonneg hs.1, Int.toNat_of_nonneg (show 0 ≤ n by omega)] at h
  rcases h with h | h
  · omega
  · exact ⟨h.1, h.2.1, h.2.2⟩
/-- an operation whose value is a float -/
def zOpf (x : Int) (P : zG → zM → Prop) (f7 f8 : zS → zFn) (tb : List (Nat × Int)) (S : zG) (μ : zM) : Prop :=
  (∃ v S1 μ1, f7 (S, μ) = some (.inl v, (S1, μ1)) ∧ zFok v ∧ ∀ u, ∃ μ3, f8 (S1, zup μ1 (x + 79) 0 u) = some (.inl v, (S1, μ3)) ∧ S1.1 (x + 66) = some (0, 8) ∧ S1.1 (x + 79) = some (5, 1) ∧ μ3 (x + 66) 0 = 0 ∧ μ3 (x + 79) 0 = u ∧ P S1 μ3) ∨
  (∃ e k, f7 (S, μ) = some (.inr e, (S, μ)) ∧ (e, k) ∈ tb ∧ ¬ k = 0 ∧ ∀ n, S.2.2 ≤ n → ∃ b μ3, f8 (zGn S n, μ) = some (.inl b, (zGn S n, μ3)) ∧ S.1 (x + 66) = some (0, 8) ∧ μ3 (x + 66) 0 = k ∧ P (zGn S n) μ3)
noncomputable def zsds (M : zD) (a : Int) (k : Nat) (c : Int × Int) : Int × Int := if M.T a (k : Int) = -1 then c else (c.1 + M.T (k : Int) a, c.2 + 1)
theorem sds_p {M : zD} {a : Int} {k : Nat} {c : Int × Int} (h : M.T a (k : Int) = -1) : zsds M a k c = c := if_pos h
theorem sds_n {M : zD} {a : Int} {k : Nat} {c : Int × Int} (h : ¬ M.T a (k : Int) = -1) : zsds M a k c = (c.1 + M.T (k : Int) a, c.2 + 1) := if_neg h
noncomputable def zD.sdn (M : zD) (a : Int) : Int × Int := zlp (zsds M a) 0 M.an.length (0, 0)
noncomputable def zD.stn (M : zD) (a : Int) : Int := if (M.sdn a).2 = 0 then 0 else zfd (zif (M.sdn a).1) (zif (M.sdn a).2)
section C77
variable {S S' : zG} {μ μ' μ1 : zM} {x m B A a : Int} {M : zD} {L : List zD} {K : zKs} {inp out : List Int} {c p : Int} {P : zG → zM → Prop} {Q : zR × zS → Prop}
theorem sds_rng (W : WF B M) : ∀ n, (0 ≤ (zlp (zsds M a) 0 n (0, 0)).1 ∧ (zlp (zsds M a) 0 n (0, 0)).1 ≤ 10 * (n : Int)) ∧ (0 ≤ (zlp (zsds M a) 0 n (0, 0)).2 ∧ (zlp (zsds M a) 0 n (0, 0)).2 ≤ (n : Int)) := by
  intro n
  induction n with
  | zero => exact ⟨⟨Int.le_refl _, by show (0 : Int) ≤ 10 * ((0 : Nat) : Int); decide⟩, ⟨Int.le_refl _, Int.le_refl _⟩⟩
  | succ n ih =>
    rw [zlp_s0]
    generalize zlp (zsds M a) 0 n (0, 0) = c at *
    have hT := W.Tr (n : Int) a
    by_cases e : M.T a (n : Int) = -1
    · rw [sds_p e]; omega
    · have e2 : ¬ M.T (n : Int) a = -1 := fun z => e (W.Ts _ _ z)
      rw [sds_n e]
      dsimp only
      omega
theorem sds_ct (a : Nat) : ∀ n, (zlp (zsds M (a : Int)) 0 n (0, 0)).2 = zlp (fun j c => c + zlk M a j) 0 n 0 := by
  intro n
  induction n with
  | zero => rfl
  | succ n ih =>
    rw [zlp_s0, zlp_s0, ← ih]
    by_cases e : M.T (a : Int) (n : Int) = -1
    · have e2 : zlk M a n = 0 := if_pos e
      rw [sds_p e, e2, Int.add_zero]
    · have e2 : zlk M a n = 1 := if_neg e
      rw [sds_n e, e2]
theorem sdn_ct (h6 : M.an.length ≤ 6) (ha : 0 ≤ a) : zcu (M.ngh a) = (M.sdn a).2 := by
  obtain ⟨k, rfl⟩ : ∃ k : Nat, a = (k : Int) := ⟨a.toNat, by omega⟩
  have h1 := (ngh_ct M k M.an.length h6).2
  have h2 := sds_ct (M := M) k M.an.length
  exact h1.trans h2.symm
theorem stn_ok (W : WF B M) : zFok (M.stn a) := by
  have h := sds_rng (a := a) W M.an.length
  have h6 := W.al
  have e : M.sdn a = zlp (zsds M a) 0 M.an.length (0, 0) := rfl
  rw [← e] at h
  unfold zD.stn
  by_cases z : (M.sdn a).2 = 0
  · rw [if_pos z]; exact ⟨fl_0.1, fl_0.2⟩
  · rw [if_neg z]; exact (fl_ok (by omega) (by omega)).2
theorem c_stand (C : CB S x) (hD : D7 S μ (x + 12) M) (W : WF B M) (ha : 0 ≤ a ∧ a < 6) : zo (f_X7_standing_12 zFU x a 0 0 0 (S, μ)) (fun r => r = (.inl (M.stn a), (S, μ))) := by
  have h60 := hD.al
  refine zo_fon (F := fun n (k : Nat) (c : Int × Int) => f_X7_standing_12 n x a c.1 c.2 (k : Int) (S, μ)) (N := M.an.length) (st := zsds M a) (c0 := (0, 0)) (fun k c => (0 ≤ c.1 ∧ c.1 ≤ 10 * (k : Int)) ∧ (0 ≤ c.2 ∧ c.2 ≤ (k : Int))) ?_ (by decide) (by show M.an.length < 1000000; omega)
  intro n k c hk hc ih fin
  refine j_X7_standing_12 ?_
  refine zo_gr C.o C.r3 (by omega) (by omega) ?_
  refine zo_gr hD.sh.o hD.sh.r1 (by omega) (by omega) ?_
  refine zo_gf hD.sh.ag.o hD.an0 (by omega) (by omega) ?_
  by_cases e : k < M.an.length
  · have ih := ih e
    have hT := W.Tr (k : Int) a
    refine zo_pos (by omega) ?_
    refine zo_gr C.o C.r3 (by omega) (by omega) ?_
    refine zo_ob hD.sh.o (by omega) ?_
    refine zo_bn (d_isLinked hD ha (by omega)) ?_
    refine zo_zb (fun z => ?_) (fun z => ?_)
    · rw [sds_p (Classical.not_not.mp z)] at ih
      refine j_X7_standing_56 ?_
      rw [w32_s (k := k) (by omega)]
      exact ih (by omega)
    · have e2 : ¬ M.T (k : Int) a = -1 := fun y => z (W.Ts _ _ y)
      rw [sds_n z] at ih
      refine zo_gr C.o C.r3 (by omega) (by omega) ?_
      refine zo_ob hD.sh.o (by omega) ?_
      refine zo_bn (d_trustIn hD (by omega) ha) ?_
      refine j_X7_standing_56 ?_
      rw [w32_s (k := k) (by omega), w32_e (z := c.1 + M.T (k : Int) a) (by omega), w32_e (z := c.2 + 1) (by omega)]
      exact ih ⟨by dsimp only; omega, by dsimp only; omega⟩
  · have e9 : M.sdn a = c := fin (by omega)
    refine zo_neg (by omega) ?_
    refine j_X7_standing_62 ?_
    have es : M.stn a = if c.2 = 0 then 0 else zfd (zif c.1) (zif c.2) := by unfold zD.stn; rw [e9]
    by_cases z : c.2 = 0
    · have e7 : M.stn a = 0 := es.trans (if_pos z)
      exact zo_pos z (zo_rt (by rw [e7]))
    · have e7 : M.stn a = zfd (zif c.1) (zif c.2) := es.trans (if_neg z)
      refine zo_neg z ?_
      exact zo_pos (fl_ok (s := c.1) (n := c.2) (by omega) (by omega)).1 (zo_rt (by rw [e7]))
theorem b_stand (H : MSh S m A) (h : D8 (μ A) M) (W : WF B M) (ha : 0 ≤ a ∧ a < 6) : zo (f_X8_standing_18 zFU m a 0 0 (S, μ)) (fun r => r = (.inl (M.stn a), (S, μ))) := by
  have h60 := h.al
  refine zo_fon (F := fun n (k : Nat) (c : Int × Int) => f_X8_standing_18 n m a c.1 (k : Int) (S, μ)) (N := M.an.length) (st := zsds M a) (c0 := (0, 0)) (fun k c => (0 ≤ c.1 ∧ c.1 ≤ 10 * (k : Int)) ∧ (0 ≤ c.2 ∧ c.2 ≤ (k : Int))) ?_ (by decide) (by show M.an.length < 1000000; omega)
  intro n k c hk hc ih fin
  refine j_X8_standing_18 ?_
  refine zo_ob H.o (by omega) ?_
  refine zo_bn (b_agents H h) ?_
  by_cases e : k < M.an.length
  · have ih := ih e
    have hT := W.Tr (k : Int) a
    refine zo_pos (by omega) ?_
    refine zo_ob H.o (by omega) ?_
    refine zo_bn (b_areLinked H h ha (by omega)) ?_
    refine zo_zb (fun z => ?_) (fun z => ?_)
    · rw [sds_p (Classical.not_not.mp z)] at ih
      refine j_X8_standing_46 ?_
      rw [w32_s (k := k) (by omega), Int.add_zero, w32_e (z := c.1) (by omega)]
      exact ih (by omega)
    · have e2 : ¬ M.T (k : Int) a = -1 := fun y => z (W.Ts _ _ y)
      rw [sds_n z] at ih
      refine zo_ob H.o (by omega) ?_
      refine zo_bn (b_trustOf H h (by omega) ha) ?_
      refine j_X8_standing_46 ?_
      rw [w32_s (k := k) (by omega), w32_e (z := c.1 + M.T (k : Int) a) (by omega)]
      exact ih ⟨by dsimp only; omega, by dsimp only; omega⟩
  · have e9 : M.sdn a = c := fin (by omega)
    have e8 := sdn_ct (a := a) h60 ha.1
    rw [e9] at e8
    refine zo_neg (by omega) ?_
    refine j_X8_standing_54 ?_
    refine zo_ob H.o (by omega) ?_
    refine zo_bn (b_neighborsOf H h ha) ?_
    refine zo_bn b_bits ?_
    rw [e8]
    have es : M.stn a = if c.2 = 0 then 0 else zfd (zif c.1) (zif c.2) := by unfold zD.stn; rw [e9]
    by_cases z : c.2 = 0
    · have e7 : M.stn a = 0 := es.trans (if_pos z)
      exact zo_pos z (zo_rt (by rw [e7]))
    · have e7 : M.stn a = zfd (zif c.1) (zif c.2) := es.trans (if_neg z)
      refine zo_neg z ?_
      exact zo_pos (fl_ok (s := c.1) (n := c.2) (by omega) (by omega)).1 (zo_rt (by rw [e7]))
theorem o_standing (h : Wd B x S μ M L K inp out c p) (hP : ∀ S1 μ3, Wd B x S1 μ3 M L K inp out c p → P S1 μ3) : zOpf x P (f_X7_standing x a) (f_X8_standing (x + 66) a) [(2, 1)] S μ := by
  have hx := h.o.x0
  have h60 := h.a.D.al
  have W := h.w.M
  by_cases h1 : 0 ≤ a ∧ a < (M.an.length : Int)
  · have ha : 0 ≤ a ∧ a < 6 := by omega
    refine Or.inl ⟨M.stn a, S, μ, ?_, stn_ok W, fun u => ⟨zup (zup μ (x + 79) 0 u) (x + 66) 0 0, ?_, h.b.H.o, h.o.d, zup_at, by rw [zup_b (by omega)]; exact zup_at, hP S _ (Wd.mk ⟨h.a.keep (fun y hy => ?_), ?_, h.w, h.o⟩)⟩⟩
    · apply zo_un
      refine j_X7_standing ?_
      refine zo_ob h.a.C.o (by omega) ?_
      refine zo_bn (k_A h.a.C h.a.D h1) ?_
      exact c_stand h.a.C h.a.D W ha
    · have h8 : W8 S (zup μ (x + 79) 0 u) (x + 66) M L K inp out c p := h.b.keep (fun _ _ _ => rfl) (fun _ => rfl) (fun y h1 h2 _ _ _ _ => zup_c (by omega)) (fun k _ => zup_b (by omega))
      have g8 : W8 S (zup (zup μ (x + 79) 0 u) (x + 66) 0 0) (x + 66) M L K inp out c p := FM.u0.w8 h8
      apply zo_un
      refine j_X8_standing ?_
      refine zo_ob h8.H.o (by omega) ?_
      refine zo_bn (b_isAgent h8.H h8.D) ?_
      refine m_p1 h8.H (zbl_nz h1) ?_
      exact b_stand g8.H g8.D W ha
    · rw [zup_c (by omega)]
      by_cases e : y = x + 79
      · omega
      · exact zup_c e
    · have h8 : W8 S (zup μ (x + 79) 0 u) (x + 66) M L K inp out c p := h.b.keep (fun _ _ _ => rfl) (fun _ => rfl) (fun y h1 h2 _ _ _ _ => zup_c (by omega)) (fun k _ => zup_b (by omega))
      exact FM.u0.w8 h8
  · have key : zOp x P (f_X7_standing x a) (f_X8_standing (x + 66) a) [(2, 1)] S μ := by
      refine op_t 2 1 h ?_ (by decide) (by decide) ?_ hP
      · apply zo_un
        refine j_X7_standing ?_
        refine zo_ob h.a.C.o (by omega) ?_
        exact zo_be (k_A_no h.a.C h.a.D h1) rfl
      · intro S1 μ2 h8
        refine zo_xt ?_
        refine j_X8_standing ?_
        refine zo_ob h8.H.o (by omega) ?_
        refine zo_bn (b_isAgent h8.H h8.D) ?_
        refine m_f1 h8.H (zbl_n h1) ?_
        exact ⟨_, _, rfl, FM.u0, zup_at⟩
    rcases key with ⟨v, S1, μ1, e, _⟩ | key
    · have e2 : f_X7_standing x a (S, μ) = some (.inr 2, (S, μ)) := by
        apply zo_un
        refine j_X7_standing ?_
        refine zo_ob h.a.C.o (by omega) ?_
        exact zo_be (k_A_no h.a.C h.a.D h1) rfl
      rw [e2] at e
      exact absurd (Option.some.inj e) (by simp)
    · exact Or.inr key
end C77
