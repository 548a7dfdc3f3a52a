/- X7_checkBounds -/

set_option maxRecDepth 100000 in
set_option maxHeartbeats 4000000 in
theorem t_X7_checkBounds {g : zF} (hl0 : g.2.2.2.1.stackTraces = false) {Q : zR × zS → Prop}   {a0 a1 : Int} {σ : zS} (h : zo (f_X7_checkBounds  a0 a1 σ) Q) : zw g Y_X7_checkBounds R_X7_checkBounds 0 [(0, (0, a0)), (1, (0, a1))] [] σ 2 12 Q := by
  unfold f_X7_checkBounds at h
  refine r_iload_n 0 dX7_checkBounds_0 rfl ?_
  refine r_iconst (v := 0) dX7_checkBounds_1 rfl rfl ?_
  refine r_sipush (v := 999) dX7_checkBounds_2 rfl rfl ?_
  refine r_callS (K' := Y_X7_checkRange) (R' := R_X7_checkRange) (idx := 72) (n := 3) (as := [(0, a0), (0, 0), (0, 999)]) (rest := []) (C' := 1) (D' := 6) rfl k0_X7_checkRange wd_801 kl_X7_72 ⟨by decide, by decide⟩ dX7_checkBounds_5 rfl rfl (Nat.le_of_ble_eq_true rfl) (by decide) (by decide) h (fun r hr => m_X7_checkRange hl0 ⟨r, hr, hr⟩) (fun _ τ2 _ h => ?_)
  refine r_iload_n 1 dX7_checkBounds_8 rfl ?_
  refine r_iload_n 0 dX7_checkBounds_9 rfl ?_
  refine r_sipush (v := 999) dX7_checkBounds_10 rfl rfl ?_
  refine r_callS (K' := Y_X7_checkRange) (R' := R_X7_checkRange) (idx := 72) (n := 3) (as := [(0, a1), (0, a0), (0, 999)]) (rest := []) (C' := 0) (D' := 0) rfl k0_X7_checkRange wd_801 kl_X7_72 ⟨by decide, by decide⟩ dX7_checkBounds_13 rfl rfl (Nat.le_of_ble_eq_true rfl) (by decide) (by decide) h (fun r hr => m_X7_checkRange hl0 ⟨r, hr, hr⟩) (fun _ τ4 _ h => ?_)
  exact r_vret rfl dX7_checkBounds_16 h
theorem m_X7_checkBounds {g : zF} (hl0 : g.2.2.2.1.stackTraces = false) {Q : zR × zS → Prop} {a0 a1 : Int} {σ : zS} (h : zo (f_X7_checkBounds a0 a1 σ) Q) : zm g Y_X7_checkBounds R_X7_checkBounds [(0, a0), (0, a1)] σ Q := zm_of (by decide) rfl (Nat.le_of_ble_eq_true rfl) (t_X7_checkBounds hl0 h)


/- X7_beliefIf -/

set_option maxRecDepth 100000 in
set_option maxHeartbeats 4000000 in
theorem t_X7_beliefIf {g : zF} (hl0 : g.2.2.2.1.stackTraces = false) {Q : zR × zS → Prop}   {a0 a1 a2 a3 a4 a5 : Int} {σ : zS} (h : zo (f_X7_beliefIf  a0 a1 a2 a3 a4 a5 σ) Q) : zw g Y_X7_beliefIf R_X7_beliefIf 0 [(0, (4, a0)), (1, (0, a1)), (2, (0, a2)), (3, (0, a3)), (4, (0, a4)), (5, (0, a5))] [] σ 5 30 Q := by
  unfold f_X7_beliefIf at h
  refine r_aload_n 0 dX7_beliefIf_0 rfl ?_
  refine r_iload_n 1 dX7_beliefIf_1 rfl ?_
  refine r_callV (K' := Y_X7_checkAgent) (R' := R_X7_checkAgent) (idx := 127) (n := 1) (b := a0) (as := [(0, a1)]) (rest := []) (C' := 4) (D' := 24) (cn := 7) rfl k0_X7_checkAgent kV_X7_checkAgent kl_X7_127 ⟨by decide, by decide⟩ dX7_beliefIf_2 rfl rfl (Nat.le_of_ble_eq_true rfl) (by decide) (by decide) rfl h (fun r hr => m_X7_checkAgent hl0 ⟨r, hr, hr⟩) (fun _ τ2 _ h => ?_)
  refine r_aload_n 0 dX7_beliefIf_5 rfl ?_
  refine r_iload_n 2 dX7_beliefIf_6 rfl ?_
  refine r_callV (K' := Y_X7_checkWay) (R' := R_X7_checkWay) (idx := 167) (n := 1) (b := a0) (as := [(0, a2)]) (rest := []) (C' := 3) (D' := 18) (cn := 7) rfl k0_X7_checkWay kV_X7_checkWay kl_X7_167 ⟨by decide, by decide⟩ dX7_beliefIf_7 rfl rfl (Nat.le_of_ble_eq_true rfl) (by decide) (by decide) rfl h (fun r hr => m_X7_checkWay hl0 ⟨r, hr, hr⟩) (fun _ τ4 _ h => ?_)
  refine r_iload_n 3 dX7_beliefIf_10 rfl ?_
  refine r_iload 4 dX7_beliefIf_11 rfl ?_
  refine r_callS (K' := Y_X7_checkBounds) (R' := R_X7_checkBounds) (idx := 227) (n := 2) (as := [(0, a3), (0, a4)]) (rest := []) (C' := 1) (D' := 6) rfl k0_X7_checkBounds wd_1176 kl_X7_227 ⟨by decide, by decide⟩ dX7_beliefIf_13 rfl rfl (Nat.le_of_ble_eq_true rfl) (by decide) (by decide) h (fun r hr => m_X7_checkBounds hl0 ⟨r, hr, hr⟩) (fun _ τ6 _ h => ?_)
  refine r_iload 5 dX7_beliefIf_16 rfl ?_
  refine r_iconst (v := 0) dX7_beliefIf_18 rfl rfl ?_
  refine r_iconst (v := 1) dX7_beliefIf_19 rfl rfl ?_
  refine r_callS (K' := Y_X7_checkRange) (R' := R_X7_checkRange) (idx := 72) (n := 3) (as := [(0, a5), (0, 0), (0, 1)]) (rest := []) (C' := 0) (D' := 0) rfl k0_X7_checkRange wd_801 kl_X7_72 ⟨by decide, by decide⟩ dX7_beliefIf_20 rfl rfl (Nat.le_of_ble_eq_true rfl) (by decide) (by decide) h (fun r hr => m_X7_checkRange hl0 ⟨r, hr, hr⟩) (fun _ τ8 _ h => ?_)
  refine r_aload_n 0 dX7_beliefIf_23 rfl ?_
  refine r_getr fd_X7_35 rfl dX7_beliefIf_24 h (fun x9 h => ?_)
  refine r_aload_n 0 dX7_beliefIf_27 rfl ?_
  refine r_getr fd_X7_31 rfl dX7_beliefIf_28 h (fun x10 h => ?_)
  refine r_callV (K' := Y_X1_become) (R' := R_X1_become) (idx := 84) (n := 1) (b := x9) (as := [(4, x10)]) (rest := []) (C' := 0) (D' := 0) (cn := 1) rfl k0_X1_become kV_X1_become kl_X7_84 ⟨by decide, by decide⟩ dX7_beliefIf_31 rfl rfl (Nat.le_of_ble_eq_true rfl) (by decide) (by decide) rfl h (fun r hr => m_X1_become hl0 ⟨r, hr, hr⟩) (fun _ τ12 _ h => ?_)
  refine r_aload_n 0 dX7_beliefIf_34 rfl ?_
  refine r_getr fd_X7_35 rfl dX7_beliefIf_35 h (fun x13 h => ?_)
  refine r_iload_n 1 dX7_beliefIf_38 rfl ?_
  refine r_iload_n 2 dX7_beliefIf_39 rfl ?_
  refine r_iload_n 3 dX7_beliefIf_40 rfl ?_
  refine r_iload 4 dX7_beliefIf_41 rfl ?_
  refine r_callV (K' := Y_X1_makeProbe) (R' := R_X1_makeProbe) (idx := 230) (n := 4) (b := x13) (as := [(0, a1), (0, a2), (0, a3), (0, a4)]) (rest := []) (C' := 0) (D' := 0) (cn := 1) rfl k0_X1_makeProbe kV_X1_makeProbe kl_X7_230 ⟨by decide, by decide⟩ dX7_beliefIf_43 rfl rfl (Nat.le_of_ble_eq_true rfl) (by decide) (by decide) rfl h (fun r hr => m_X1_makeProbe hl0 ⟨r, hr, hr⟩) (fun x14 τ15 _ h => ?_)
  refine r_pop dX7_beliefIf_46 rfl ?_
  refine r_aload_n 0 dX7_beliefIf_47 rfl ?_
  refine r_aload_n 0 dX7_beliefIf_48 rfl ?_
  refine r_getr fd_X7_35 rfl dX7_beliefIf_49 h (fun x16 h => ?_)
  refine r_iload_n 1 dX7_beliefIf_52 rfl ?_
  refine r_iload_n 2 dX7_beliefIf_53 rfl ?_
  refine r_iload 5 dX7_beliefIf_54 rfl ?_
  refine r_callV (K' := Y_X7_believed) (R' := R_X7_believed) (idx := 173) (n := 4) (b := a0) (as := [(4, x16), (0, a1), (0, a2), (0, a5)]) (rest := []) (C' := 0) (D' := 0) (cn := 7) rfl k0_X7_believed kV_X7_believed kl_X7_173 ⟨by decide, by decide⟩ dX7_beliefIf_56 rfl rfl (Nat.le_of_ble_eq_true rfl) (by decide) (by decide) rfl h (fun r hr => m_X7_believed hl0 ⟨r, hr, hr⟩) (fun x17 τ18 _ h => ?_)
  exact r_iret rfl dX7_beliefIf_59 h
theorem m_X7_beliefIf {g : zF} (hl0 : g.2.2.2.1.stackTraces = false) {Q : zR × zS → Prop} {a0 a1 a2 a3 a4 a5 : Int} {σ : zS} (h : zo (f_X7_beliefIf a0 a1 a2 a3 a4 a5 σ) Q) : zm g Y_X7_beliefIf R_X7_beliefIf [(4, a0), (0, a1), (0, a2), (0, a3), (0, a4), (0, a5)] σ Q := zm_of (by decide) rfl (Nat.le_of_ble_eq_true rfl) (t_X7_beliefIf hl0 h)


/- X7_trustIf -/

set_option maxRecDepth 100000 in
set_option maxHeartbeats 4000000 in
theorem t_X7_trustIf {g : zF} (hl0 : g.2.2.2.1.stackTraces = false) {Q : zR × zS → Prop}   {a0 a1 a2 a3 a4 a5 : Int} {σ : zS} (h : zo (f_X7_trustIf  a0 a1 a2 a3 a4 a5 σ) Q) : zw g Y_X7_trustIf R_X7_trustIf 0 [(0, (4, a0)), (1, (0, a1)), (2, (0, a2)), (3, (0, a3)), (4, (0, a4)), (5, (0, a5))] [] σ 5 30 Q := by
  unfold f_X7_trustIf at h
  refine r_aload_n 0 dX7_trustIf_0 rfl ?_
  refine r_iload_n 1 dX7_trustIf_1 rfl ?_
  refine r_callV (K' := Y_X7_checkAgent) (R' := R_X7_checkAgent) (idx := 127) (n := 1) (b := a0) (as := [(0, a1)]) (rest := []) (C' := 4) (D' := 24) (cn := 7) rfl k0_X7_checkAgent kV_X7_checkAgent kl_X7_127 ⟨by decide, by decide⟩ dX7_trustIf_2 rfl rfl (Nat.le_of_ble_eq_true rfl) (by decide) (by decide) rfl h (fun r hr => m_X7_checkAgent hl0 ⟨r, hr, hr⟩) (fun _ τ2 _ h => ?_)
  refine r_aload_n 0 dX7_trustIf_5 rfl ?_
  refine r_iload_n 2 dX7_trustIf_6 rfl ?_
  refine r_callV (K' := Y_X7_checkWay) (R' := R_X7_checkWay) (idx := 167) (n := 1) (b := a0) (as := [(0, a2)]) (rest := []) (C' := 3) (D' := 18) (cn := 7) rfl k0_X7_checkWay kV_X7_checkWay kl_X7_167 ⟨by decide, by decide⟩ dX7_trustIf_7 rfl rfl (Nat.le_of_ble_eq_true rfl) (by decide) (by decide) rfl h (fun r hr => m_X7_checkWay hl0 ⟨r, hr, hr⟩) (fun _ τ4 _ h => ?_)
  refine r_aload_n 0 dX7_trustIf_10 rfl ?_
  refine r_iload 5 dX7_trustIf_11 rfl ?_
  refine r_callV (K' := Y_X7_checkAgent) (R' := R_X7_checkAgent) (idx := 127) (n := 1) (b := a0) (as := [(0, a5)]) (rest := []) (C' := 2) (D' := 12) (cn := 7) rfl k0_X7_checkAgent kV_X7_checkAgent kl_X7_127 ⟨by decide, by decide⟩ dX7_trustIf_13 rfl rfl (Nat.le_of_ble_eq_true rfl) (by decide) (by decide) rfl h (fun r hr => m_X7_checkAgent hl0 ⟨r, hr, hr⟩) (fun _ τ6 _ h => ?_)
  refine r_iload_n 3 dX7_trustIf_16 rfl ?_
  refine r_iload 4 dX7_trustIf_17 rfl ?_
  refine r_callS (K' := Y_X7_checkBounds) (R' := R_X7_checkBounds) (idx := 227) (n := 2) (as := [(0, a3), (0, a4)]) (rest := []) (C' := 0) (D' := 0) rfl k0_X7_checkBounds wd_1176 kl_X7_227 ⟨by decide, by decide⟩ dX7_trustIf_19 rfl rfl (Nat.le_of_ble_eq_true rfl) (by decide) (by decide) h (fun r hr => m_X7_checkBounds hl0 ⟨r, hr, hr⟩) (fun _ τ8 _ h => ?_)
  refine r_aload_n 0 dX7_trustIf_22 rfl ?_
  refine r_getr fd_X7_35 rfl dX7_trustIf_23 h (fun x9 h => ?_)
  refine r_aload_n 0 dX7_trustIf_26 rfl ?_
  refine r_getr fd_X7_31 rfl dX7_trustIf_27 h (fun x10 h => ?_)
  refine r_callV (K' := Y_X1_become) (R' := R_X1_become) (idx := 84) (n := 1) (b := x9) (as := [(4, x10)]) (rest := []) (C' := 0) (D' := 0) (cn := 1) rfl k0_X1_become kV_X1_become kl_X7_84 ⟨by decide, by decide⟩ dX7_trustIf_30 rfl rfl (Nat.le_of_ble_eq_true rfl) (by decide) (by decide) rfl h (fun r hr => m_X1_become hl0 ⟨r, hr, hr⟩) (fun _ τ12 _ h => ?_)
  refine r_aload_n 0 dX7_trustIf_33 rfl ?_
  refine r_getr fd_X7_35 rfl dX7_trustIf_34 h (fun x13 h => ?_)
  refine r_iload_n 1 dX7_trustIf_37 rfl ?_
  refine r_iload_n 2 dX7_trustIf_38 rfl ?_
  refine r_iload_n 3 dX7_trustIf_39 rfl ?_
  refine r_iload 4 dX7_trustIf_40 rfl ?_
  refine r_callV (K' := Y_X1_makeProbe) (R' := R_X1_makeProbe) (idx := 230) (n := 4) (b := x13) (as := [(0, a1), (0, a2), (0, a3), (0, a4)]) (rest := []) (C' := 0) (D' := 0) (cn := 1) rfl k0_X1_makeProbe kV_X1_makeProbe kl_X7_230 ⟨by decide, by decide⟩ dX7_trustIf_42 rfl rfl (Nat.le_of_ble_eq_true rfl) (by decide) (by decide) rfl h (fun r hr => m_X1_makeProbe hl0 ⟨r, hr, hr⟩) (fun x14 τ15 _ h => ?_)
  refine r_pop dX7_trustIf_45 rfl ?_
  refine r_aload_n 0 dX7_trustIf_46 rfl ?_
  refine r_getr fd_X7_35 rfl dX7_trustIf_47 h (fun x16 h => ?_)
  refine r_iload_n 1 dX7_trustIf_50 rfl ?_
  refine r_iload 5 dX7_trustIf_51 rfl ?_
  refine r_callV (K' := Y_X1_trustIn) (R' := R_X1_trustIn) (idx := 130) (n := 2) (b := x16) (as := [(0, a1), (0, a5)]) (rest := []) (C' := 0) (D' := 0) (cn := 1) rfl k0_X1_trustIn kV_X1_trustIn kl_X7_130 ⟨by decide, by decide⟩ dX7_trustIf_53 rfl rfl (Nat.le_of_ble_eq_true rfl) (by decide) (by decide) rfl h (fun r hr => m_X1_trustIn hl0 ⟨r, hr, hr⟩) (fun x17 τ18 _ h => ?_)
  exact r_iret rfl dX7_trustIf_56 h
theorem m_X7_trustIf {g : zF} (hl0 : g.2.2.2.1.stackTraces = false) {Q : zR × zS → Prop} {a0 a1 a2 a3 a4 a5 : Int} {σ : zS} (h : zo (f_X7_trustIf a0 a1 a2 a3 a4 a5 σ) Q) : zm g Y_X7_trustIf R_X7_trustIf [(4, a0), (0, a1), (0, a2), (0, a3), (0, a4), (0, a5)] σ Q := zm_of (by decide) rfl (Nat.le_of_ble_eq_true rfl) (t_X7_trustIf hl0 h)


/- X7_informed -/

set_option maxRecDepth 100000 in
set_option maxHeartbeats 4000000 in
theorem t_X7_informed_85 {g : zF} (hl0 : g.2.2.2.1.stackTraces = false) {Q : zR × zS → Prop} (r43 : Int → Int → Int → Int → Int → zS → zFn) (hr43 : ∀ b0 b1 b2 b4 b5 τ, zo (r43 b0 b1 b2 b4 b5 τ) Q → zw g Y_X7_informed R_X7_informed 43 [(0, (4, b0)), (1, (0, b1)), (2, (0, b2)), (4, (0, b4)), (5, (0, b5))] [] τ 0 0 Q) {a0 a1 a2 a4 a5 : Int} {σ : zS} (h : zo (f_X7_informed_85 r43 a0 a1 a2 a4 a5 σ) Q) : zw g Y_X7_informed R_X7_informed 85 [(0, (4, a0)), (1, (0, a1)), (2, (0, a2)), (4, (0, a4)), (5, (0, a5))] [] σ 0 0 Q := by
  unfold f_X7_informed_85 at h
  refine r_iinc (L' := [(5, (0, (w32 (a5 + 1)))), (0, (4, a0)), (1, (0, a1)), (2, (0, a2)), (4, (0, a4))]) 4 dX7_informed_85 rfl (by decide) rfl ?_
  refine r_goto 43 dX7_informed_88 (by decide) ?_
  refine r_weak (L' := [(0, (4, a0)), (1, (0, a1)), (2, (0, a2)), (4, (0, a4)), (5, (0, (w32 (a5 + 1))))]) [1, 2, 3, 4, 0] rfl ?_
  exact hr43 _ _ _ _ _ _ h

set_option maxRecDepth 100000 in
set_option maxHeartbeats 4000000 in
theorem t_X7_informed_43 {g : zF} (hl0 : g.2.2.2.1.stackTraces = false) {Q : zR × zS → Prop}   : ∀ (n : Nat) (a0 a1 a2 a4 a5 : Int) (σ : zS), zo (f_X7_informed_43  n a0 a1 a2 a4 a5 σ) Q → zw g Y_X7_informed R_X7_informed 43 [(0, (4, a0)), (1, (0, a1)), (2, (0, a2)), (4, (0, a4)), (5, (0, a5))] [] σ 0 0 Q := by
  intro n
  induction n with
  | zero => intro a0 a1 a2 a4 a5 σ h; obtain ⟨r, h, -⟩ := h; cases h
  | succ n ih =>
    intro a0 a1 a2 a4 a5 σ h
    unfold f_X7_informed_43 at h
    refine r_iload 4 dX7_informed_43 rfl ?_
    refine r_aload_n 0 dX7_informed_45 rfl ?_
    refine r_getr fd_X7_35 rfl dX7_informed_46 h (fun x1 h => ?_)
    refine r_getr fd_X7_87 rfl dX7_informed_49 h (fun x2 h => ?_)
    refine r_getf fd_X7_91 rfl dX7_informed_52 h (fun x3 h => ?_)
    refine r_icmp_ge 91 dX7_informed_55 (by decide) h (fun h => ?_) (fun h => ?_)
    · refine r_iload 3 dX7_informed_91 rfl ?_
      exact r_iret rfl dX7_informed_93 h
    · refine r_aload_n 0 dX7_informed_58 rfl ?_
      refine r_getr fd_X7_35 rfl dX7_informed_59 h (fun x4 h => ?_)
      refine r_iload 4 dX7_informed_62 rfl ?_
      refine r_callV (K' := Y_X1_listOf) (R' := R_X1_listOf) (idx := 144) (n := 1) (b := x4) (as := [(0, a5)]) (rest := []) (C' := 0) (D' := 0) (cn := 1) rfl k0_X1_listOf kV_X1_listOf kl_X7_144 ⟨by decide, by decide⟩ dX7_informed_64 rfl rfl (Nat.le_of_ble_eq_true rfl) (by decide) (by decide) rfl h (fun r hr => m_X1_listOf hl0 ⟨r, hr, hr⟩) (fun x5 τ6 _ h => ?_)
      refine r_iload_n 1 dX7_informed_67 rfl ?_
      refine r_iload_n 2 dX7_informed_68 rfl ?_
      refine r_callV (K' := Y_X5_rowOf) (R' := R_X5_rowOf) (idx := 170) (n := 2) (b := x5) (as := [(0, a1), (0, a2)]) (rest := []) (C' := 0) (D' := 0) (cn := 5) rfl k0_X5_rowOf kV_X5_rowOf kl_X7_170 ⟨by decide, by decide⟩ dX7_informed_69 rfl rfl (Nat.le_of_ble_eq_true rfl) (by decide) (by decide) rfl h (fun r hr => m_X5_rowOf hl0 ⟨r, hr, hr⟩) (fun x7 τ8 _ h => ?_)
      refine r_iconst (v := (-1)) dX7_informed_72 rfl rfl ?_
      refine r_icmp_eq 85 dX7_informed_73 (by decide) h (fun h => ?_) (fun h => ?_)
      · exact t_X7_informed_85 hl0 (f_X7_informed_43  n) (fun b0 b1 b2 b4 b5 τ h => ih b0 b1 b2 b4 b5 τ h) h
      · refine r_iload 3 dX7_informed_76 rfl ?_
        refine r_iconst (v := 1) dX7_informed_78 rfl rfl ?_
        refine r_iload 4 dX7_informed_79 rfl ?_
        refine r_ishl dX7_informed_81 ?_
        refine r_ior dX7_informed_82 ?_
        refine r_istore (L' := [(4, (0, (zor a4 (zshl 1 a5)))), (0, (4, a0)), (1, (0, a1)), (2, (0, a2)), (5, (0, a5))]) dX7_informed_83 (by decide) rfl ?_
        refine r_weak (L' := [(0, (4, a0)), (1, (0, a1)), (2, (0, a2)), (4, (0, (zor a4 (zshl 1 a5)))), (5, (0, a5))]) [1, 2, 3, 0, 4] rfl ?_
        exact t_X7_informed_85 hl0 (f_X7_informed_43  n) (fun b0 b1 b2 b4 b5 τ h => ih b0 b1 b2 b4 b5 τ h) h

set_option maxRecDepth 100000 in
set_option maxHeartbeats 4000000 in
theorem t_X7_informed {g : zF} (hl0 : g.2.2.2.1.stackTraces = false) {Q : zR × zS → Prop}   {a0 a1 a2 a3 : Int} {σ : zS} (h : zo (f_X7_informed  a0 a1 a2 a3 σ) Q) : zw g Y_X7_informed R_X7_informed 0 [(0, (4, a0)), (1, (0, a1)), (2, (0, a2)), (3, (0, a3))] [] σ 3 18 Q := by
  unfold f_X7_informed at h
  refine r_aload_n 0 dX7_informed_0 rfl ?_
  refine r_iload_n 1 dX7_informed_1 rfl ?_
  refine r_callV (K' := Y_X7_checkAgent) (R' := R_X7_checkAgent) (idx := 127) (n := 1) (b := a0) (as := [(0, a1)]) (rest := []) (C' := 2) (D' := 12) (cn := 7) rfl k0_X7_checkAgent kV_X7_checkAgent kl_X7_127 ⟨by decide, by decide⟩ dX7_informed_2 rfl rfl (Nat.le_of_ble_eq_true rfl) (by decide) (by decide) rfl h (fun r hr => m_X7_checkAgent hl0 ⟨r, hr, hr⟩) (fun _ τ2 _ h => ?_)
  refine r_aload_n 0 dX7_informed_5 rfl ?_
  refine r_iload_n 2 dX7_informed_6 rfl ?_
  refine r_callV (K' := Y_X7_checkWay) (R' := R_X7_checkWay) (idx := 167) (n := 1) (b := a0) (as := [(0, a2)]) (rest := []) (C' := 1) (D' := 6) (cn := 7) rfl k0_X7_checkWay kV_X7_checkWay kl_X7_167 ⟨by decide, by decide⟩ dX7_informed_7 rfl rfl (Nat.le_of_ble_eq_true rfl) (by decide) (by decide) rfl h (fun r hr => m_X7_checkWay hl0 ⟨r, hr, hr⟩) (fun _ τ4 _ h => ?_)
  refine r_iload_n 3 dX7_informed_10 rfl ?_
  refine r_iconst (v := 0) dX7_informed_11 rfl rfl ?_
  refine r_bipush (v := 6) dX7_informed_12 rfl rfl ?_
  refine r_callS (K' := Y_X7_checkRange) (R' := R_X7_checkRange) (idx := 72) (n := 3) (as := [(0, a3), (0, 0), (0, 6)]) (rest := []) (C' := 0) (D' := 0) rfl k0_X7_checkRange wd_801 kl_X7_72 ⟨by decide, by decide⟩ dX7_informed_14 rfl rfl (Nat.le_of_ble_eq_true rfl) (by decide) (by decide) h (fun r hr => m_X7_checkRange hl0 ⟨r, hr, hr⟩) (fun _ τ6 _ h => ?_)
  refine r_aload_n 0 dX7_informed_17 rfl ?_
  refine r_getr fd_X7_35 rfl dX7_informed_18 h (fun x7 h => ?_)
  refine r_aload_n 0 dX7_informed_21 rfl ?_
  refine r_getr fd_X7_31 rfl dX7_informed_22 h (fun x8 h => ?_)
  refine r_callV (K' := Y_X1_become) (R' := R_X1_become) (idx := 84) (n := 1) (b := x7) (as := [(4, x8)]) (rest := []) (C' := 0) (D' := 0) (cn := 1) rfl k0_X1_become kV_X1_become kl_X7_84 ⟨by decide, by decide⟩ dX7_informed_25 rfl rfl (Nat.le_of_ble_eq_true rfl) (by decide) (by decide) rfl h (fun r hr => m_X1_become hl0 ⟨r, hr, hr⟩) (fun _ τ10 _ h => ?_)
  refine r_aload_n 0 dX7_informed_28 rfl ?_
  refine r_getr fd_X7_35 rfl dX7_informed_29 h (fun x11 h => ?_)
  refine r_iload_n 3 dX7_informed_32 rfl ?_
  refine r_callV (K' := Y_X1_makeRounds) (R' := R_X1_makeRounds) (idx := 234) (n := 1) (b := x11) (as := [(0, a3)]) (rest := []) (C' := 0) (D' := 0) (cn := 1) rfl k0_X1_makeRounds kV_X1_makeRounds kl_X7_234 ⟨by decide, by decide⟩ dX7_informed_33 rfl rfl (Nat.le_of_ble_eq_true rfl) (by decide) (by decide) rfl h (fun r hr => m_X1_makeRounds hl0 ⟨r, hr, hr⟩) (fun x12 τ13 _ h => ?_)
  refine r_pop dX7_informed_36 rfl ?_
  refine r_iconst (v := 0) dX7_informed_37 rfl rfl ?_
  refine r_istore (L' := [(4, (0, 0)), (0, (4, a0)), (1, (0, a1)), (2, (0, a2)), (3, (0, a3))]) dX7_informed_38 (by decide) rfl ?_
  refine r_iconst (v := 0) dX7_informed_40 rfl rfl ?_
  refine r_istore (L' := [(5, (0, 0)), (4, (0, 0)), (0, (4, a0)), (1, (0, a1)), (2, (0, a2)), (3, (0, a3))]) dX7_informed_41 (by decide) rfl ?_
  refine r_weak (L' := [(0, (4, a0)), (1, (0, a1)), (2, (0, a2)), (4, (0, 0)), (5, (0, 0))]) [2, 3, 4, 1, 0] rfl ?_
  exact t_X7_informed_43 hl0   zFU _ _ _ _ _ _ h
theorem m_X7_informed {g : zF} (hl0 : g.2.2.2.1.stackTraces = false) {Q : zR × zS → Prop} {a0 a1 a2 a3 : Int} {σ : zS} (h : zo (f_X7_informed a0 a1 a2 a3 σ) Q) : zm g Y_X7_informed R_X7_informed [(4, a0), (0, a1), (0, a2), (0, a3)] σ Q := zm_of (by decide) rfl (Nat.le_of_ble_eq_true rfl) (t_X7_informed hl0 h)


/- X7_widthAfter -/

set_option maxRecDepth 100000 in
set_option maxHeartbeats 4000000 in
theorem t_X7_widthAfter {g : zF} (hl0 : g.2.2.2.1.stackTraces = false) {Q : zR × zS → Prop}   {a0 a1 a2 a3 : Int} {σ : zS} (h : zo (f_X7_widthAfter  a0 a1 a2 a3 σ) Q) : zw g Y_X7_widthAfter R_X7_widthAfter 0 [(0, (4, a0)), (1, (0, a1)), (2, (0, a2)), (3, (0, a3))] [] σ 3 18 Q := by
  unfold f_X7_widthAfter at h
  refine r_aload_n 0 dX7_widthAfter_0 rfl ?_
  refine r_iload_n 1 dX7_widthAfter_1 rfl ?_
  refine r_callV (K' := Y_X7_checkAgent) (R' := R_X7_checkAgent) (idx := 127) (n := 1) (b := a0) (as := [(0, a1)]) (rest := []) (C' := 2) (D' := 12) (cn := 7) rfl k0_X7_checkAgent kV_X7_checkAgent kl_X7_127 ⟨by decide, by decide⟩ dX7_widthAfter_2 rfl rfl (Nat.le_of_ble_eq_true rfl) (by decide) (by decide) rfl h (fun r hr => m_X7_checkAgent hl0 ⟨r, hr, hr⟩) (fun _ τ2 _ h => ?_)
  refine r_aload_n 0 dX7_widthAfter_5 rfl ?_
  refine r_iload_n 2 dX7_widthAfter_6 rfl ?_
  refine r_callV (K' := Y_X7_checkWay) (R' := R_X7_checkWay) (idx := 167) (n := 1) (b := a0) (as := [(0, a2)]) (rest := []) (C' := 1) (D' := 6) (cn := 7) rfl k0_X7_checkWay kV_X7_checkWay kl_X7_167 ⟨by decide, by decide⟩ dX7_widthAfter_7 rfl rfl (Nat.le_of_ble_eq_true rfl) (by decide) (by decide) rfl h (fun r hr => m_X7_checkWay hl0 ⟨r, hr, hr⟩) (fun _ τ4 _ h => ?_)
  refine r_iload_n 3 dX7_widthAfter_10 rfl ?_
  refine r_iconst (v := 0) dX7_widthAfter_11 rfl rfl ?_
  refine r_bipush (v := 99) dX7_widthAfter_12 rfl rfl ?_
  refine r_callS (K' := Y_X7_checkRange) (R' := R_X7_checkRange) (idx := 72) (n := 3) (as := [(0, a3), (0, 0), (0, 99)]) (rest := []) (C' := 0) (D' := 0) rfl k0_X7_checkRange wd_801 kl_X7_72 ⟨by decide, by decide⟩ dX7_widthAfter_14 rfl rfl (Nat.le_of_ble_eq_true rfl) (by decide) (by decide) h (fun r hr => m_X7_checkRange hl0 ⟨r, hr, hr⟩) (fun _ τ6 _ h => ?_)
  refine r_iload_n 3 dX7_widthAfter_17 rfl ?_
  refine r_if_ne 33 dX7_widthAfter_18 (by decide) h (fun h => ?_) (fun h => ?_)
  · refine r_aload_n 0 dX7_widthAfter_33 rfl ?_
    refine r_getr fd_X7_35 rfl dX7_widthAfter_34 h (fun x7 h => ?_)
    refine r_aload_n 0 dX7_widthAfter_37 rfl ?_
    refine r_getr fd_X7_31 rfl dX7_widthAfter_38 h (fun x8 h => ?_)
    refine r_callV (K' := Y_X1_become) (R' := R_X1_become) (idx := 84) (n := 1) (b := x7) (as := [(4, x8)]) (rest := []) (C' := 0) (D' := 0) (cn := 1) rfl k0_X1_become kV_X1_become kl_X7_84 ⟨by decide, by decide⟩ dX7_widthAfter_41 rfl rfl (Nat.le_of_ble_eq_true rfl) (by decide) (by decide) rfl h (fun r hr => m_X1_become hl0 ⟨r, hr, hr⟩) (fun _ τ10 _ h => ?_)
    refine r_aload_n 0 dX7_widthAfter_44 rfl ?_
    refine r_getr fd_X7_35 rfl dX7_widthAfter_45 h (fun x11 h => ?_)
    refine r_iload_n 3 dX7_widthAfter_48 rfl ?_
    refine r_callV (K' := Y_X1_letPass) (R' := R_X1_letPass) (idx := 237) (n := 1) (b := x11) (as := [(0, a3)]) (rest := []) (C' := 0) (D' := 0) (cn := 1) rfl k0_X1_letPass kV_X1_letPass kl_X7_237 ⟨by decide, by decide⟩ dX7_widthAfter_49 rfl rfl (Nat.le_of_ble_eq_true rfl) (by decide) (by decide) rfl h (fun r hr => m_X1_letPass hl0 ⟨r, hr, hr⟩) (fun x12 τ13 _ h => ?_)
    refine r_pop dX7_widthAfter_52 rfl ?_
    refine r_aload_n 0 dX7_widthAfter_53 rfl ?_
    refine r_aload_n 0 dX7_widthAfter_54 rfl ?_
    refine r_getr fd_X7_35 rfl dX7_widthAfter_55 h (fun x14 h => ?_)
    refine r_iload_n 1 dX7_widthAfter_58 rfl ?_
    refine r_iload_n 2 dX7_widthAfter_59 rfl ?_
    refine r_iconst (v := (-1)) dX7_widthAfter_60 rfl rfl ?_
    refine r_callV (K' := Y_X7_widthOf) (R' := R_X7_widthOf) (idx := 201) (n := 4) (b := a0) (as := [(4, x14), (0, a1), (0, a2), (0, (-1))]) (rest := []) (C' := 0) (D' := 0) (cn := 7) rfl k0_X7_widthOf kV_X7_widthOf kl_X7_201 ⟨by decide, by decide⟩ dX7_widthAfter_61 rfl rfl (Nat.le_of_ble_eq_true rfl) (by decide) (by decide) rfl h (fun r hr => m_X7_widthOf hl0 ⟨r, hr, hr⟩) (fun x15 τ16 _ h => ?_)
    exact r_iret rfl dX7_widthAfter_64 h
  · refine r_aload_n 0 dX7_widthAfter_21 rfl ?_
    refine r_aload_n 0 dX7_widthAfter_22 rfl ?_
    refine r_getr fd_X7_31 rfl dX7_widthAfter_23 h (fun x17 h => ?_)
    refine r_iload_n 1 dX7_widthAfter_26 rfl ?_
    refine r_iload_n 2 dX7_widthAfter_27 rfl ?_
    refine r_iconst (v := (-1)) dX7_widthAfter_28 rfl rfl ?_
    refine r_callV (K' := Y_X7_widthOf) (R' := R_X7_widthOf) (idx := 201) (n := 4) (b := a0) (as := [(4, x17), (0, a1), (0, a2), (0, (-1))]) (rest := []) (C' := 0) (D' := 0) (cn := 7) rfl k0_X7_widthOf kV_X7_widthOf kl_X7_201 ⟨by decide, by decide⟩ dX7_widthAfter_29 rfl rfl (Nat.le_of_ble_eq_true rfl) (by decide) (by decide) rfl h (fun r hr => m_X7_widthOf hl0 ⟨r, hr, hr⟩) (fun x18 τ19 _ h => ?_)
    exact r_iret rfl dX7_widthAfter_32 h
theorem m_X7_widthAfter {g : zF} (hl0 : g.2.2.2.1.stackTraces = false) {Q : zR × zS → Prop} {a0 a1 a2 a3 : Int} {σ : zS} (h : zo (f_X7_widthAfter a0 a1 a2 a3 σ) Q) : zm g Y_X7_widthAfter R_X7_widthAfter [(4, a0), (0, a1), (0, a2), (0, a3)] σ Q := zm_of (by decide) rfl (Nat.le_of_ble_eq_true rfl) (t_X7_widthAfter hl0 h)


/- X7_widthWithout -/

set_option maxRecDepth 100000 in
set_option maxHeartbeats 4000000 in
theorem t_X7_widthWithout {g : zF} (hl0 : g.2.2.2.1.stackTraces = false) {Q : zR × zS → Prop}   {a0 a1 a2 a3 : Int} {σ : zS} (h : zo (f_X7_widthWithout  a0 a1 a2 a3 σ) Q) : zw g Y_X7_widthWithout R_X7_widthWithout 0 [(0, (4, a0)), (1, (0, a1)), (2, (0, a2)), (3, (0, a3))] [] σ 3 18 Q := by
  unfold f_X7_widthWithout at h
  refine r_aload_n 0 dX7_widthWithout_0 rfl ?_
  refine r_iload_n 1 dX7_widthWithout_1 rfl ?_
  refine r_callV (K' := Y_X7_checkAgent) (R' := R_X7_checkAgent) (idx := 127) (n := 1) (b := a0) (as := [(0, a1)]) (rest := []) (C' := 2) (D' := 12) (cn := 7) rfl k0_X7_checkAgent kV_X7_checkAgent kl_X7_127 ⟨by decide, by decide⟩ dX7_widthWithout_2 rfl rfl (Nat.le_of_ble_eq_true rfl) (by decide) (by decide) rfl h (fun r hr => m_X7_checkAgent hl0 ⟨r, hr, hr⟩) (fun _ τ2 _ h => ?_)
  refine r_aload_n 0 dX7_widthWithout_5 rfl ?_
  refine r_iload_n 2 dX7_widthWithout_6 rfl ?_
  refine r_callV (K' := Y_X7_checkWay) (R' := R_X7_checkWay) (idx := 167) (n := 1) (b := a0) (as := [(0, a2)]) (rest := []) (C' := 1) (D' := 6) (cn := 7) rfl k0_X7_checkWay kV_X7_checkWay kl_X7_167 ⟨by decide, by decide⟩ dX7_widthWithout_7 rfl rfl (Nat.le_of_ble_eq_true rfl) (by decide) (by decide) rfl h (fun r hr => m_X7_checkWay hl0 ⟨r, hr, hr⟩) (fun _ τ4 _ h => ?_)
  refine r_aload_n 0 dX7_widthWithout_10 rfl ?_
  refine r_iload_n 3 dX7_widthWithout_11 rfl ?_
  refine r_callV (K' := Y_X7_checkAgent) (R' := R_X7_checkAgent) (idx := 127) (n := 1) (b := a0) (as := [(0, a3)]) (rest := []) (C' := 0) (D' := 0) (cn := 7) rfl k0_X7_checkAgent kV_X7_checkAgent kl_X7_127 ⟨by decide, by decide⟩ dX7_widthWithout_12 rfl rfl (Nat.le_of_ble_eq_true rfl) (by decide) (by decide) rfl h (fun r hr => m_X7_checkAgent hl0 ⟨r, hr, hr⟩) (fun _ τ6 _ h => ?_)
  refine r_aload_n 0 dX7_widthWithout_15 rfl ?_
  refine r_aload_n 0 dX7_widthWithout_16 rfl ?_
  refine r_getr fd_X7_31 rfl dX7_widthWithout_17 h (fun x7 h => ?_)
  refine r_iload_n 1 dX7_widthWithout_20 rfl ?_
  refine r_iload_n 2 dX7_widthWithout_21 rfl ?_
  refine r_iload_n 3 dX7_widthWithout_22 rfl ?_
  refine r_callV (K' := Y_X7_widthOf) (R' := R_X7_widthOf) (idx := 201) (n := 4) (b := a0) (as := [(4, x7), (0, a1), (0, a2), (0, a3)]) (rest := []) (C' := 0) (D' := 0) (cn := 7) rfl k0_X7_widthOf kV_X7_widthOf kl_X7_201 ⟨by decide, by decide⟩ dX7_widthWithout_23 rfl rfl (Nat.le_of_ble_eq_true rfl) (by decide) (by decide) rfl h (fun r hr => m_X7_widthOf hl0 ⟨r, hr, hr⟩) (fun x8 τ9 _ h => ?_)
  exact r_iret rfl dX7_widthWithout_26 h
theorem m_X7_widthWithout {g : zF} (hl0 : g.2.2.2.1.stackTraces = false) {Q : zR × zS → Prop} {a0 a1 a2 a3 : Int} {σ : zS} (h : zo (f_X7_widthWithout a0 a1 a2 a3 σ) Q) : zm g Y_X7_widthWithout R_X7_widthWithout [(4, a0), (0, a1), (0, a2), (0, a3)] σ Q := zm_of (by decide) rfl (Nat.le_of_ble_eq_true rfl) (t_X7_widthWithout hl0 h)


/- X7_widthSum -/

set_option maxRecDepth 100000 in
set_option maxHeartbeats 4000000 in
theorem t_X7_widthSum_5 {g : zF} (hl0 : g.2.2.2.1.stackTraces = false) {Q : zR × zS → Prop}   : ∀ (n : Nat) (a0 a1 a2 a3 a4 : Int) (σ : zS), zo (f_X7_widthSum_5  n a0 a1 a2 a3 a4 σ) Q → zw g Y_X7_widthSum R_X7_widthSum 5 [(0, (4, a0)), (1, (0, a1)), (2, (0, a2)), (3, (0, a3)), (4, (0, a4))] [] σ 0 0 Q := by
  intro n
  induction n with
  | zero => intro a0 a1 a2 a3 a4 σ h; obtain ⟨r, h, -⟩ := h; cases h
  | succ n ih =>
    intro a0 a1 a2 a3 a4 σ h
    unfold f_X7_widthSum_5 at h
    refine r_iload 4 dX7_widthSum_5 rfl ?_
    refine r_aload_n 0 dX7_widthSum_7 rfl ?_
    refine r_getr fd_X7_31 rfl dX7_widthSum_8 h (fun x1 h => ?_)
    refine r_getr fd_X7_106 rfl dX7_widthSum_11 h (fun x2 h => ?_)
    refine r_getf fd_X7_91 rfl dX7_widthSum_14 h (fun x3 h => ?_)
    refine r_icmp_ge 59 dX7_widthSum_17 (by decide) h (fun h => ?_) (fun h => ?_)
    · refine r_iload_n 3 dX7_widthSum_59 rfl ?_
      exact r_iret rfl dX7_widthSum_60 h
    · refine r_aload_n 0 dX7_widthSum_20 rfl ?_
      refine r_getr fd_X7_24 rfl dX7_widthSum_21 h (fun x4 h => ?_)
      refine r_aload_n 0 dX7_widthSum_24 rfl ?_
      refine r_getr fd_X7_31 rfl dX7_widthSum_25 h (fun x5 h => ?_)
      refine r_iload_n 1 dX7_widthSum_28 rfl ?_
      refine r_iload 4 dX7_widthSum_29 rfl ?_
      refine r_iload_n 2 dX7_widthSum_31 rfl ?_
      refine r_callV (K' := Y_X6_form) (R' := R_X6_form) (idx := 181) (n := 4) (b := x4) (as := [(4, x5), (0, a1), (0, a4), (0, a2)]) (rest := []) (C' := 0) (D' := 0) (cn := 6) rfl k0_X6_form kV_X6_form kl_X7_181 ⟨by decide, by decide⟩ dX7_widthSum_32 rfl rfl (Nat.le_of_ble_eq_true rfl) (by decide) (by decide) rfl h (fun r hr => m_X6_form hl0 ⟨r, hr, hr⟩) (fun _ τ7 _ h => ?_)
      refine r_iload_n 3 dX7_widthSum_35 rfl ?_
      refine r_aload_n 0 dX7_widthSum_36 rfl ?_
      refine r_getr fd_X7_24 rfl dX7_widthSum_37 h (fun x8 h => ?_)
      refine r_getf fd_X7_297 rfl dX7_widthSum_40 h (fun x9 h => ?_)
      refine r_aload_n 0 dX7_widthSum_43 rfl ?_
      refine r_getr fd_X7_24 rfl dX7_widthSum_44 h (fun x10 h => ?_)
      refine r_getf fd_X7_294 rfl dX7_widthSum_47 h (fun x11 h => ?_)
      refine r_isub dX7_widthSum_50 ?_
      refine r_iadd dX7_widthSum_51 ?_
      refine r_istore_n (L' := [(3, (0, (w32 (a3 + (w32 (x9 - x11)))))), (0, (4, a0)), (1, (0, a1)), (2, (0, a2)), (4, (0, a4))]) dX7_widthSum_52 (by decide) rfl ?_
      refine r_iinc (L' := [(4, (0, (w32 (a4 + 1)))), (3, (0, (w32 (a3 + (w32 (x9 - x11)))))), (0, (4, a0)), (1, (0, a1)), (2, (0, a2))]) 4 dX7_widthSum_53 rfl (by decide) rfl ?_
      refine r_goto 5 dX7_widthSum_56 (by decide) ?_
      refine r_weak (L' := [(0, (4, a0)), (1, (0, a1)), (2, (0, a2)), (3, (0, (w32 (a3 + (w32 (x9 - x11)))))), (4, (0, (w32 (a4 + 1))))]) [2, 3, 4, 1, 0] rfl ?_
      exact ih _ _ _ _ _ _ h

set_option maxRecDepth 100000 in
set_option maxHeartbeats 4000000 in
theorem t_X7_widthSum {g : zF} (hl0 : g.2.2.2.1.stackTraces = false) {Q : zR × zS → Prop}   {a0 a1 a2 : Int} {σ : zS} (h : zo (f_X7_widthSum  a0 a1 a2 σ) Q) : zw g Y_X7_widthSum R_X7_widthSum 0 [(0, (4, a0)), (1, (0, a1)), (2, (0, a2))] [] σ 0 0 Q := by
  unfold f_X7_widthSum at h
  refine r_iconst (v := 0) dX7_widthSum_0 rfl rfl ?_
  refine r_istore_n (L' := [(3, (0, 0)), (0, (4, a0)), (1, (0, a1)), (2, (0, a2))]) dX7_widthSum_1 (by decide) rfl ?_
  refine r_iconst (v := 0) dX7_widthSum_2 rfl rfl ?_
  refine r_istore (L' := [(4, (0, 0)), (3, (0, 0)), (0, (4, a0)), (1, (0, a1)), (2, (0, a2))]) dX7_widthSum_3 (by decide) rfl ?_
  refine r_weak (L' := [(0, (4, a0)), (1, (0, a1)), (2, (0, a2)), (3, (0, 0)), (4, (0, 0))]) [2, 3, 4, 1, 0] rfl ?_
  exact t_X7_widthSum_5 hl0   zFU _ _ _ _ _ _ h
theorem m_X7_widthSum {g : zF} (hl0 : g.2.2.2.1.stackTraces = false) {Q : zR × zS → Prop} {a0 a1 a2 : Int} {σ : zS} (h : zo (f_X7_widthSum a0 a1 a2 σ) Q) : zm g Y_X7_widthSum R_X7_widthSum [(4, a0), (0, a1), (0, a2)] σ Q := zm_of (by decide) rfl (Nat.le_of_ble_eq_true rfl) (t_X7_widthSum hl0 h)


/- X7_mostUseful -/

set_option maxRecDepth 100000 in
set_option maxHeartbeats 4000000 in
theorem t_X7_mostUseful_61 {g : zF} (hl0 : g.2.2.2.1.stackTraces = false) {Q : zR × zS → Prop} (r12 : Int → Int → Int → Int → Int → zS → zFn) (hr12 : ∀ b0 b1 b2 b3 b4 τ, zo (r12 b0 b1 b2 b3 b4 τ) Q → zw g Y_X7_mostUseful R_X7_mostUseful 12 [(0, (4, b0)), (1, (0, b1)), (2, (0, b2)), (3, (0, b3)), (4, (0, b4))] [] τ 0 0 Q) {a0 a1 a2 a3 a4 : Int} {σ : zS} (h : zo (f_X7_mostUseful_61 r12 a0 a1 a2 a3 a4 σ) Q) : zw g Y_X7_mostUseful R_X7_mostUseful 61 [(0, (4, a0)), (1, (0, a1)), (2, (0, a2)), (3, (0, a3)), (4, (0, a4))] [] σ 0 0 Q := by
  unfold f_X7_mostUseful_61 at h
  refine r_iinc (L' := [(4, (0, (w32 (a4 + 1)))), (0, (4, a0)), (1, (0, a1)), (2, (0, a2)), (3, (0, a3))]) 4 dX7_mostUseful_61 rfl (by decide) rfl ?_
  refine r_goto 12 dX7_mostUseful_64 (by decide) ?_
  refine r_weak (L' := [(0, (4, a0)), (1, (0, a1)), (2, (0, a2)), (3, (0, a3)), (4, (0, (w32 (a4 + 1))))]) [1, 2, 3, 4, 0] rfl ?_
  exact hr12 _ _ _ _ _ _ h

set_option maxRecDepth 100000 in
set_option maxHeartbeats 4000000 in
theorem t_X7_mostUseful_12 {g : zF} (hl0 : g.2.2.2.1.stackTraces = false) {Q : zR × zS → Prop}   : ∀ (n : Nat) (a0 a1 a2 a3 a4 : Int) (σ : zS), zo (f_X7_mostUseful_12  n a0 a1 a2 a3 a4 σ) Q → zw g Y_X7_mostUseful R_X7_mostUseful 12 [(0, (4, a0)), (1, (0, a1)), (2, (0, a2)), (3, (0, a3)), (4, (0, a4))] [] σ 0 0 Q := by
  intro n
  induction n with
  | zero => intro a0 a1 a2 a3 a4 σ h; obtain ⟨r, h, -⟩ := h; cases h
  | succ n ih =>
    intro a0 a1 a2 a3 a4 σ h
    unfold f_X7_mostUseful_12 at h
    refine r_iload 4 dX7_mostUseful_12 rfl ?_
    refine r_aload_n 0 dX7_mostUseful_14 rfl ?_
    refine r_getr fd_X7_31 rfl dX7_mostUseful_15 h (fun x1 h => ?_)
    refine r_getr fd_X7_87 rfl dX7_mostUseful_18 h (fun x2 h => ?_)
    refine r_getf fd_X7_91 rfl dX7_mostUseful_21 h (fun x3 h => ?_)
    refine r_icmp_ge 67 dX7_mostUseful_24 (by decide) h (fun h => ?_) (fun h => ?_)
    · refine r_iload_n 2 dX7_mostUseful_67 rfl ?_
      exact r_iret rfl dX7_mostUseful_68 h
    · refine r_aload_n 0 dX7_mostUseful_27 rfl ?_
      refine r_getr fd_X7_31 rfl dX7_mostUseful_28 h (fun x4 h => ?_)
      refine r_iload_n 1 dX7_mostUseful_31 rfl ?_
      refine r_iload 4 dX7_mostUseful_32 rfl ?_
      refine r_callV (K' := Y_X1_isLinked) (R' := R_X1_isLinked) (idx := 134) (n := 2) (b := x4) (as := [(0, a1), (0, a4)]) (rest := []) (C' := 0) (D' := 0) (cn := 1) rfl k0_X1_isLinked kV_X1_isLinked kl_X7_134 ⟨by decide, by decide⟩ dX7_mostUseful_34 rfl rfl (Nat.le_of_ble_eq_true rfl) (by decide) (by decide) rfl h (fun r hr => m_X1_isLinked hl0 ⟨r, hr, hr⟩) (fun x5 τ6 _ h => ?_)
      refine r_if_eq 61 dX7_mostUseful_37 (by decide) h (fun h => ?_) (fun h => ?_)
      · exact t_X7_mostUseful_61 hl0 (f_X7_mostUseful_12  n) (fun b0 b1 b2 b3 b4 τ h => ih b0 b1 b2 b3 b4 τ h) h
      · refine r_aload_n 0 dX7_mostUseful_40 rfl ?_
        refine r_iload_n 1 dX7_mostUseful_41 rfl ?_
        refine r_iload 4 dX7_mostUseful_42 rfl ?_
        refine r_callV (K' := Y_X7_widthSum) (R' := R_X7_widthSum) (idx := 240) (n := 2) (b := a0) (as := [(0, a1), (0, a4)]) (rest := []) (C' := 0) (D' := 0) (cn := 7) rfl k0_X7_widthSum kV_X7_widthSum kl_X7_240 ⟨by decide, by decide⟩ dX7_mostUseful_44 rfl rfl (Nat.le_of_ble_eq_true rfl) (by decide) (by decide) rfl h (fun r hr => m_X7_widthSum hl0 ⟨r, hr, hr⟩) (fun x7 τ8 _ h => ?_)
        refine r_istore (L' := [(5, (0, x7)), (0, (4, a0)), (1, (0, a1)), (2, (0, a2)), (3, (0, a3)), (4, (0, a4))]) dX7_mostUseful_47 (by decide) rfl ?_
        refine r_iload 0 dX7_mostUseful_49 rfl ?_
        refine r_iload_n 4 dX7_mostUseful_51 rfl ?_
        refine r_icmp_le 61 dX7_mostUseful_52 (by decide) h (fun h => ?_) (fun h => ?_)
        · refine r_weak (L' := [(0, (4, a0)), (1, (0, a1)), (2, (0, a2)), (3, (0, a3)), (4, (0, a4))]) [1, 2, 3, 4, 5] rfl ?_
          exact t_X7_mostUseful_61 hl0 (f_X7_mostUseful_12  n) (fun b0 b1 b2 b3 b4 τ h => ih b0 b1 b2 b3 b4 τ h) h
        · refine r_iload 5 dX7_mostUseful_55 rfl ?_
          refine r_istore_n (L' := [(2, (0, a4)), (5, (0, x7)), (0, (4, a0)), (1, (0, a1)), (3, (0, a3)), (4, (0, a4))]) dX7_mostUseful_57 (by decide) rfl ?_
          refine r_iload 1 dX7_mostUseful_58 rfl ?_
          refine r_istore_n (L' := [(3, (0, x7)), (2, (0, a4)), (5, (0, x7)), (0, (4, a0)), (1, (0, a1)), (4, (0, a4))]) dX7_mostUseful_60 (by decide) rfl ?_
          refine r_weak (L' := [(0, (4, a0)), (1, (0, a1)), (2, (0, a4)), (3, (0, x7)), (4, (0, a4))]) [3, 4, 1, 0, 5] rfl ?_
          exact t_X7_mostUseful_61 hl0 (f_X7_mostUseful_12  n) (fun b0 b1 b2 b3 b4 τ h => ih b0 b1 b2 b3 b4 τ h) h

set_option maxRecDepth 100000 in
set_option maxHeartbeats 4000000 in
theorem t_X7_mostUseful {g : zF} (hl0 : g.2.2.2.1.stackTraces = false) {Q : zR × zS → Prop}   {a0 a1 : Int} {σ : zS} (h : zo (f_X7_mostUseful  a0 a1 σ) Q) : zw g Y_X7_mostUseful R_X7_mostUseful 0 [(0, (4, a0)), (1, (0, a1))] [] σ 1 6 Q := by
  unfold f_X7_mostUseful at h
  refine r_aload_n 0 dX7_mostUseful_0 rfl ?_
  refine r_iload_n 1 dX7_mostUseful_1 rfl ?_
  refine r_callV (K' := Y_X7_checkAgent) (R' := R_X7_checkAgent) (idx := 127) (n := 1) (b := a0) (as := [(0, a1)]) (rest := []) (C' := 0) (D' := 0) (cn := 7) rfl k0_X7_checkAgent kV_X7_checkAgent kl_X7_127 ⟨by decide, by decide⟩ dX7_mostUseful_2 rfl rfl (Nat.le_of_ble_eq_true rfl) (by decide) (by decide) rfl h (fun r hr => m_X7_checkAgent hl0 ⟨r, hr, hr⟩) (fun _ τ2 _ h => ?_)
  refine r_iconst (v := (-1)) dX7_mostUseful_5 rfl rfl ?_
  refine r_istore_n (L' := [(2, (0, (-1))), (0, (4, a0)), (1, (0, a1))]) dX7_mostUseful_6 (by decide) rfl ?_
  refine r_iconst (v := (-1)) dX7_mostUseful_7 rfl rfl ?_
  refine r_istore_n (L' := [(3, (0, (-1))), (2, (0, (-1))), (0, (4, a0)), (1, (0, a1))]) dX7_mostUseful_8 (by decide) rfl ?_
  refine r_iconst (v := 0) dX7_mostUseful_9 rfl rfl ?_
  refine r_istore (L' := [(4, (0, 0)), (3, (0, (-1))), (2, (0, (-1))), (0, (4, a0)), (1, (0, a1))]) dX7_mostUseful_10 (by decide) rfl ?_
  refine r_weak (L' := [(0, (4, a0)), (1, (0, a1)), (2, (0, (-1))), (3, (0, (-1))), (4, (0, 0))]) [3, 4, 2, 1, 0] rfl ?_
  exact t_X7_mostUseful_12 hl0   zFU _ _ _ _ _ _ h
theorem m_X7_mostUseful {g : zF} (hl0 : g.2.2.2.1.stackTraces = false) {Q : zR × zS → Prop} {a0 a1 : Int} {σ : zS} (h : zo (f_X7_mostUseful a0 a1 σ) Q) : zm g Y_X7_mostUseful R_X7_mostUseful [(4, a0), (0, a1)] σ Q := zm_of (by decide) rfl (Nat.le_of_ble_eq_true rfl) (t_X7_mostUseful hl0 h)


/- X7_bestThen -/

set_option maxRecDepth 100000 in
set_option maxHeartbeats 4000000 in
theorem t_X7_bestThen {g : zF} (hl0 : g.2.2.2.1.stackTraces = false) {Q : zR × zS → Prop}   {a0 a1 : Int} {σ : zS} (h : zo (f_X7_bestThen  a0 a1 σ) Q) : zw g Y_X7_bestThen R_X7_bestThen 0 [(0, (4, a0)), (1, (0, a1))] [] σ 1 6 Q := by
  unfold f_X7_bestThen at h
  refine r_aload_n 0 dX7_bestThen_0 rfl ?_
  refine r_iload_n 1 dX7_bestThen_1 rfl ?_
  refine r_callV (K' := Y_X7_checkAgent) (R' := R_X7_checkAgent) (idx := 127) (n := 1) (b := a0) (as := [(0, a1)]) (rest := []) (C' := 0) (D' := 0) (cn := 7) rfl k0_X7_checkAgent kV_X7_checkAgent kl_X7_127 ⟨by decide, by decide⟩ dX7_bestThen_2 rfl rfl (Nat.le_of_ble_eq_true rfl) (by decide) (by decide) rfl h (fun r hr => m_X7_checkAgent hl0 ⟨r, hr, hr⟩) (fun _ τ2 _ h => ?_)
  refine r_aload_n 0 dX7_bestThen_5 rfl ?_
  refine r_getr fd_X7_35 rfl dX7_bestThen_6 h (fun x3 h => ?_)
  refine r_aload_n 0 dX7_bestThen_9 rfl ?_
  refine r_getr fd_X7_31 rfl dX7_bestThen_10 h (fun x4 h => ?_)
  refine r_callV (K' := Y_X1_become) (R' := R_X1_become) (idx := 84) (n := 1) (b := x3) (as := [(4, x4)]) (rest := []) (C' := 0) (D' := 0) (cn := 1) rfl k0_X1_become kV_X1_become kl_X7_84 ⟨by decide, by decide⟩ dX7_bestThen_13 rfl rfl (Nat.le_of_ble_eq_true rfl) (by decide) (by decide) rfl h (fun r hr => m_X1_become hl0 ⟨r, hr, hr⟩) (fun _ τ6 _ h => ?_)
  refine r_aload_n 0 dX7_bestThen_16 rfl ?_
  refine r_getr fd_X7_35 rfl dX7_bestThen_17 h (fun x7 h => ?_)
  refine r_bipush (v := 100) dX7_bestThen_20 rfl rfl ?_
  refine r_callV (K' := Y_X1_deliverFirst) (R' := R_X1_deliverFirst) (idx := 243) (n := 1) (b := x7) (as := [(0, 100)]) (rest := []) (C' := 0) (D' := 0) (cn := 1) rfl k0_X1_deliverFirst kV_X1_deliverFirst kl_X7_243 ⟨by decide, by decide⟩ dX7_bestThen_22 rfl rfl (Nat.le_of_ble_eq_true rfl) (by decide) (by decide) rfl h (fun r hr => m_X1_deliverFirst hl0 ⟨r, hr, hr⟩) (fun x8 τ9 _ h => ?_)
  refine r_pop dX7_bestThen_25 rfl ?_
  refine r_aload_n 0 dX7_bestThen_26 rfl ?_
  refine r_aload_n 0 dX7_bestThen_27 rfl ?_
  refine r_getr fd_X7_35 rfl dX7_bestThen_28 h (fun x10 h => ?_)
  refine r_iload_n 1 dX7_bestThen_31 rfl ?_
  refine r_iconst (v := 0) dX7_bestThen_32 rfl rfl ?_
  refine r_callV (K' := Y_X7_bestWay) (R' := R_X7_bestWay) (idx := 194) (n := 3) (b := a0) (as := [(4, x10), (0, a1), (0, 0)]) (rest := []) (C' := 0) (D' := 0) (cn := 7) rfl k0_X7_bestWay kV_X7_bestWay kl_X7_194 ⟨by decide, by decide⟩ dX7_bestThen_33 rfl rfl (Nat.le_of_ble_eq_true rfl) (by decide) (by decide) rfl h (fun r hr => m_X7_bestWay hl0 ⟨r, hr, hr⟩) (fun x11 τ12 _ h => ?_)
  exact r_iret rfl dX7_bestThen_36 h
theorem m_X7_bestThen {g : zF} (hl0 : g.2.2.2.1.stackTraces = false) {Q : zR × zS → Prop} {a0 a1 : Int} {σ : zS} (h : zo (f_X7_bestThen a0 a1 σ) Q) : zm g Y_X7_bestThen R_X7_bestThen [(4, a0), (0, a1)] σ Q := zm_of (by decide) rfl (Nat.le_of_ble_eq_true rfl) (t_X7_bestThen hl0 h)


/- X7_probe -/

set_option maxRecDepth 100000 in
set_option maxHeartbeats 4000000 in
theorem t_X7_probe {g : zF} (hl0 : g.2.2.2.1.stackTraces = false) {Q : zR × zS → Prop}   {a0 a1 a2 a3 a4 : Int} {σ : zS} (h : zo (f_X7_probe  a0 a1 a2 a3 a4 σ) Q) : zw g Y_X7_probe R_X7_probe 0 [(0, (4, a0)), (1, (0, a1)), (2, (0, a2)), (3, (0, a3)), (4, (0, a4))] [] σ 31 7344 Q := by
  unfold f_X7_probe at h
  refine r_aload_n 0 dX7_probe_0 rfl ?_
  refine r_iload_n 1 dX7_probe_1 rfl ?_
  refine r_callV (K' := Y_X7_checkAgent) (R' := R_X7_checkAgent) (idx := 127) (n := 1) (b := a0) (as := [(0, a1)]) (rest := []) (C' := 30) (D' := 7338) (cn := 7) rfl k0_X7_checkAgent kV_X7_checkAgent kl_X7_127 ⟨by decide, by decide⟩ dX7_probe_2 rfl rfl (Nat.le_of_ble_eq_true rfl) (by decide) (by decide) rfl h (fun r hr => m_X7_checkAgent hl0 ⟨r, hr, hr⟩) (fun _ τ2 _ h => ?_)
  refine r_aload_n 0 dX7_probe_5 rfl ?_
  refine r_iload_n 2 dX7_probe_6 rfl ?_
  refine r_callV (K' := Y_X7_checkWay) (R' := R_X7_checkWay) (idx := 167) (n := 1) (b := a0) (as := [(0, a2)]) (rest := []) (C' := 29) (D' := 7332) (cn := 7) rfl k0_X7_checkWay kV_X7_checkWay kl_X7_167 ⟨by decide, by decide⟩ dX7_probe_7 rfl rfl (Nat.le_of_ble_eq_true rfl) (by decide) (by decide) rfl h (fun r hr => m_X7_checkWay hl0 ⟨r, hr, hr⟩) (fun _ τ4 _ h => ?_)
  refine r_iload_n 3 dX7_probe_10 rfl ?_
  refine r_iload 4 dX7_probe_11 rfl ?_
  refine r_callS (K' := Y_X7_checkBounds) (R' := R_X7_checkBounds) (idx := 227) (n := 2) (as := [(0, a3), (0, a4)]) (rest := []) (C' := 27) (D' := 7320) rfl k0_X7_checkBounds wd_1176 kl_X7_227 ⟨by decide, by decide⟩ dX7_probe_13 rfl rfl (Nat.le_of_ble_eq_true rfl) (by decide) (by decide) h (fun r hr => m_X7_checkBounds hl0 ⟨r, hr, hr⟩) (fun _ τ6 _ h => ?_)
  refine r_aload_n 0 dX7_probe_16 rfl ?_
  refine r_getr fd_X7_50 rfl dX7_probe_17 h (fun x7 h => ?_)
  refine r_aload_n 0 dX7_probe_20 rfl ?_
  refine r_getr fd_X7_31 rfl dX7_probe_21 h (fun x8 h => ?_)
  refine r_callV (K' := Y_X2_push) (R' := R_X2_push) (idx := 80) (n := 1) (b := x7) (as := [(4, x8)]) (rest := []) (C' := 0) (D' := 0) (cn := 2) rfl k0_X2_push kV_X2_push kl_X7_80 ⟨by decide, by decide⟩ dX7_probe_24 rfl rfl (Nat.le_of_ble_eq_true rfl) (by decide) (by decide) rfl h (fun r hr => m_X2_push hl0 ⟨r, hr, hr⟩) (fun _ τ10 _ h => ?_)
  refine r_aload_n 0 dX7_probe_27 rfl ?_
  refine r_getr fd_X7_31 rfl dX7_probe_28 h (fun x11 h => ?_)
  refine r_iload_n 1 dX7_probe_31 rfl ?_
  refine r_iload_n 2 dX7_probe_32 rfl ?_
  refine r_iload_n 3 dX7_probe_33 rfl ?_
  refine r_iload 4 dX7_probe_34 rfl ?_
  refine r_callV (K' := Y_X1_makeProbe) (R' := R_X1_makeProbe) (idx := 230) (n := 4) (b := x11) (as := [(0, a1), (0, a2), (0, a3), (0, a4)]) (rest := []) (C' := 0) (D' := 0) (cn := 1) rfl k0_X1_makeProbe kV_X1_makeProbe kl_X7_230 ⟨by decide, by decide⟩ dX7_probe_36 rfl rfl (Nat.le_of_ble_eq_true rfl) (by decide) (by decide) rfl h (fun r hr => m_X1_makeProbe hl0 ⟨r, hr, hr⟩) (fun x12 τ13 _ h => ?_)
  exact r_iret rfl dX7_probe_39 h
theorem m_X7_probe {g : zF} (hl0 : g.2.2.2.1.stackTraces = false) {Q : zR × zS → Prop} {a0 a1 a2 a3 a4 : Int} {σ : zS} (h : zo (f_X7_probe a0 a1 a2 a3 a4 σ) Q) : zm g Y_X7_probe R_X7_probe [(4, a0), (0, a1), (0, a2), (0, a3), (0, a4)] σ Q := zm_of (by decide) rfl (Nat.le_of_ble_eq_true rfl) (t_X7_probe hl0 h)


/- X7_share -/

set_option maxRecDepth 100000 in
set_option maxHeartbeats 4000000 in
theorem t_X7_share {g : zF} (hl0 : g.2.2.2.1.stackTraces = false) {Q : zR × zS → Prop}   {a0 a1 : Int} {σ : zS} (h : zo (f_X7_share  a0 a1 σ) Q) : zw g Y_X7_share R_X7_share 0 [(0, (4, a0)), (1, (0, a1))] [] σ 28 7326 Q := by
  unfold f_X7_share at h
  refine r_aload_n 0 dX7_share_0 rfl ?_
  refine r_iload_n 1 dX7_share_1 rfl ?_
  refine r_callV (K' := Y_X7_checkAgent) (R' := R_X7_checkAgent) (idx := 127) (n := 1) (b := a0) (as := [(0, a1)]) (rest := []) (C' := 27) (D' := 7320) (cn := 7) rfl k0_X7_checkAgent kV_X7_checkAgent kl_X7_127 ⟨by decide, by decide⟩ dX7_share_2 rfl rfl (Nat.le_of_ble_eq_true rfl) (by decide) (by decide) rfl h (fun r hr => m_X7_checkAgent hl0 ⟨r, hr, hr⟩) (fun _ τ2 _ h => ?_)
  refine r_aload_n 0 dX7_share_5 rfl ?_
  refine r_getr fd_X7_50 rfl dX7_share_6 h (fun x3 h => ?_)
  refine r_aload_n 0 dX7_share_9 rfl ?_
  refine r_getr fd_X7_31 rfl dX7_share_10 h (fun x4 h => ?_)
  refine r_callV (K' := Y_X2_push) (R' := R_X2_push) (idx := 80) (n := 1) (b := x3) (as := [(4, x4)]) (rest := []) (C' := 0) (D' := 0) (cn := 2) rfl k0_X2_push kV_X2_push kl_X7_80 ⟨by decide, by decide⟩ dX7_share_13 rfl rfl (Nat.le_of_ble_eq_true rfl) (by decide) (by decide) rfl h (fun r hr => m_X2_push hl0 ⟨r, hr, hr⟩) (fun _ τ6 _ h => ?_)
  refine r_aload_n 0 dX7_share_16 rfl ?_
  refine r_getr fd_X7_31 rfl dX7_share_17 h (fun x7 h => ?_)
  refine r_iload_n 1 dX7_share_20 rfl ?_
  refine r_iconst (v := 1) dX7_share_21 rfl rfl ?_
  refine r_callV (K' := Y_X1_sendReports) (R' := R_X1_sendReports) (idx := 246) (n := 2) (b := x7) (as := [(0, a1), (0, 1)]) (rest := []) (C' := 0) (D' := 0) (cn := 1) rfl k0_X1_sendReports kV_X1_sendReports kl_X7_246 ⟨by decide, by decide⟩ dX7_share_22 rfl rfl (Nat.le_of_ble_eq_true rfl) (by decide) (by decide) rfl h (fun r hr => m_X1_sendReports hl0 ⟨r, hr, hr⟩) (fun x8 τ9 _ h => ?_)
  exact r_iret rfl dX7_share_25 h
theorem m_X7_share {g : zF} (hl0 : g.2.2.2.1.stackTraces = false) {Q : zR × zS → Prop} {a0 a1 : Int} {σ : zS} (h : zo (f_X7_share a0 a1 σ) Q) : zm g Y_X7_share R_X7_share [(4, a0), (0, a1)] σ Q := zm_of (by decide) rfl (Nat.le_of_ble_eq_true rfl) (t_X7_share hl0 h)


/- X7_relay -/

set_option maxRecDepth 100000 in
set_option maxHeartbeats 4000000 in
theorem t_X7_relay {g : zF} (hl0 : g.2.2.2.1.stackTraces = false) {Q : zR × zS → Prop}   {a0 a1 : Int} {σ : zS} (h : zo (f_X7_relay  a0 a1 σ) Q) : zw g Y_X7_relay R_X7_relay 0 [(0, (4, a0)), (1, (0, a1))] [] σ 28 7326 Q := by
  unfold f_X7_relay at h
  refine r_aload_n 0 dX7_relay_0 rfl ?_
  refine r_iload_n 1 dX7_relay_1 rfl ?_
  refine r_callV (K' := Y_X7_checkAgent) (R' := R_X7_checkAgent) (idx := 127) (n := 1) (b := a0) (as := [(0, a1)]) (rest := []) (C' := 27) (D' := 7320) (cn := 7) rfl k0_X7_checkAgent kV_X7_checkAgent kl_X7_127 ⟨by decide, by decide⟩ dX7_relay_2 rfl rfl (Nat.le_of_ble_eq_true rfl) (by decide) (by decide) rfl h (fun r hr => m_X7_checkAgent hl0 ⟨r, hr, hr⟩) (fun _ τ2 _ h => ?_)
  refine r_aload_n 0 dX7_relay_5 rfl ?_
  refine r_getr fd_X7_50 rfl dX7_relay_6 h (fun x3 h => ?_)
  refine r_aload_n 0 dX7_relay_9 rfl ?_
  refine r_getr fd_X7_31 rfl dX7_relay_10 h (fun x4 h => ?_)
  refine r_callV (K' := Y_X2_push) (R' := R_X2_push) (idx := 80) (n := 1) (b := x3) (as := [(4, x4)]) (rest := []) (C' := 0) (D' := 0) (cn := 2) rfl k0_X2_push kV_X2_push kl_X7_80 ⟨by decide, by decide⟩ dX7_relay_13 rfl rfl (Nat.le_of_ble_eq_true rfl) (by decide) (by decide) rfl h (fun r hr => m_X2_push hl0 ⟨r, hr, hr⟩) (fun _ τ6 _ h => ?_)
  refine r_aload_n 0 dX7_relay_16 rfl ?_
  refine r_getr fd_X7_31 rfl dX7_relay_17 h (fun x7 h => ?_)
  refine r_iload_n 1 dX7_relay_20 rfl ?_
  refine r_aload_n 0 dX7_relay_21 rfl ?_
  refine r_getr fd_X7_31 rfl dX7_relay_22 h (fun x8 h => ?_)
  refine r_iconst (v := 4) dX7_relay_25 rfl rfl ?_
  refine r_callV (K' := Y_X1_rule) (R' := R_X1_rule) (idx := 123) (n := 1) (b := x8) (as := [(0, 4)]) (rest := [(0, a1), (4, x7)]) (C' := 0) (D' := 0) (cn := 1) rfl k0_X1_rule kV_X1_rule kl_X7_123 ⟨by decide, by decide⟩ dX7_relay_26 rfl rfl (Nat.le_of_ble_eq_true rfl) (by decide) (by decide) rfl h (fun r hr => m_X1_rule hl0 ⟨r, hr, hr⟩) (fun x9 τ10 _ h => ?_)
  refine r_callV (K' := Y_X1_sendReports) (R' := R_X1_sendReports) (idx := 246) (n := 2) (b := x7) (as := [(0, a1), (0, x9)]) (rest := []) (C' := 0) (D' := 0) (cn := 1) rfl k0_X1_sendReports kV_X1_sendReports kl_X7_246 ⟨by decide, by decide⟩ dX7_relay_29 rfl rfl (Nat.le_of_ble_eq_true rfl) (by decide) (by decide) rfl h (fun r hr => m_X1_sendReports hl0 ⟨r, hr, hr⟩) (fun x11 τ12 _ h => ?_)
  exact r_iret rfl dX7_relay_32 h
theorem m_X7_relay {g : zF} (hl0 : g.2.2.2.1.stackTraces = false) {Q : zR × zS → Prop} {a0 a1 : Int} {σ : zS} (h : zo (f_X7_relay a0 a1 σ) Q) : zm g Y_X7_relay R_X7_relay [(4, a0), (0, a1)] σ Q := zm_of (by decide) rfl (Nat.le_of_ble_eq_true rfl) (t_X7_relay hl0 h)


/- X7_deliver -/

set_option maxRecDepth 100000 in
set_option maxHeartbeats 4000000 in
theorem t_X7_deliver {g : zF} (hl0 : g.2.2.2.1.stackTraces = false) {Q : zR × zS → Prop}   {a0 a1 : Int} {σ : zS} (h : zo (f_X7_deliver  a0 a1 σ) Q) : zw g Y_X7_deliver R_X7_deliver 0 [(0, (4, a0)), (1, (0, a1))] [] σ 28 7326 Q := by
  unfold f_X7_deliver at h
  refine r_iload_n 1 dX7_deliver_0 rfl ?_
  refine r_iconst (v := 1) dX7_deliver_1 rfl rfl ?_
  refine r_bipush (v := 100) dX7_deliver_2 rfl rfl ?_
  refine r_callS (K' := Y_X7_checkRange) (R' := R_X7_checkRange) (idx := 72) (n := 3) (as := [(0, a1), (0, 1), (0, 100)]) (rest := []) (C' := 27) (D' := 7320) rfl k0_X7_checkRange wd_801 kl_X7_72 ⟨by decide, by decide⟩ dX7_deliver_4 rfl rfl (Nat.le_of_ble_eq_true rfl) (by decide) (by decide) h (fun r hr => m_X7_checkRange hl0 ⟨r, hr, hr⟩) (fun _ τ2 _ h => ?_)
  refine r_aload_n 0 dX7_deliver_7 rfl ?_
  refine r_getr fd_X7_50 rfl dX7_deliver_8 h (fun x3 h => ?_)
  refine r_aload_n 0 dX7_deliver_11 rfl ?_
  refine r_getr fd_X7_31 rfl dX7_deliver_12 h (fun x4 h => ?_)
  refine r_callV (K' := Y_X2_push) (R' := R_X2_push) (idx := 80) (n := 1) (b := x3) (as := [(4, x4)]) (rest := []) (C' := 0) (D' := 0) (cn := 2) rfl k0_X2_push kV_X2_push kl_X7_80 ⟨by decide, by decide⟩ dX7_deliver_15 rfl rfl (Nat.le_of_ble_eq_true rfl) (by decide) (by decide) rfl h (fun r hr => m_X2_push hl0 ⟨r, hr, hr⟩) (fun _ τ6 _ h => ?_)
  refine r_aload_n 0 dX7_deliver_18 rfl ?_
  refine r_getr fd_X7_31 rfl dX7_deliver_19 h (fun x7 h => ?_)
  refine r_iload_n 1 dX7_deliver_22 rfl ?_
  refine r_callV (K' := Y_X1_deliverFirst) (R' := R_X1_deliverFirst) (idx := 243) (n := 1) (b := x7) (as := [(0, a1)]) (rest := []) (C' := 0) (D' := 0) (cn := 1) rfl k0_X1_deliverFirst kV_X1_deliverFirst kl_X7_243 ⟨by decide, by decide⟩ dX7_deliver_23 rfl rfl (Nat.le_of_ble_eq_true rfl) (by decide) (by decide) rfl h (fun r hr => m_X1_deliverFirst hl0 ⟨r, hr, hr⟩) (fun x8 τ9 _ h => ?_)
  exact r_iret rfl dX7_deliver_26 h
theorem m_X7_deliver {g : zF} (hl0 : g.2.2.2.1.stackTraces = false) {Q : zR × zS → Prop} {a0 a1 : Int} {σ : zS} (h : zo (f_X7_deliver a0 a1 σ) Q) : zm g Y_X7_deliver R_X7_deliver [(4, a0), (0, a1)] σ Q := zm_of (by decide) rfl (Nat.le_of_ble_eq_true rfl) (t_X7_deliver hl0 h)


/- X7_lose -/

set_option maxRecDepth 100000 in
set_option maxHeartbeats 4000000 in
theorem t_X7_lose {g : zF} (hl0 : g.2.2.2.1.stackTraces = false) {Q : zR × zS → Prop}   {a0 : Int} {σ : zS} (h : zo (f_X7_lose  a0 σ) Q) : zw g Y_X7_lose R_X7_lose 0 [(0, (4, a0))] [] σ 27 7320 Q := by
  unfold f_X7_lose at h
  refine r_aload_n 0 dX7_lose_0 rfl ?_
  refine r_getr fd_X7_31 rfl dX7_lose_1 h (fun x1 h => ?_)
  refine r_getr fd_X7_112 rfl dX7_lose_4 h (fun x2 h => ?_)
  refine r_getf fd_X7_116 rfl dX7_lose_7 h (fun x3 h => ?_)
  refine r_if_ne 23 dX7_lose_10 (by decide) h (fun h => ?_) (fun h => ?_)
  · refine r_aload_n 0 dX7_lose_23 rfl ?_
    refine r_getr fd_X7_50 rfl dX7_lose_24 h (fun x4 h => ?_)
    refine r_aload_n 0 dX7_lose_27 rfl ?_
    refine r_getr fd_X7_31 rfl dX7_lose_28 h (fun x5 h => ?_)
    refine r_callV (K' := Y_X2_push) (R' := R_X2_push) (idx := 80) (n := 1) (b := x4) (as := [(4, x5)]) (rest := []) (C' := 0) (D' := 0) (cn := 2) rfl k0_X2_push kV_X2_push kl_X7_80 ⟨by decide, by decide⟩ dX7_lose_31 rfl rfl (Nat.le_of_ble_eq_true rfl) (by decide) (by decide) rfl h (fun r hr => m_X2_push hl0 ⟨r, hr, hr⟩) (fun _ τ7 _ h => ?_)
    refine r_aload_n 0 dX7_lose_34 rfl ?_
    refine r_getr fd_X7_31 rfl dX7_lose_35 h (fun x8 h => ?_)
    refine r_getr fd_X7_112 rfl dX7_lose_38 h (fun x9 h => ?_)
    refine r_iconst (v := 1) dX7_lose_41 rfl rfl ?_
    refine r_callV (K' := Y_X5_removeFirst) (R' := R_X5_removeFirst) (idx := 251) (n := 1) (b := x9) (as := [(0, 1)]) (rest := []) (C' := 0) (D' := 0) (cn := 5) rfl k0_X5_removeFirst kV_X5_removeFirst kl_X7_251 ⟨by decide, by decide⟩ dX7_lose_42 rfl rfl (Nat.le_of_ble_eq_true rfl) (by decide) (by decide) rfl h (fun r hr => m_X5_removeFirst hl0 ⟨r, hr, hr⟩) (fun _ τ11 _ h => ?_)
    refine r_aload_n 0 dX7_lose_45 rfl ?_
    refine r_getr fd_X7_31 rfl dX7_lose_46 h (fun x12 h => ?_)
    refine r_getr fd_X7_112 rfl dX7_lose_49 h (fun x13 h => ?_)
    refine r_getf fd_X7_116 rfl dX7_lose_52 h (fun x14 h => ?_)
    exact r_iret rfl dX7_lose_55 h
  · refine r_room (C' := 1) (D' := 6) (by omega) (by omega) ?_
    exact r_throw hl0 rfl (th_X7_62_249_66 _ rfl) dX7_lose_13 dX7_lose_16 dX7_lose_17 dX7_lose_19 dX7_lose_22 (by decide) (Nat.le_of_ble_eq_true rfl) (by decide) (by decide) h
theorem m_X7_lose {g : zF} (hl0 : g.2.2.2.1.stackTraces = false) {Q : zR × zS → Prop} {a0 : Int} {σ : zS} (h : zo (f_X7_lose a0 σ) Q) : zm g Y_X7_lose R_X7_lose [(4, a0)] σ Q := zm_of (by decide) rfl (Nat.le_of_ble_eq_true rfl) (t_X7_lose hl0 h)


/- X7_exchange -/

set_option maxRecDepth 100000 in
set_option maxHeartbeats 4000000 in
theorem t_X7_exchange {g : zF} (hl0 : g.2.2.2.1.stackTraces = false) {Q : zR × zS → Prop}   {a0 a1 : Int} {σ : zS} (h : zo (f_X7_exchange  a0 a1 σ) Q) : zw g Y_X7_exchange R_X7_exchange 0 [(0, (4, a0)), (1, (0, a1))] [] σ 28 7326 Q := by
  unfold f_X7_exchange at h
  refine r_iload_n 1 dX7_exchange_0 rfl ?_
  refine r_iconst (v := 1) dX7_exchange_1 rfl rfl ?_
  refine r_bipush (v := 6) dX7_exchange_2 rfl rfl ?_
  refine r_callS (K' := Y_X7_checkRange) (R' := R_X7_checkRange) (idx := 72) (n := 3) (as := [(0, a1), (0, 1), (0, 6)]) (rest := []) (C' := 27) (D' := 7320) rfl k0_X7_checkRange wd_801 kl_X7_72 ⟨by decide, by decide⟩ dX7_exchange_4 rfl rfl (Nat.le_of_ble_eq_true rfl) (by decide) (by decide) h (fun r hr => m_X7_checkRange hl0 ⟨r, hr, hr⟩) (fun _ τ2 _ h => ?_)
  refine r_aload_n 0 dX7_exchange_7 rfl ?_
  refine r_getr fd_X7_50 rfl dX7_exchange_8 h (fun x3 h => ?_)
  refine r_aload_n 0 dX7_exchange_11 rfl ?_
  refine r_getr fd_X7_31 rfl dX7_exchange_12 h (fun x4 h => ?_)
  refine r_callV (K' := Y_X2_push) (R' := R_X2_push) (idx := 80) (n := 1) (b := x3) (as := [(4, x4)]) (rest := []) (C' := 0) (D' := 0) (cn := 2) rfl k0_X2_push kV_X2_push kl_X7_80 ⟨by decide, by decide⟩ dX7_exchange_15 rfl rfl (Nat.le_of_ble_eq_true rfl) (by decide) (by decide) rfl h (fun r hr => m_X2_push hl0 ⟨r, hr, hr⟩) (fun _ τ6 _ h => ?_)
  refine r_aload_n 0 dX7_exchange_18 rfl ?_
  refine r_getr fd_X7_31 rfl dX7_exchange_19 h (fun x7 h => ?_)
  refine r_iload_n 1 dX7_exchange_22 rfl ?_
  refine r_callV (K' := Y_X1_makeRounds) (R' := R_X1_makeRounds) (idx := 234) (n := 1) (b := x7) (as := [(0, a1)]) (rest := []) (C' := 0) (D' := 0) (cn := 1) rfl k0_X1_makeRounds kV_X1_makeRounds kl_X7_234 ⟨by decide, by decide⟩ dX7_exchange_23 rfl rfl (Nat.le_of_ble_eq_true rfl) (by decide) (by decide) rfl h (fun r hr => m_X1_makeRounds hl0 ⟨r, hr, hr⟩) (fun x8 τ9 _ h => ?_)
  exact r_iret rfl dX7_exchange_26 h
theorem m_X7_exchange {g : zF} (hl0 : g.2.2.2.1.stackTraces = false) {Q : zR × zS → Prop} {a0 a1 : Int} {σ : zS} (h : zo (f_X7_exchange a0 a1 σ) Q) : zm g Y_X7_exchange R_X7_exchange [(4, a0), (0, a1)] σ Q := zm_of (by decide) rfl (Nat.le_of_ble_eq_true rfl) (t_X7_exchange hl0 h)


/- X7_pass -/

set_option maxRecDepth 100000 in
set_option maxHeartbeats 4000000 in
theorem t_X7_pass {g : zF} (hl0 : g.2.2.2.1.stackTraces = false) {Q : zR × zS → Prop}   {a0 a1 : Int} {σ : zS} (h : zo (f_X7_pass  a0 a1 σ) Q) : zw g Y_X7_pass R_X7_pass 0 [(0, (4, a0)), (1, (0, a1))] [] σ 28 7326 Q := by
  unfold f_X7_pass at h
  refine r_iload_n 1 dX7_pass_0 rfl ?_
  refine r_iconst (v := 1) dX7_pass_1 rfl rfl ?_
  refine r_bipush (v := 99) dX7_pass_2 rfl rfl ?_
  refine r_callS (K' := Y_X7_checkRange) (R' := R_X7_checkRange) (idx := 72) (n := 3) (as := [(0, a1), (0, 1), (0, 99)]) (rest := []) (C' := 27) (D' := 7320) rfl k0_X7_checkRange wd_801 kl_X7_72 ⟨by decide, by decide⟩ dX7_pass_4 rfl rfl (Nat.le_of_ble_eq_true rfl) (by decide) (by decide) h (fun r hr => m_X7_checkRange hl0 ⟨r, hr, hr⟩) (fun _ τ2 _ h => ?_)
  refine r_aload_n 0 dX7_pass_7 rfl ?_
  refine r_getr fd_X7_50 rfl dX7_pass_8 h (fun x3 h => ?_)
  refine r_aload_n 0 dX7_pass_11 rfl ?_
  refine r_getr fd_X7_31 rfl dX7_pass_12 h (fun x4 h => ?_)
  refine r_callV (K' := Y_X2_push) (R' := R_X2_push) (idx := 80) (n := 1) (b := x3) (as := [(4, x4)]) (rest := []) (C' := 0) (D' := 0) (cn := 2) rfl k0_X2_push kV_X2_push kl_X7_80 ⟨by decide, by decide⟩ dX7_pass_15 rfl rfl (Nat.le_of_ble_eq_true rfl) (by decide) (by decide) rfl h (fun r hr => m_X2_push hl0 ⟨r, hr, hr⟩) (fun _ τ6 _ h => ?_)
  refine r_aload_n 0 dX7_pass_18 rfl ?_
  refine r_getr fd_X7_31 rfl dX7_pass_19 h (fun x7 h => ?_)
  refine r_iload_n 1 dX7_pass_22 rfl ?_
  refine r_callV (K' := Y_X1_letPass) (R' := R_X1_letPass) (idx := 237) (n := 1) (b := x7) (as := [(0, a1)]) (rest := []) (C' := 0) (D' := 0) (cn := 1) rfl k0_X1_letPass kV_X1_letPass kl_X7_237 ⟨by decide, by decide⟩ dX7_pass_23 rfl rfl (Nat.le_of_ble_eq_true rfl) (by decide) (by decide) rfl h (fun r hr => m_X1_letPass hl0 ⟨r, hr, hr⟩) (fun x8 τ9 _ h => ?_)
  exact r_iret rfl dX7_pass_26 h
theorem m_X7_pass {g : zF} (hl0 : g.2.2.2.1.stackTraces = false) {Q : zR × zS → Prop} {a0 a1 : Int} {σ : zS} (h : zo (f_X7_pass a0 a1 σ) Q) : zm g Y_X7_pass R_X7_pass [(4, a0), (0, a1)] σ Q := zm_of (by decide) rfl (Nat.le_of_ble_eq_true rfl) (t_X7_pass hl0 h)


/- X7_link -/

set_option maxRecDepth 100000 in
set_option maxHeartbeats 4000000 in
theorem t_X7_link_63 {g : zF} (hl0 : g.2.2.2.1.stackTraces = false) {Q : zR × zS → Prop}   {a0 a1 a2 a4 s0 : Int} {σ : zS} (h : zo (f_X7_link_63  a0 a1 a2 a4 s0 σ) Q) : zw g Y_X7_link R_X7_link 63 [(0, (4, a0)), (1, (0, a1)), (2, (0, a2)), (4, (0, a4))] [(0, s0)] σ 0 0 Q := by
  unfold f_X7_link_63 at h
  refine r_istore (L' := [(5, (0, s0)), (0, (4, a0)), (1, (0, a1)), (2, (0, a2)), (4, (0, a4))]) dX7_link_63 (by decide) rfl ?_
  refine r_aload_n 1 dX7_link_65 rfl ?_
  refine r_getr fd_X7_31 rfl dX7_link_66 h (fun x1 h => ?_)
  refine r_iload_n 2 dX7_link_69 rfl ?_
  refine r_iload_n 3 dX7_link_70 rfl ?_
  refine r_iload 0 dX7_link_71 rfl ?_
  refine r_callV (K' := Y_X1_putTrust) (R' := R_X1_putTrust) (idx := 259) (n := 3) (b := x1) (as := [(0, a1), (0, a2), (0, s0)]) (rest := []) (C' := 0) (D' := 0) (cn := 1) rfl k0_X1_putTrust kV_X1_putTrust kl_X7_259 ⟨by decide, by decide⟩ dX7_link_73 rfl rfl (Nat.le_of_ble_eq_true rfl) (by decide) (by decide) rfl h (fun r hr => m_X1_putTrust hl0 ⟨r, hr, hr⟩) (fun _ τ3 _ h => ?_)
  refine r_aload_n 1 dX7_link_76 rfl ?_
  refine r_getr fd_X7_31 rfl dX7_link_77 h (fun x4 h => ?_)
  refine r_iload_n 3 dX7_link_80 rfl ?_
  refine r_iload_n 2 dX7_link_81 rfl ?_
  refine r_iload 0 dX7_link_82 rfl ?_
  refine r_callV (K' := Y_X1_putTrust) (R' := R_X1_putTrust) (idx := 259) (n := 3) (b := x4) (as := [(0, a2), (0, a1), (0, s0)]) (rest := []) (C' := 0) (D' := 0) (cn := 1) rfl k0_X1_putTrust kV_X1_putTrust kl_X7_259 ⟨by decide, by decide⟩ dX7_link_84 rfl rfl (Nat.le_of_ble_eq_true rfl) (by decide) (by decide) rfl h (fun r hr => m_X1_putTrust hl0 ⟨r, hr, hr⟩) (fun _ τ6 _ h => ?_)
  refine r_iload 4 dX7_link_87 rfl ?_
  exact r_zret rfl dX7_link_89 h

set_option maxRecDepth 100000 in
set_option maxHeartbeats 4000000 in
theorem t_X7_link {g : zF} (hl0 : g.2.2.2.1.stackTraces = false) {Q : zR × zS → Prop}   {a0 a1 a2 a3 : Int} {σ : zS} (h : zo (f_X7_link  a0 a1 a2 a3 σ) Q) : zw g Y_X7_link R_X7_link 0 [(0, (4, a0)), (1, (0, a1)), (2, (0, a2)), (3, (0, a3))] [] σ 29 7332 Q := by
  unfold f_X7_link at h
  refine r_aload_n 0 dX7_link_0 rfl ?_
  refine r_iload_n 1 dX7_link_1 rfl ?_
  refine r_callV (K' := Y_X7_checkAgent) (R' := R_X7_checkAgent) (idx := 127) (n := 1) (b := a0) (as := [(0, a1)]) (rest := []) (C' := 28) (D' := 7326) (cn := 7) rfl k0_X7_checkAgent kV_X7_checkAgent kl_X7_127 ⟨by decide, by decide⟩ dX7_link_2 rfl rfl (Nat.le_of_ble_eq_true rfl) (by decide) (by decide) rfl h (fun r hr => m_X7_checkAgent hl0 ⟨r, hr, hr⟩) (fun _ τ2 _ h => ?_)
  refine r_aload_n 0 dX7_link_5 rfl ?_
  refine r_iload_n 2 dX7_link_6 rfl ?_
  refine r_callV (K' := Y_X7_checkAgent) (R' := R_X7_checkAgent) (idx := 127) (n := 1) (b := a0) (as := [(0, a2)]) (rest := []) (C' := 27) (D' := 7320) (cn := 7) rfl k0_X7_checkAgent kV_X7_checkAgent kl_X7_127 ⟨by decide, by decide⟩ dX7_link_7 rfl rfl (Nat.le_of_ble_eq_true rfl) (by decide) (by decide) rfl h (fun r hr => m_X7_checkAgent hl0 ⟨r, hr, hr⟩) (fun _ τ4 _ h => ?_)
  refine r_iload_n 1 dX7_link_10 rfl ?_
  refine r_iload_n 2 dX7_link_11 rfl ?_
  refine r_icmp_ne 26 dX7_link_12 (by decide) h (fun h => ?_) (fun h => ?_)
  · refine r_aload_n 0 dX7_link_26 rfl ?_
    refine r_getr fd_X7_50 rfl dX7_link_27 h (fun x5 h => ?_)
    refine r_aload_n 0 dX7_link_30 rfl ?_
    refine r_getr fd_X7_31 rfl dX7_link_31 h (fun x6 h => ?_)
    refine r_callV (K' := Y_X2_push) (R' := R_X2_push) (idx := 80) (n := 1) (b := x5) (as := [(4, x6)]) (rest := []) (C' := 0) (D' := 0) (cn := 2) rfl k0_X2_push kV_X2_push kl_X7_80 ⟨by decide, by decide⟩ dX7_link_34 rfl rfl (Nat.le_of_ble_eq_true rfl) (by decide) (by decide) rfl h (fun r hr => m_X2_push hl0 ⟨r, hr, hr⟩) (fun _ τ8 _ h => ?_)
    refine r_aload_n 0 dX7_link_37 rfl ?_
    refine r_getr fd_X7_31 rfl dX7_link_38 h (fun x9 h => ?_)
    refine r_iload_n 1 dX7_link_41 rfl ?_
    refine r_iload_n 2 dX7_link_42 rfl ?_
    refine r_callV (K' := Y_X1_isLinked) (R' := R_X1_isLinked) (idx := 134) (n := 2) (b := x9) (as := [(0, a1), (0, a2)]) (rest := []) (C' := 0) (D' := 0) (cn := 1) rfl k0_X1_isLinked kV_X1_isLinked kl_X7_134 ⟨by decide, by decide⟩ dX7_link_43 rfl rfl (Nat.le_of_ble_eq_true rfl) (by decide) (by decide) rfl h (fun r hr => m_X1_isLinked hl0 ⟨r, hr, hr⟩) (fun x10 τ11 _ h => ?_)
    refine r_istore (L' := [(4, (0, x10)), (0, (4, a0)), (1, (0, a1)), (2, (0, a2)), (3, (0, a3))]) dX7_link_46 (by decide) rfl ?_
    refine r_iload 0 dX7_link_48 rfl ?_
    refine r_iload_n 4 dX7_link_50 rfl ?_
    refine r_icmp_eq 87 dX7_link_51 (by decide) h (fun h => ?_) (fun h => ?_)
    · refine r_iload 0 dX7_link_87 rfl ?_
      exact r_zret rfl dX7_link_89 h
    · refine r_iload_n 4 dX7_link_54 rfl ?_
      refine r_if_eq 62 dX7_link_55 (by decide) h (fun h => ?_) (fun h => ?_)
      · refine r_iconst (v := (-1)) dX7_link_62 rfl rfl ?_
        refine r_weak (L' := [(0, (4, a0)), (1, (0, a1)), (2, (0, a2)), (4, (0, x10))]) [1, 2, 3, 0] rfl ?_
        exact t_X7_link_63 hl0   h
      · refine r_iconst (v := 5) dX7_link_58 rfl rfl ?_
        refine r_goto 63 dX7_link_59 (by decide) ?_
        refine r_weak (L' := [(0, (4, a0)), (1, (0, a1)), (2, (0, a2)), (4, (0, x10))]) [1, 2, 3, 0] rfl ?_
        exact t_X7_link_63 hl0   h
  · refine r_room (C' := 1) (D' := 6) (by omega) (by omega) ?_
    exact r_throwW hl0 rfl (th_X7_254_256_258 _ rfl) dX7_link_15 dX7_link_18 dX7_link_19 dX7_link_22 dX7_link_25 (by decide) (Nat.le_of_ble_eq_true rfl) (by decide) (by decide) h
theorem m_X7_link {g : zF} (hl0 : g.2.2.2.1.stackTraces = false) {Q : zR × zS → Prop} {a0 a1 a2 a3 : Int} {σ : zS} (h : zo (f_X7_link a0 a1 a2 a3 σ) Q) : zm g Y_X7_link R_X7_link [(4, a0), (0, a1), (0, a2), (0, a3)] σ Q := zm_of (by decide) rfl (Nat.le_of_ble_eq_true rfl) (t_X7_link hl0 h)


/- X7_setTrust -/

set_option maxRecDepth 100000 in
set_option maxHeartbeats 4000000 in
theorem t_X7_setTrust {g : zF} (hl0 : g.2.2.2.1.stackTraces = false) {Q : zR × zS → Prop}   {a0 a1 a2 a3 : Int} {σ : zS} (h : zo (f_X7_setTrust  a0 a1 a2 a3 σ) Q) : zw g Y_X7_setTrust R_X7_setTrust 0 [(0, (4, a0)), (1, (0, a1)), (2, (0, a2)), (3, (0, a3))] [] σ 30 7338 Q := by
  unfold f_X7_setTrust at h
  refine r_aload_n 0 dX7_setTrust_0 rfl ?_
  refine r_iload_n 1 dX7_setTrust_1 rfl ?_
  refine r_callV (K' := Y_X7_checkAgent) (R' := R_X7_checkAgent) (idx := 127) (n := 1) (b := a0) (as := [(0, a1)]) (rest := []) (C' := 29) (D' := 7332) (cn := 7) rfl k0_X7_checkAgent kV_X7_checkAgent kl_X7_127 ⟨by decide, by decide⟩ dX7_setTrust_2 rfl rfl (Nat.le_of_ble_eq_true rfl) (by decide) (by decide) rfl h (fun r hr => m_X7_checkAgent hl0 ⟨r, hr, hr⟩) (fun _ τ2 _ h => ?_)
  refine r_aload_n 0 dX7_setTrust_5 rfl ?_
  refine r_iload_n 2 dX7_setTrust_6 rfl ?_
  refine r_callV (K' := Y_X7_checkAgent) (R' := R_X7_checkAgent) (idx := 127) (n := 1) (b := a0) (as := [(0, a2)]) (rest := []) (C' := 28) (D' := 7326) (cn := 7) rfl k0_X7_checkAgent kV_X7_checkAgent kl_X7_127 ⟨by decide, by decide⟩ dX7_setTrust_7 rfl rfl (Nat.le_of_ble_eq_true rfl) (by decide) (by decide) rfl h (fun r hr => m_X7_checkAgent hl0 ⟨r, hr, hr⟩) (fun _ τ4 _ h => ?_)
  refine r_iload_n 3 dX7_setTrust_10 rfl ?_
  refine r_iconst (v := 0) dX7_setTrust_11 rfl rfl ?_
  refine r_bipush (v := 10) dX7_setTrust_12 rfl rfl ?_
  refine r_callS (K' := Y_X7_checkRange) (R' := R_X7_checkRange) (idx := 72) (n := 3) (as := [(0, a3), (0, 0), (0, 10)]) (rest := []) (C' := 27) (D' := 7320) rfl k0_X7_checkRange wd_801 kl_X7_72 ⟨by decide, by decide⟩ dX7_setTrust_14 rfl rfl (Nat.le_of_ble_eq_true rfl) (by decide) (by decide) h (fun r hr => m_X7_checkRange hl0 ⟨r, hr, hr⟩) (fun _ τ6 _ h => ?_)
  refine r_aload_n 0 dX7_setTrust_17 rfl ?_
  refine r_getr fd_X7_31 rfl dX7_setTrust_18 h (fun x7 h => ?_)
  refine r_iload_n 1 dX7_setTrust_21 rfl ?_
  refine r_iload_n 2 dX7_setTrust_22 rfl ?_
  refine r_callV (K' := Y_X1_isLinked) (R' := R_X1_isLinked) (idx := 134) (n := 2) (b := x7) (as := [(0, a1), (0, a2)]) (rest := []) (C' := 27) (D' := 7320) (cn := 1) rfl k0_X1_isLinked kV_X1_isLinked kl_X7_134 ⟨by decide, by decide⟩ dX7_setTrust_23 rfl rfl (Nat.le_of_ble_eq_true rfl) (by decide) (by decide) rfl h (fun r hr => m_X1_isLinked hl0 ⟨r, hr, hr⟩) (fun x8 τ9 _ h => ?_)
  refine r_if_ne 40 dX7_setTrust_26 (by decide) h (fun h => ?_) (fun h => ?_)
  · refine r_aload_n 0 dX7_setTrust_40 rfl ?_
    refine r_getr fd_X7_50 rfl dX7_setTrust_41 h (fun x10 h => ?_)
    refine r_aload_n 0 dX7_setTrust_44 rfl ?_
    refine r_getr fd_X7_31 rfl dX7_setTrust_45 h (fun x11 h => ?_)
    refine r_callV (K' := Y_X2_push) (R' := R_X2_push) (idx := 80) (n := 1) (b := x10) (as := [(4, x11)]) (rest := []) (C' := 0) (D' := 0) (cn := 2) rfl k0_X2_push kV_X2_push kl_X7_80 ⟨by decide, by decide⟩ dX7_setTrust_48 rfl rfl (Nat.le_of_ble_eq_true rfl) (by decide) (by decide) rfl h (fun r hr => m_X2_push hl0 ⟨r, hr, hr⟩) (fun _ τ13 _ h => ?_)
    refine r_aload_n 0 dX7_setTrust_51 rfl ?_
    refine r_getr fd_X7_31 rfl dX7_setTrust_52 h (fun x14 h => ?_)
    refine r_iload_n 1 dX7_setTrust_55 rfl ?_
    refine r_iload_n 2 dX7_setTrust_56 rfl ?_
    refine r_callV (K' := Y_X1_trustIn) (R' := R_X1_trustIn) (idx := 130) (n := 2) (b := x14) (as := [(0, a1), (0, a2)]) (rest := []) (C' := 0) (D' := 0) (cn := 1) rfl k0_X1_trustIn kV_X1_trustIn kl_X7_130 ⟨by decide, by decide⟩ dX7_setTrust_57 rfl rfl (Nat.le_of_ble_eq_true rfl) (by decide) (by decide) rfl h (fun r hr => m_X1_trustIn hl0 ⟨r, hr, hr⟩) (fun x15 τ16 _ h => ?_)
    refine r_istore (L' := [(4, (0, x15)), (0, (4, a0)), (1, (0, a1)), (2, (0, a2)), (3, (0, a3))]) dX7_setTrust_60 (by decide) rfl ?_
    refine r_aload_n 1 dX7_setTrust_62 rfl ?_
    refine r_getr fd_X7_31 rfl dX7_setTrust_63 h (fun x17 h => ?_)
    refine r_iload_n 2 dX7_setTrust_66 rfl ?_
    refine r_iload_n 3 dX7_setTrust_67 rfl ?_
    refine r_iload_n 4 dX7_setTrust_68 rfl ?_
    refine r_callV (K' := Y_X1_putTrust) (R' := R_X1_putTrust) (idx := 259) (n := 3) (b := x17) (as := [(0, a1), (0, a2), (0, a3)]) (rest := []) (C' := 0) (D' := 0) (cn := 1) rfl k0_X1_putTrust kV_X1_putTrust kl_X7_259 ⟨by decide, by decide⟩ dX7_setTrust_69 rfl rfl (Nat.le_of_ble_eq_true rfl) (by decide) (by decide) rfl h (fun r hr => m_X1_putTrust hl0 ⟨r, hr, hr⟩) (fun _ τ19 _ h => ?_)
    refine r_iload 0 dX7_setTrust_72 rfl ?_
    exact r_iret rfl dX7_setTrust_74 h
  · refine r_room (C' := 1) (D' := 6) (by omega) (by omega) ?_
    exact r_throwW hl0 rfl (th_X7_62_262_66 _ rfl) dX7_setTrust_29 dX7_setTrust_32 dX7_setTrust_33 dX7_setTrust_36 dX7_setTrust_39 (by decide) (Nat.le_of_ble_eq_true rfl) (by decide) (by decide) h
theorem m_X7_setTrust {g : zF} (hl0 : g.2.2.2.1.stackTraces = false) {Q : zR × zS → Prop} {a0 a1 a2 a3 : Int} {σ : zS} (h : zo (f_X7_setTrust a0 a1 a2 a3 σ) Q) : zm g Y_X7_setTrust R_X7_setTrust [(4, a0), (0, a1), (0, a2), (0, a3)] σ Q := zm_of (by decide) rfl (Nat.le_of_ble_eq_true rfl) (t_X7_setTrust hl0 h)


/- X7_isRuleValue -/

set_option maxRecDepth 100000 in
set_option maxHeartbeats 4000000 in
theorem t_X7_isRuleValue {g : zF} (hl0 : g.2.2.2.1.stackTraces = false) {Q : zR × zS → Prop}   {a0 a1 : Int} {σ : zS} (h : zo (f_X7_isRuleValue  a0 a1 σ) Q) : zw g Y_X7_isRuleValue R_X7_isRuleValue 0 [(0, (0, a0)), (1, (0, a1))] [] σ 0 0 Q := by
  unfold f_X7_isRuleValue at h
  refine r_iload_n 0 dX7_isRuleValue_0 rfl ?_
  refine r_if_lt 31 dX7_isRuleValue_1 (by decide) h (fun h => ?_) (fun h => ?_)
  · refine r_iconst (v := 0) dX7_isRuleValue_31 rfl rfl ?_
    exact r_zretc (by decide) rfl dX7_isRuleValue_32 h
  · refine r_iload_n 0 dX7_isRuleValue_4 rfl ?_
    refine r_iconst (v := 5) dX7_isRuleValue_5 rfl rfl ?_
    refine r_icmp_ge 31 dX7_isRuleValue_6 (by decide) h (fun h => ?_) (fun h => ?_)
    · refine r_iconst (v := 0) dX7_isRuleValue_31 rfl rfl ?_
      exact r_zretc (by decide) rfl dX7_isRuleValue_32 h
    · refine r_iload_n 1 dX7_isRuleValue_9 rfl ?_
      refine r_gets (k := 0) (by decide) (Or.inl wd_1341) dX7_isRuleValue_10 ?_
      refine r_iload_n 0 dX7_isRuleValue_13 rfl ?_
      refine r_sald (k := 0) (by decide) dX7_isRuleValue_14 h (fun x1 h => ?_)
      refine r_icmp_lt 31 dX7_isRuleValue_15 (by decide) h (fun h => ?_) (fun h => ?_)
      · refine r_iconst (v := 0) dX7_isRuleValue_31 rfl rfl ?_
        exact r_zretc (by decide) rfl dX7_isRuleValue_32 h
      · refine r_iload_n 1 dX7_isRuleValue_18 rfl ?_
        refine r_gets (k := 1) (by decide) (Or.inl wd_1342) dX7_isRuleValue_19 ?_
        refine r_iload_n 0 dX7_isRuleValue_22 rfl ?_
        refine r_sald (k := 1) (by decide) dX7_isRuleValue_23 h (fun x2 h => ?_)
        refine r_icmp_gt 31 dX7_isRuleValue_24 (by decide) h (fun h => ?_) (fun h => ?_)
        · refine r_iconst (v := 0) dX7_isRuleValue_31 rfl rfl ?_
          exact r_zretc (by decide) rfl dX7_isRuleValue_32 h
        · refine r_iconst (v := 1) dX7_isRuleValue_27 rfl rfl ?_
          refine r_goto 32 dX7_isRuleValue_28 (by decide) ?_
          exact r_zretc (by decide) rfl dX7_isRuleValue_32 h
theorem m_X7_isRuleValue {g : zF} (hl0 : g.2.2.2.1.stackTraces = false) {Q : zR × zS → Prop} {a0 a1 : Int} {σ : zS} (h : zo (f_X7_isRuleValue a0 a1 σ) Q) : zm g Y_X7_isRuleValue R_X7_isRuleValue [(0, a0), (0, a1)] σ Q := zm_of (by decide) rfl (Nat.le_of_ble_eq_true rfl) (t_X7_isRuleValue hl0 h)


/- X7_setRule -/

set_option maxRecDepth 100000 in
set_option maxHeartbeats 4000000 in
theorem t_X7_setRule {g : zF} (hl0 : g.2.2.2.1.stackTraces = false) {Q : zR × zS → Prop}   {a0 a1 a2 : Int} {σ : zS} (h : zo (f_X7_setRule  a0 a1 a2 σ) Q) : zw g Y_X7_setRule R_X7_setRule 0 [(0, (4, a0)), (1, (0, a1)), (2, (0, a2))] [] σ 27 7320 Q := by
  unfold f_X7_setRule at h
  refine r_iload_n 1 dX7_setRule_0 rfl ?_
  refine r_iload_n 2 dX7_setRule_1 rfl ?_
  refine r_callS (K' := Y_X7_isRuleValue) (R' := R_X7_isRuleValue) (idx := 264) (n := 2) (as := [(0, a1), (0, a2)]) (rest := []) (C' := 27) (D' := 7320) rfl k0_X7_isRuleValue wd_1339 kl_X7_264 ⟨by decide, by decide⟩ dX7_setRule_2 rfl rfl (Nat.le_of_ble_eq_true rfl) (by decide) (by decide) h (fun r hr => m_X7_isRuleValue hl0 ⟨r, hr, hr⟩) (fun x1 τ2 _ h => ?_)
  refine r_if_ne 19 dX7_setRule_5 (by decide) h (fun h => ?_) (fun h => ?_)
  · refine r_aload_n 0 dX7_setRule_19 rfl ?_
    refine r_getr fd_X7_50 rfl dX7_setRule_20 h (fun x3 h => ?_)
    refine r_aload_n 0 dX7_setRule_23 rfl ?_
    refine r_getr fd_X7_31 rfl dX7_setRule_24 h (fun x4 h => ?_)
    refine r_callV (K' := Y_X2_push) (R' := R_X2_push) (idx := 80) (n := 1) (b := x3) (as := [(4, x4)]) (rest := []) (C' := 0) (D' := 0) (cn := 2) rfl k0_X2_push kV_X2_push kl_X7_80 ⟨by decide, by decide⟩ dX7_setRule_27 rfl rfl (Nat.le_of_ble_eq_true rfl) (by decide) (by decide) rfl h (fun r hr => m_X2_push hl0 ⟨r, hr, hr⟩) (fun _ τ6 _ h => ?_)
    refine r_aload_n 0 dX7_setRule_30 rfl ?_
    refine r_getr fd_X7_31 rfl dX7_setRule_31 h (fun x7 h => ?_)
    refine r_iload_n 1 dX7_setRule_34 rfl ?_
    refine r_callV (K' := Y_X1_rule) (R' := R_X1_rule) (idx := 123) (n := 1) (b := x7) (as := [(0, a1)]) (rest := []) (C' := 0) (D' := 0) (cn := 1) rfl k0_X1_rule kV_X1_rule kl_X7_123 ⟨by decide, by decide⟩ dX7_setRule_35 rfl rfl (Nat.le_of_ble_eq_true rfl) (by decide) (by decide) rfl h (fun r hr => m_X1_rule hl0 ⟨r, hr, hr⟩) (fun x8 τ9 _ h => ?_)
    refine r_istore_n (L' := [(3, (0, x8)), (0, (4, a0)), (1, (0, a1)), (2, (0, a2))]) dX7_setRule_38 (by decide) rfl ?_
    refine r_aload_n 1 dX7_setRule_39 rfl ?_
    refine r_getr fd_X7_31 rfl dX7_setRule_40 h (fun x10 h => ?_)
    refine r_iload_n 2 dX7_setRule_43 rfl ?_
    refine r_iload_n 3 dX7_setRule_44 rfl ?_
    refine r_callV (K' := Y_X1_putRule) (R' := R_X1_putRule) (idx := 269) (n := 2) (b := x10) (as := [(0, a1), (0, a2)]) (rest := []) (C' := 0) (D' := 0) (cn := 1) rfl k0_X1_putRule kV_X1_putRule kl_X7_269 ⟨by decide, by decide⟩ dX7_setRule_45 rfl rfl (Nat.le_of_ble_eq_true rfl) (by decide) (by decide) rfl h (fun r hr => m_X1_putRule hl0 ⟨r, hr, hr⟩) (fun _ τ12 _ h => ?_)
    refine r_iload_n 0 dX7_setRule_48 rfl ?_
    exact r_iret rfl dX7_setRule_49 h
  · refine r_room (C' := 1) (D' := 6) (by omega) (by omega) ?_
    exact r_throwW hl0 rfl (th_X7_254_267_258 _ rfl) dX7_setRule_8 dX7_setRule_11 dX7_setRule_12 dX7_setRule_15 dX7_setRule_18 (by decide) (Nat.le_of_ble_eq_true rfl) (by decide) (by decide) h
theorem m_X7_setRule {g : zF} (hl0 : g.2.2.2.1.stackTraces = false) {Q : zR × zS → Prop} {a0 a1 a2 : Int} {σ : zS} (h : zo (f_X7_setRule a0 a1 a2 σ) Q) : zm g Y_X7_setRule R_X7_setRule [(4, a0), (0, a1), (0, a2)] σ Q := zm_of (by decide) rfl (Nat.le_of_ble_eq_true rfl) (t_X7_setRule hl0 h)


/- X7_forget -/

set_option maxRecDepth 100000 in
set_option maxHeartbeats 4000000 in
theorem t_X7_forget {g : zF} (hl0 : g.2.2.2.1.stackTraces = false) {Q : zR × zS → Prop}   {a0 a1 a2 : Int} {σ : zS} (h : zo (f_X7_forget  a0 a1 a2 σ) Q) : zw g Y_X7_forget R_X7_forget 0 [(0, (4, a0)), (1, (0, a1)), (2, (0, a2))] [] σ 29 7332 Q := by
  unfold f_X7_forget at h
  refine r_aload_n 0 dX7_forget_0 rfl ?_
  refine r_iload_n 1 dX7_forget_1 rfl ?_
  refine r_callV (K' := Y_X7_checkAgent) (R' := R_X7_checkAgent) (idx := 127) (n := 1) (b := a0) (as := [(0, a1)]) (rest := []) (C' := 28) (D' := 7326) (cn := 7) rfl k0_X7_checkAgent kV_X7_checkAgent kl_X7_127 ⟨by decide, by decide⟩ dX7_forget_2 rfl rfl (Nat.le_of_ble_eq_true rfl) (by decide) (by decide) rfl h (fun r hr => m_X7_checkAgent hl0 ⟨r, hr, hr⟩) (fun _ τ2 _ h => ?_)
  refine r_aload_n 0 dX7_forget_5 rfl ?_
  refine r_iload_n 2 dX7_forget_6 rfl ?_
  refine r_callV (K' := Y_X7_checkWay) (R' := R_X7_checkWay) (idx := 167) (n := 1) (b := a0) (as := [(0, a2)]) (rest := []) (C' := 27) (D' := 7320) (cn := 7) rfl k0_X7_checkWay kV_X7_checkWay kl_X7_167 ⟨by decide, by decide⟩ dX7_forget_7 rfl rfl (Nat.le_of_ble_eq_true rfl) (by decide) (by decide) rfl h (fun r hr => m_X7_checkWay hl0 ⟨r, hr, hr⟩) (fun _ τ4 _ h => ?_)
  refine r_aload_n 0 dX7_forget_10 rfl ?_
  refine r_getr fd_X7_50 rfl dX7_forget_11 h (fun x5 h => ?_)
  refine r_aload_n 0 dX7_forget_14 rfl ?_
  refine r_getr fd_X7_31 rfl dX7_forget_15 h (fun x6 h => ?_)
  refine r_callV (K' := Y_X2_push) (R' := R_X2_push) (idx := 80) (n := 1) (b := x5) (as := [(4, x6)]) (rest := []) (C' := 0) (D' := 0) (cn := 2) rfl k0_X2_push kV_X2_push kl_X7_80 ⟨by decide, by decide⟩ dX7_forget_18 rfl rfl (Nat.le_of_ble_eq_true rfl) (by decide) (by decide) rfl h (fun r hr => m_X2_push hl0 ⟨r, hr, hr⟩) (fun _ τ8 _ h => ?_)
  refine r_aload_n 0 dX7_forget_21 rfl ?_
  refine r_getr fd_X7_31 rfl dX7_forget_22 h (fun x9 h => ?_)
  refine r_iload_n 1 dX7_forget_25 rfl ?_
  refine r_callV (K' := Y_X1_listOf) (R' := R_X1_listOf) (idx := 144) (n := 1) (b := x9) (as := [(0, a1)]) (rest := []) (C' := 0) (D' := 0) (cn := 1) rfl k0_X1_listOf kV_X1_listOf kl_X7_144 ⟨by decide, by decide⟩ dX7_forget_26 rfl rfl (Nat.le_of_ble_eq_true rfl) (by decide) (by decide) rfl h (fun r hr => m_X1_listOf hl0 ⟨r, hr, hr⟩) (fun x10 τ11 _ h => ?_)
  refine r_iload_n 2 dX7_forget_29 rfl ?_
  refine r_iconst (v := (-1)) dX7_forget_30 rfl rfl ?_
  refine r_callV (K' := Y_X5_removeAll) (R' := R_X5_removeAll) (idx := 272) (n := 2) (b := x10) (as := [(0, a2), (0, (-1))]) (rest := []) (C' := 0) (D' := 0) (cn := 5) rfl k0_X5_removeAll kV_X5_removeAll kl_X7_272 ⟨by decide, by decide⟩ dX7_forget_31 rfl rfl (Nat.le_of_ble_eq_true rfl) (by decide) (by decide) rfl h (fun r hr => m_X5_removeAll hl0 ⟨r, hr, hr⟩) (fun x12 τ13 _ h => ?_)
  exact r_iret rfl dX7_forget_34 h
theorem m_X7_forget {g : zF} (hl0 : g.2.2.2.1.stackTraces = false) {Q : zR × zS → Prop} {a0 a1 a2 : Int} {σ : zS} (h : zo (f_X7_forget a0 a1 a2 σ) Q) : zm g Y_X7_forget R_X7_forget [(4, a0), (0, a1), (0, a2)] σ Q := zm_of (by decide) rfl (Nat.le_of_ble_eq_true rfl) (t_X7_forget hl0 h)


/- X7_cleanse -/

set_option maxRecDepth 100000 in
set_option maxHeartbeats 4000000 in
theorem t_X7_cleanse_20 {g : zF} (hl0 : g.2.2.2.1.stackTraces = false) {Q : zR × zS → Prop}   : ∀ (n : Nat) (a0 a1 a2 a3 : Int) (σ : zS), zo (f_X7_cleanse_20  n a0 a1 a2 a3 σ) Q → zw g Y_X7_cleanse R_X7_cleanse 20 [(0, (4, a0)), (1, (0, a1)), (2, (0, a2)), (3, (0, a3))] [] σ 0 0 Q := by
  intro n
  induction n with
  | zero => intro a0 a1 a2 a3 σ h; obtain ⟨r, h, -⟩ := h; cases h
  | succ n ih =>
    intro a0 a1 a2 a3 σ h
    unfold f_X7_cleanse_20 at h
    refine r_iload_n 3 dX7_cleanse_20 rfl ?_
    refine r_aload_n 0 dX7_cleanse_21 rfl ?_
    refine r_getr fd_X7_31 rfl dX7_cleanse_22 h (fun x1 h => ?_)
    refine r_getr fd_X7_106 rfl dX7_cleanse_25 h (fun x2 h => ?_)
    refine r_getf fd_X7_91 rfl dX7_cleanse_28 h (fun x3 h => ?_)
    refine r_icmp_ge 62 dX7_cleanse_31 (by decide) h (fun h => ?_) (fun h => ?_)
    · refine r_iload_n 2 dX7_cleanse_62 rfl ?_
      exact r_iret rfl dX7_cleanse_63 h
    · refine r_iload_n 2 dX7_cleanse_34 rfl ?_
      refine r_aload_n 0 dX7_cleanse_35 rfl ?_
      refine r_getr fd_X7_31 rfl dX7_cleanse_36 h (fun x4 h => ?_)
      refine r_iload_n 1 dX7_cleanse_39 rfl ?_
      refine r_callV (K' := Y_X1_listOf) (R' := R_X1_listOf) (idx := 144) (n := 1) (b := x4) (as := [(0, a1)]) (rest := [(0, a2)]) (C' := 0) (D' := 0) (cn := 1) rfl k0_X1_listOf kV_X1_listOf kl_X7_144 ⟨by decide, by decide⟩ dX7_cleanse_40 rfl rfl (Nat.le_of_ble_eq_true rfl) (by decide) (by decide) rfl h (fun r hr => m_X1_listOf hl0 ⟨r, hr, hr⟩) (fun x5 τ6 _ h => ?_)
      refine r_iload_n 3 dX7_cleanse_43 rfl ?_
      refine r_aload_n 0 dX7_cleanse_44 rfl ?_
      refine r_iload_n 1 dX7_cleanse_45 rfl ?_
      refine r_iload_n 3 dX7_cleanse_46 rfl ?_
      refine r_iconst (v := 1) dX7_cleanse_47 rfl rfl ?_
      refine r_callV (K' := Y_X7_originsOf) (R' := R_X7_originsOf) (idx := 177) (n := 3) (b := a0) (as := [(0, a1), (0, a3), (0, 1)]) (rest := [(0, a3), (4, x5), (0, a2)]) (C' := 0) (D' := 0) (cn := 7) rfl k0_X7_originsOf kV_X7_originsOf kl_X7_177 ⟨by decide, by decide⟩ dX7_cleanse_48 rfl rfl (Nat.le_of_ble_eq_true rfl) (by decide) (by decide) rfl h (fun r hr => m_X7_originsOf hl0 ⟨r, hr, hr⟩) (fun x7 τ8 _ h => ?_)
      refine r_callV (K' := Y_X5_removeAll) (R' := R_X5_removeAll) (idx := 272) (n := 2) (b := x5) (as := [(0, a3), (0, x7)]) (rest := [(0, a2)]) (C' := 0) (D' := 0) (cn := 5) rfl k0_X5_removeAll kV_X5_removeAll kl_X7_272 ⟨by decide, by decide⟩ dX7_cleanse_51 rfl rfl (Nat.le_of_ble_eq_true rfl) (by decide) (by decide) rfl h (fun r hr => m_X5_removeAll hl0 ⟨r, hr, hr⟩) (fun x9 τ10 _ h => ?_)
      refine r_iadd dX7_cleanse_54 ?_
      refine r_istore_n (L' := [(2, (0, (w32 (a2 + x9)))), (0, (4, a0)), (1, (0, a1)), (3, (0, a3))]) dX7_cleanse_55 (by decide) rfl ?_
      refine r_iinc (L' := [(3, (0, (w32 (a3 + 1)))), (2, (0, (w32 (a2 + x9)))), (0, (4, a0)), (1, (0, a1))]) 3 dX7_cleanse_56 rfl (by decide) rfl ?_
      refine r_goto 20 dX7_cleanse_59 (by decide) ?_
      refine r_weak (L' := [(0, (4, a0)), (1, (0, a1)), (2, (0, (w32 (a2 + x9)))), (3, (0, (w32 (a3 + 1))))]) [2, 3, 1, 0] rfl ?_
      exact ih _ _ _ _ _ h

set_option maxRecDepth 100000 in
set_option maxHeartbeats 4000000 in
theorem t_X7_cleanse {g : zF} (hl0 : g.2.2.2.1.stackTraces = false) {Q : zR × zS → Prop}   {a0 a1 : Int} {σ : zS} (h : zo (f_X7_cleanse  a0 a1 σ) Q) : zw g Y_X7_cleanse R_X7_cleanse 0 [(0, (4, a0)), (1, (0, a1))] [] σ 28 7326 Q := by
  unfold f_X7_cleanse at h
  refine r_aload_n 0 dX7_cleanse_0 rfl ?_
  refine r_iload_n 1 dX7_cleanse_1 rfl ?_
  refine r_callV (K' := Y_X7_checkAgent) (R' := R_X7_checkAgent) (idx := 127) (n := 1) (b := a0) (as := [(0, a1)]) (rest := []) (C' := 27) (D' := 7320) (cn := 7) rfl k0_X7_checkAgent kV_X7_checkAgent kl_X7_127 ⟨by decide, by decide⟩ dX7_cleanse_2 rfl rfl (Nat.le_of_ble_eq_true rfl) (by decide) (by decide) rfl h (fun r hr => m_X7_checkAgent hl0 ⟨r, hr, hr⟩) (fun _ τ2 _ h => ?_)
  refine r_aload_n 0 dX7_cleanse_5 rfl ?_
  refine r_getr fd_X7_50 rfl dX7_cleanse_6 h (fun x3 h => ?_)
  refine r_aload_n 0 dX7_cleanse_9 rfl ?_
  refine r_getr fd_X7_31 rfl dX7_cleanse_10 h (fun x4 h => ?_)
  refine r_callV (K' := Y_X2_push) (R' := R_X2_push) (idx := 80) (n := 1) (b := x3) (as := [(4, x4)]) (rest := []) (C' := 0) (D' := 0) (cn := 2) rfl k0_X2_push kV_X2_push kl_X7_80 ⟨by decide, by decide⟩ dX7_cleanse_13 rfl rfl (Nat.le_of_ble_eq_true rfl) (by decide) (by decide) rfl h (fun r hr => m_X2_push hl0 ⟨r, hr, hr⟩) (fun _ τ6 _ h => ?_)
  refine r_iconst (v := 0) dX7_cleanse_16 rfl rfl ?_
  refine r_istore_n (L' := [(2, (0, 0)), (0, (4, a0)), (1, (0, a1))]) dX7_cleanse_17 (by decide) rfl ?_
  refine r_iconst (v := 0) dX7_cleanse_18 rfl rfl ?_
  refine r_istore_n (L' := [(3, (0, 0)), (2, (0, 0)), (0, (4, a0)), (1, (0, a1))]) dX7_cleanse_19 (by decide) rfl ?_
  refine r_weak (L' := [(0, (4, a0)), (1, (0, a1)), (2, (0, 0)), (3, (0, 0))]) [2, 3, 1, 0] rfl ?_
  exact t_X7_cleanse_20 hl0   zFU _ _ _ _ _ h
theorem m_X7_cleanse {g : zF} (hl0 : g.2.2.2.1.stackTraces = false) {Q : zR × zS → Prop} {a0 a1 : Int} {σ : zS} (h : zo (f_X7_cleanse a0 a1 σ) Q) : zm g Y_X7_cleanse R_X7_cleanse [(4, a0), (0, a1)] σ Q := zm_of (by decide) rfl (Nat.le_of_ble_eq_true rfl) (t_X7_cleanse hl0 h)

