/- X8_ownOf -/

set_option maxRecDepth 100000 in
set_option maxHeartbeats 4000000 in
theorem t_X8_ownOf {g : zF} (hl0 : g.2.2.2.1.stackTraces = false) {Q : zR × zS → Prop}   {a0 a1 a2 : Int} {σ : zS} (h : zo (f_X8_ownOf  a0 a1 a2 σ) Q) : zw g Y_X8_ownOf R_X8_ownOf 0 [(0, (4, a0)), (1, (0, a1)), (2, (0, a2))] [] σ 0 0 Q := by
  unfold f_X8_ownOf at h
  refine r_aload_n 0 dX8_ownOf_0 rfl ?_
  refine r_iload_n 1 dX8_ownOf_1 rfl ?_
  refine r_iload_n 1 dX8_ownOf_2 rfl ?_
  refine r_iload_n 2 dX8_ownOf_3 rfl ?_
  refine r_callV (K' := Y_X8_reportOf) (R' := R_X8_reportOf) (idx := 99) (n := 3) (b := a0) (as := [(0, a1), (0, a1), (0, a2)]) (rest := []) (C' := 0) (D' := 0) (cn := 8) rfl k0_X8_reportOf kV_X8_reportOf kl_X8_99 ⟨by decide, by decide⟩ dX8_ownOf_4 rfl rfl (Nat.le_of_ble_eq_true rfl) (by decide) (by decide) rfl h (fun r hr => m_X8_reportOf hl0 ⟨r, hr, hr⟩) (fun x1 τ2 _ h => ?_)
  exact r_iret rfl dX8_ownOf_7 h
theorem m_X8_ownOf {g : zF} (hl0 : g.2.2.2.1.stackTraces = false) {Q : zR × zS → Prop} {a0 a1 a2 : Int} {σ : zS} (h : zo (f_X8_ownOf a0 a1 a2 σ) Q) : zm g Y_X8_ownOf R_X8_ownOf [(4, a0), (0, a1), (0, a2)] σ Q := zm_of (by decide) rfl (Nat.le_of_ble_eq_true rfl) (t_X8_ownOf hl0 h)


/- X8_isOwn -/

set_option maxRecDepth 100000 in
set_option maxHeartbeats 4000000 in
theorem t_X8_isOwn {g : zF} (hl0 : g.2.2.2.1.stackTraces = false) {Q : zR × zS → Prop}   {a0 a1 a2 : Int} {σ : zS} (h : zo (f_X8_isOwn  a0 a1 a2 σ) Q) : zw g Y_X8_isOwn R_X8_isOwn 0 [(0, (4, a0)), (1, (0, a1)), (2, (0, a2))] [] σ 0 0 Q := by
  unfold f_X8_isOwn at h
  refine r_aload_n 0 dX8_isOwn_0 rfl ?_
  refine r_iload_n 1 dX8_isOwn_1 rfl ?_
  refine r_iload_n 2 dX8_isOwn_2 rfl ?_
  refine r_iconst (v := 0) dX8_isOwn_3 rfl rfl ?_
  refine r_callV (K' := Y_X8_ofReport) (R' := R_X8_ofReport) (idx := 95) (n := 3) (b := a0) (as := [(0, a1), (0, a2), (0, 0)]) (rest := []) (C' := 0) (D' := 0) (cn := 8) rfl k0_X8_ofReport kV_X8_ofReport kl_X8_95 ⟨by decide, by decide⟩ dX8_isOwn_4 rfl rfl (Nat.le_of_ble_eq_true rfl) (by decide) (by decide) rfl h (fun r hr => m_X8_ofReport hl0 ⟨r, hr, hr⟩) (fun x1 τ2 _ h => ?_)
  refine r_iload_n 1 dX8_isOwn_7 rfl ?_
  refine r_icmp_ne 15 dX8_isOwn_8 (by decide) h (fun h => ?_) (fun h => ?_)
  · refine r_iconst (v := 0) dX8_isOwn_15 rfl rfl ?_
    exact r_zretc (by decide) rfl dX8_isOwn_16 h
  · refine r_iconst (v := 1) dX8_isOwn_11 rfl rfl ?_
    refine r_goto 16 dX8_isOwn_12 (by decide) ?_
    exact r_zretc (by decide) rfl dX8_isOwn_16 h
theorem m_X8_isOwn {g : zF} (hl0 : g.2.2.2.1.stackTraces = false) {Q : zR × zS → Prop} {a0 a1 a2 : Int} {σ : zS} (h : zo (f_X8_isOwn a0 a1 a2 σ) Q) : zm g Y_X8_isOwn R_X8_isOwn [(4, a0), (0, a1), (0, a2)] σ Q := zm_of (by decide) rfl (Nat.le_of_ble_eq_true rfl) (t_X8_isOwn hl0 h)


/- X8_dropReport -/

set_option maxRecDepth 100000 in
set_option maxHeartbeats 4000000 in
theorem t_X8_dropReport_19 {g : zF} (hl0 : g.2.2.2.1.stackTraces = false) {Q : zR × zS → Prop}   : ∀ (n : Nat) (a0 a1 a3 : Int) (σ : zS), zo (f_X8_dropReport_19  n a0 a1 a3 σ) Q → zw g Y_X8_dropReport R_X8_dropReport 19 [(0, (4, a0)), (1, (0, a1)), (3, (0, a3))] [] σ 0 0 Q := by
  intro n
  induction n with
  | zero => intro a0 a1 a3 σ h; obtain ⟨r, h, -⟩ := h; cases h
  | succ n ih =>
    intro a0 a1 a3 σ h
    unfold f_X8_dropReport_19 at h
    refine r_iload_n 2 dX8_dropReport_19 rfl ?_
    refine r_iload_n 1 dX8_dropReport_20 rfl ?_
    refine r_aload_n 0 dX8_dropReport_21 rfl ?_
    refine r_iload_n 1 dX8_dropReport_22 rfl ?_
    refine r_callV (K' := Y_X8_manyOf) (R' := R_X8_manyOf) (idx := 92) (n := 1) (b := a0) (as := [(0, a1)]) (rest := [(0, a1), (0, a3)]) (C' := 0) (D' := 0) (cn := 8) rfl k0_X8_manyOf kV_X8_manyOf kl_X8_92 ⟨by decide, by decide⟩ dX8_dropReport_23 rfl rfl (Nat.le_of_ble_eq_true rfl) (by decide) (by decide) rfl h (fun r hr => m_X8_manyOf hl0 ⟨r, hr, hr⟩) (fun x1 τ2 _ h => ?_)
    refine r_callS (K' := Y_X8_reportAt) (R' := R_X8_reportAt) (idx := 85) (n := 2) (as := [(0, a1), (0, x1)]) (rest := [(0, a3)]) (C' := 0) (D' := 0) rfl k0_X8_reportAt wd_1697 kl_X8_85 ⟨by decide, by decide⟩ dX8_dropReport_26 rfl rfl (Nat.le_of_ble_eq_true rfl) (by decide) (by decide) h (fun r hr => m_X8_reportAt hl0 ⟨r, hr, hr⟩) (fun x3 τ4 _ h => ?_)
    refine r_icmp_ge 53 dX8_dropReport_29 (by decide) h (fun h => ?_) (fun h => ?_)
    · exact r_vret rfl dX8_dropReport_53 h
    · refine r_aload_n 0 dX8_dropReport_32 rfl ?_
      refine r_getr fd_X8_24 rfl dX8_dropReport_33 h (fun x5 h => ?_)
      refine r_iload_n 2 dX8_dropReport_36 rfl ?_
      refine r_aload_n 0 dX8_dropReport_37 rfl ?_
      refine r_getr fd_X8_24 rfl dX8_dropReport_38 h (fun x6 h => ?_)
      refine r_iload_n 2 dX8_dropReport_41 rfl ?_
      refine r_bipush (v := 7) dX8_dropReport_42 rfl rfl ?_
      refine r_iadd dX8_dropReport_44 ?_
      refine r_iald dX8_dropReport_45 h (fun x7 h => ?_)
      refine r_iast dX8_dropReport_46 h (fun τ8 h => ?_)
      refine r_iinc (L' := [(3, (0, (w32 (a3 + 1)))), (0, (4, a0)), (1, (0, a1))]) 2 dX8_dropReport_47 rfl (by decide) rfl ?_
      refine r_goto 19 dX8_dropReport_50 (by decide) ?_
      refine r_weak (L' := [(0, (4, a0)), (1, (0, a1)), (3, (0, (w32 (a3 + 1))))]) [1, 2, 0] rfl ?_
      exact ih _ _ _ _ h

set_option maxRecDepth 100000 in
set_option maxHeartbeats 4000000 in
theorem t_X8_dropReport {g : zF} (hl0 : g.2.2.2.1.stackTraces = false) {Q : zR × zS → Prop}   {a0 a1 a2 : Int} {σ : zS} (h : zo (f_X8_dropReport  a0 a1 a2 σ) Q) : zw g Y_X8_dropReport R_X8_dropReport 0 [(0, (4, a0)), (1, (0, a1)), (2, (0, a2))] [] σ 0 0 Q := by
  unfold f_X8_dropReport at h
  refine r_aload_n 0 dX8_dropReport_0 rfl ?_
  refine r_getr fd_X8_24 rfl dX8_dropReport_1 h (fun x1 h => ?_)
  refine r_iload_n 1 dX8_dropReport_4 rfl ?_
  refine r_callS (K' := Y_X8_listAt) (R' := R_X8_listAt) (idx := 81) (n := 1) (as := [(0, a1)]) (rest := [(4, x1)]) (C' := 0) (D' := 0) rfl k0_X8_listAt wd_1690 kl_X8_81 ⟨by decide, by decide⟩ dX8_dropReport_5 rfl rfl (Nat.le_of_ble_eq_true rfl) (by decide) (by decide) h (fun r hr => m_X8_listAt hl0 ⟨r, hr, hr⟩) (fun x2 τ3 _ h => ?_)
  refine r_dup2 dX8_dropReport_8 rfl rfl ?_
  refine r_iald dX8_dropReport_9 h (fun x4 h => ?_)
  refine r_iconst (v := 1) dX8_dropReport_10 rfl rfl ?_
  refine r_isub dX8_dropReport_11 ?_
  refine r_iast dX8_dropReport_12 h (fun τ5 h => ?_)
  refine r_iload_n 1 dX8_dropReport_13 rfl ?_
  refine r_iload_n 2 dX8_dropReport_14 rfl ?_
  refine r_callS (K' := Y_X8_reportAt) (R' := R_X8_reportAt) (idx := 85) (n := 2) (as := [(0, a1), (0, a2)]) (rest := []) (C' := 0) (D' := 0) rfl k0_X8_reportAt wd_1697 kl_X8_85 ⟨by decide, by decide⟩ dX8_dropReport_15 rfl rfl (Nat.le_of_ble_eq_true rfl) (by decide) (by decide) h (fun r hr => m_X8_reportAt hl0 ⟨r, hr, hr⟩) (fun x6 τ7 _ h => ?_)
  refine r_istore_n (L' := [(3, (0, x6)), (0, (4, a0)), (1, (0, a1)), (2, (0, a2))]) dX8_dropReport_18 (by decide) rfl ?_
  refine r_weak (L' := [(0, (4, a0)), (1, (0, a1)), (3, (0, x6))]) [1, 2, 0] rfl ?_
  exact t_X8_dropReport_19 hl0   zFU _ _ _ _ h
theorem m_X8_dropReport {g : zF} (hl0 : g.2.2.2.1.stackTraces = false) {Q : zR × zS → Prop} {a0 a1 a2 : Int} {σ : zS} (h : zo (f_X8_dropReport a0 a1 a2 σ) Q) : zm g Y_X8_dropReport R_X8_dropReport [(4, a0), (0, a1), (0, a2)] σ Q := zm_of (by decide) rfl (Nat.le_of_ble_eq_true rfl) (t_X8_dropReport hl0 h)


/- X8_ageAt -/

set_option maxRecDepth 100000 in
set_option maxHeartbeats 4000000 in
theorem t_X8_ageAt {g : zF} (hl0 : g.2.2.2.1.stackTraces = false) {Q : zR × zS → Prop}   {a0 a1 : Int} {σ : zS} (h : zo (f_X8_ageAt  a0 a1 σ) Q) : zw g Y_X8_ageAt R_X8_ageAt 0 [(0, (4, a0)), (1, (0, a1))] [] σ 0 0 Q := by
  unfold f_X8_ageAt at h
  refine r_aload_n 0 dX8_ageAt_0 rfl ?_
  refine r_getr fd_X8_24 rfl dX8_ageAt_1 h (fun x1 h => ?_)
  refine r_iconst (v := 2) dX8_ageAt_4 rfl rfl ?_
  refine r_iald dX8_ageAt_5 h (fun x2 h => ?_)
  refine r_iload_n 1 dX8_ageAt_6 rfl ?_
  refine r_isub dX8_ageAt_7 ?_
  exact r_iret rfl dX8_ageAt_8 h
theorem m_X8_ageAt {g : zF} (hl0 : g.2.2.2.1.stackTraces = false) {Q : zR × zS → Prop} {a0 a1 : Int} {σ : zS} (h : zo (f_X8_ageAt a0 a1 σ) Q) : zm g Y_X8_ageAt R_X8_ageAt [(4, a0), (0, a1)] σ Q := zm_of (by decide) rfl (Nat.le_of_ble_eq_true rfl) (t_X8_ageAt hl0 h)


/- X8_lower -/

set_option maxRecDepth 100000 in
set_option maxHeartbeats 4000000 in
theorem t_X8_lower {g : zF} (hl0 : g.2.2.2.1.stackTraces = false) {Q : zR × zS → Prop}   {a0 a1 : Int} {σ : zS} (h : zo (f_X8_lower  a0 a1 σ) Q) : zw g Y_X8_lower R_X8_lower 0 [(0, (0, a0)), (1, (0, a1))] [] σ 0 0 Q := by
  unfold f_X8_lower at h
  refine r_iconst (v := 0) dX8_lower_0 rfl rfl ?_
  refine r_iload_n 0 dX8_lower_1 rfl ?_
  refine r_iload_n 1 dX8_lower_2 rfl ?_
  refine r_isub dX8_lower_3 ?_
  refine r_mmax mq_X8_102 ⟨by decide, Nat.le_of_ble_eq_true rfl⟩ rfl dX8_lower_4 ?_
  exact r_iret rfl dX8_lower_7 h
theorem m_X8_lower {g : zF} (hl0 : g.2.2.2.1.stackTraces = false) {Q : zR × zS → Prop} {a0 a1 : Int} {σ : zS} (h : zo (f_X8_lower a0 a1 σ) Q) : zm g Y_X8_lower R_X8_lower [(0, a0), (0, a1)] σ Q := zm_of (by decide) rfl (Nat.le_of_ble_eq_true rfl) (t_X8_lower hl0 h)


/- X8_higher -/

set_option maxRecDepth 100000 in
set_option maxHeartbeats 4000000 in
theorem t_X8_higher {g : zF} (hl0 : g.2.2.2.1.stackTraces = false) {Q : zR × zS → Prop}   {a0 a1 : Int} {σ : zS} (h : zo (f_X8_higher  a0 a1 σ) Q) : zw g Y_X8_higher R_X8_higher 0 [(0, (0, a0)), (1, (0, a1))] [] σ 0 0 Q := by
  unfold f_X8_higher at h
  refine r_sipush (v := 999) dX8_higher_0 rfl rfl ?_
  refine r_iload_n 0 dX8_higher_3 rfl ?_
  refine r_iload_n 1 dX8_higher_4 rfl ?_
  refine r_iadd dX8_higher_5 ?_
  refine r_mmin mq_X8_107 ⟨by decide, Nat.le_of_ble_eq_true rfl⟩ rfl dX8_higher_6 ?_
  exact r_iret rfl dX8_higher_9 h
theorem m_X8_higher {g : zF} (hl0 : g.2.2.2.1.stackTraces = false) {Q : zR × zS → Prop} {a0 a1 : Int} {σ : zS} (h : zo (f_X8_higher a0 a1 σ) Q) : zm g Y_X8_higher R_X8_higher [(0, a0), (0, a1)] σ Q := zm_of (by decide) rfl (Nat.le_of_ble_eq_true rfl) (t_X8_higher hl0 h)


/- X8_driftOf -/

set_option maxRecDepth 100000 in
set_option maxHeartbeats 4000000 in
theorem t_X8_driftOf {g : zF} (hl0 : g.2.2.2.1.stackTraces = false) {Q : zR × zS → Prop}   {a0 a1 a2 : Int} {σ : zS} (h : zo (f_X8_driftOf  a0 a1 a2 σ) Q) : zw g Y_X8_driftOf R_X8_driftOf 0 [(0, (4, a0)), (1, (0, a1)), (2, (0, a2))] [] σ 0 0 Q := by
  unfold f_X8_driftOf at h
  refine r_aload_n 0 dX8_driftOf_0 rfl ?_
  refine r_iconst (v := 0) dX8_driftOf_1 rfl rfl ?_
  refine r_callV (K' := Y_X8_rule) (R' := R_X8_rule) (idx := 110) (n := 1) (b := a0) (as := [(0, 0)]) (rest := []) (C' := 0) (D' := 0) (cn := 8) rfl k0_X8_rule kV_X8_rule kl_X8_110 ⟨by decide, by decide⟩ dX8_driftOf_2 rfl rfl (Nat.le_of_ble_eq_true rfl) (by decide) (by decide) rfl h (fun r hr => m_X8_rule hl0 ⟨r, hr, hr⟩) (fun x1 τ2 _ h => ?_)
  refine r_aload_n 0 dX8_driftOf_5 rfl ?_
  refine r_aload_n 0 dX8_driftOf_6 rfl ?_
  refine r_iload_n 1 dX8_driftOf_7 rfl ?_
  refine r_iload_n 2 dX8_driftOf_8 rfl ?_
  refine r_iconst (v := 4) dX8_driftOf_9 rfl rfl ?_
  refine r_callV (K' := Y_X8_ofReport) (R' := R_X8_ofReport) (idx := 95) (n := 3) (b := a0) (as := [(0, a1), (0, a2), (0, 4)]) (rest := [(4, a0), (0, x1)]) (C' := 0) (D' := 0) (cn := 8) rfl k0_X8_ofReport kV_X8_ofReport kl_X8_95 ⟨by decide, by decide⟩ dX8_driftOf_10 rfl rfl (Nat.le_of_ble_eq_true rfl) (by decide) (by decide) rfl h (fun r hr => m_X8_ofReport hl0 ⟨r, hr, hr⟩) (fun x3 τ4 _ h => ?_)
  refine r_callV (K' := Y_X8_ageAt) (R' := R_X8_ageAt) (idx := 113) (n := 1) (b := a0) (as := [(0, x3)]) (rest := [(0, x1)]) (C' := 0) (D' := 0) (cn := 8) rfl k0_X8_ageAt kV_X8_ageAt kl_X8_113 ⟨by decide, by decide⟩ dX8_driftOf_13 rfl rfl (Nat.le_of_ble_eq_true rfl) (by decide) (by decide) rfl h (fun r hr => m_X8_ageAt hl0 ⟨r, hr, hr⟩) (fun x5 τ6 _ h => ?_)
  refine r_imul dX8_driftOf_16 ?_
  exact r_iret rfl dX8_driftOf_17 h
theorem m_X8_driftOf {g : zF} (hl0 : g.2.2.2.1.stackTraces = false) {Q : zR × zS → Prop} {a0 a1 a2 : Int} {σ : zS} (h : zo (f_X8_driftOf a0 a1 a2 σ) Q) : zm g Y_X8_driftOf R_X8_driftOf [(4, a0), (0, a1), (0, a2)] σ Q := zm_of (by decide) rfl (Nat.le_of_ble_eq_true rfl) (t_X8_driftOf hl0 h)


/- X8_lowBy -/

set_option maxRecDepth 100000 in
set_option maxHeartbeats 4000000 in
theorem t_X8_lowBy {g : zF} (hl0 : g.2.2.2.1.stackTraces = false) {Q : zR × zS → Prop}   {a0 a1 a2 a3 : Int} {σ : zS} (h : zo (f_X8_lowBy  a0 a1 a2 a3 σ) Q) : zw g Y_X8_lowBy R_X8_lowBy 0 [(0, (4, a0)), (1, (0, a1)), (2, (0, a2)), (3, (0, a3))] [] σ 0 0 Q := by
  unfold f_X8_lowBy at h
  refine r_aload_n 0 dX8_lowBy_0 rfl ?_
  refine r_iload_n 1 dX8_lowBy_1 rfl ?_
  refine r_iload_n 2 dX8_lowBy_2 rfl ?_
  refine r_iconst (v := 5) dX8_lowBy_3 rfl rfl ?_
  refine r_callV (K' := Y_X8_ofReport) (R' := R_X8_ofReport) (idx := 95) (n := 3) (b := a0) (as := [(0, a1), (0, a2), (0, 5)]) (rest := []) (C' := 0) (D' := 0) (cn := 8) rfl k0_X8_ofReport kV_X8_ofReport kl_X8_95 ⟨by decide, by decide⟩ dX8_lowBy_4 rfl rfl (Nat.le_of_ble_eq_true rfl) (by decide) (by decide) rfl h (fun r hr => m_X8_ofReport hl0 ⟨r, hr, hr⟩) (fun x1 τ2 _ h => ?_)
  refine r_iload_n 3 dX8_lowBy_7 rfl ?_
  refine r_callS (K' := Y_X8_lower) (R' := R_X8_lower) (idx := 116) (n := 2) (as := [(0, x1), (0, a3)]) (rest := []) (C' := 0) (D' := 0) rfl k0_X8_lower wd_1732 kl_X8_116 ⟨by decide, by decide⟩ dX8_lowBy_8 rfl rfl (Nat.le_of_ble_eq_true rfl) (by decide) (by decide) h (fun r hr => m_X8_lower hl0 ⟨r, hr, hr⟩) (fun x3 τ4 _ h => ?_)
  exact r_iret rfl dX8_lowBy_11 h
theorem m_X8_lowBy {g : zF} (hl0 : g.2.2.2.1.stackTraces = false) {Q : zR × zS → Prop} {a0 a1 a2 a3 : Int} {σ : zS} (h : zo (f_X8_lowBy a0 a1 a2 a3 σ) Q) : zm g Y_X8_lowBy R_X8_lowBy [(4, a0), (0, a1), (0, a2), (0, a3)] σ Q := zm_of (by decide) rfl (Nat.le_of_ble_eq_true rfl) (t_X8_lowBy hl0 h)


/- X8_topBy -/

set_option maxRecDepth 100000 in
set_option maxHeartbeats 4000000 in
theorem t_X8_topBy {g : zF} (hl0 : g.2.2.2.1.stackTraces = false) {Q : zR × zS → Prop}   {a0 a1 a2 a3 : Int} {σ : zS} (h : zo (f_X8_topBy  a0 a1 a2 a3 σ) Q) : zw g Y_X8_topBy R_X8_topBy 0 [(0, (4, a0)), (1, (0, a1)), (2, (0, a2)), (3, (0, a3))] [] σ 0 0 Q := by
  unfold f_X8_topBy at h
  refine r_aload_n 0 dX8_topBy_0 rfl ?_
  refine r_iload_n 1 dX8_topBy_1 rfl ?_
  refine r_iload_n 2 dX8_topBy_2 rfl ?_
  refine r_bipush (v := 6) dX8_topBy_3 rfl rfl ?_
  refine r_callV (K' := Y_X8_ofReport) (R' := R_X8_ofReport) (idx := 95) (n := 3) (b := a0) (as := [(0, a1), (0, a2), (0, 6)]) (rest := []) (C' := 0) (D' := 0) (cn := 8) rfl k0_X8_ofReport kV_X8_ofReport kl_X8_95 ⟨by decide, by decide⟩ dX8_topBy_5 rfl rfl (Nat.le_of_ble_eq_true rfl) (by decide) (by decide) rfl h (fun r hr => m_X8_ofReport hl0 ⟨r, hr, hr⟩) (fun x1 τ2 _ h => ?_)
  refine r_iload_n 3 dX8_topBy_8 rfl ?_
  refine r_callS (K' := Y_X8_higher) (R' := R_X8_higher) (idx := 119) (n := 2) (as := [(0, x1), (0, a3)]) (rest := []) (C' := 0) (D' := 0) rfl k0_X8_higher wd_1740 kl_X8_119 ⟨by decide, by decide⟩ dX8_topBy_9 rfl rfl (Nat.le_of_ble_eq_true rfl) (by decide) (by decide) h (fun r hr => m_X8_higher hl0 ⟨r, hr, hr⟩) (fun x3 τ4 _ h => ?_)
  exact r_iret rfl dX8_topBy_12 h
theorem m_X8_topBy {g : zF} (hl0 : g.2.2.2.1.stackTraces = false) {Q : zR × zS → Prop} {a0 a1 a2 a3 : Int} {σ : zS} (h : zo (f_X8_topBy a0 a1 a2 a3 σ) Q) : zm g Y_X8_topBy R_X8_topBy [(4, a0), (0, a1), (0, a2), (0, a3)] σ Q := zm_of (by decide) rfl (Nat.le_of_ble_eq_true rfl) (t_X8_topBy hl0 h)


/- X8_doMeet -/

set_option maxRecDepth 100000 in
set_option maxHeartbeats 4000000 in
theorem t_X8_doMeet {g : zF} (hl0 : g.2.2.2.1.stackTraces = false) {Q : zR × zS → Prop}   {a0 a1 a2 a3 : Int} {σ : zS} (h : zo (f_X8_doMeet  a0 a1 a2 a3 σ) Q) : zw g Y_X8_doMeet R_X8_doMeet 0 [(0, (4, a0)), (1, (0, a1)), (2, (0, a2)), (3, (0, a3))] [] σ 0 0 Q := by
  unfold f_X8_doMeet at h
  refine r_aload_n 0 dX8_doMeet_0 rfl ?_
  refine r_iload_n 1 dX8_doMeet_1 rfl ?_
  refine r_iload_n 2 dX8_doMeet_2 rfl ?_
  refine r_aload_n 0 dX8_doMeet_3 rfl ?_
  refine r_iload_n 1 dX8_doMeet_4 rfl ?_
  refine r_iload_n 2 dX8_doMeet_5 rfl ?_
  refine r_callV (K' := Y_X8_driftOf) (R' := R_X8_driftOf) (idx := 122) (n := 2) (b := a0) (as := [(0, a1), (0, a2)]) (rest := [(0, a2), (0, a1), (4, a0)]) (C' := 0) (D' := 0) (cn := 8) rfl k0_X8_driftOf kV_X8_driftOf kl_X8_122 ⟨by decide, by decide⟩ dX8_doMeet_6 rfl rfl (Nat.le_of_ble_eq_true rfl) (by decide) (by decide) rfl h (fun r hr => m_X8_driftOf hl0 ⟨r, hr, hr⟩) (fun x1 τ2 _ h => ?_)
  refine r_callV (K' := Y_X8_lowBy) (R' := R_X8_lowBy) (idx := 125) (n := 3) (b := a0) (as := [(0, a1), (0, a2), (0, x1)]) (rest := []) (C' := 0) (D' := 0) (cn := 8) rfl k0_X8_lowBy kV_X8_lowBy kl_X8_125 ⟨by decide, by decide⟩ dX8_doMeet_9 rfl rfl (Nat.le_of_ble_eq_true rfl) (by decide) (by decide) rfl h (fun r hr => m_X8_lowBy hl0 ⟨r, hr, hr⟩) (fun x3 τ4 _ h => ?_)
  refine r_aload_n 0 dX8_doMeet_12 rfl ?_
  refine r_iload_n 1 dX8_doMeet_13 rfl ?_
  refine r_iload_n 3 dX8_doMeet_14 rfl ?_
  refine r_aload_n 0 dX8_doMeet_15 rfl ?_
  refine r_iload_n 1 dX8_doMeet_16 rfl ?_
  refine r_iload_n 3 dX8_doMeet_17 rfl ?_
  refine r_callV (K' := Y_X8_driftOf) (R' := R_X8_driftOf) (idx := 122) (n := 2) (b := a0) (as := [(0, a1), (0, a3)]) (rest := [(0, a3), (0, a1), (4, a0), (0, x3)]) (C' := 0) (D' := 0) (cn := 8) rfl k0_X8_driftOf kV_X8_driftOf kl_X8_122 ⟨by decide, by decide⟩ dX8_doMeet_18 rfl rfl (Nat.le_of_ble_eq_true rfl) (by decide) (by decide) rfl h (fun r hr => m_X8_driftOf hl0 ⟨r, hr, hr⟩) (fun x5 τ6 _ h => ?_)
  refine r_callV (K' := Y_X8_lowBy) (R' := R_X8_lowBy) (idx := 125) (n := 3) (b := a0) (as := [(0, a1), (0, a3), (0, x5)]) (rest := [(0, x3)]) (C' := 0) (D' := 0) (cn := 8) rfl k0_X8_lowBy kV_X8_lowBy kl_X8_125 ⟨by decide, by decide⟩ dX8_doMeet_21 rfl rfl (Nat.le_of_ble_eq_true rfl) (by decide) (by decide) rfl h (fun r hr => m_X8_lowBy hl0 ⟨r, hr, hr⟩) (fun x7 τ8 _ h => ?_)
  refine r_mmax mq_X8_102 ⟨by decide, Nat.le_of_ble_eq_true rfl⟩ rfl dX8_doMeet_24 ?_
  refine r_istore (L' := [(4, (0, (max x3 x7))), (0, (4, a0)), (1, (0, a1)), (2, (0, a2)), (3, (0, a3))]) dX8_doMeet_27 (by decide) rfl ?_
  refine r_iload 0 dX8_doMeet_29 rfl ?_
  refine r_aload_n 1 dX8_doMeet_31 rfl ?_
  refine r_iload_n 2 dX8_doMeet_32 rfl ?_
  refine r_iload_n 3 dX8_doMeet_33 rfl ?_
  refine r_aload_n 1 dX8_doMeet_34 rfl ?_
  refine r_iload_n 2 dX8_doMeet_35 rfl ?_
  refine r_iload_n 3 dX8_doMeet_36 rfl ?_
  refine r_callV (K' := Y_X8_driftOf) (R' := R_X8_driftOf) (idx := 122) (n := 2) (b := a0) (as := [(0, a1), (0, a2)]) (rest := [(0, a2), (0, a1), (4, a0), (0, (max x3 x7))]) (C' := 0) (D' := 0) (cn := 8) rfl k0_X8_driftOf kV_X8_driftOf kl_X8_122 ⟨by decide, by decide⟩ dX8_doMeet_37 rfl rfl (Nat.le_of_ble_eq_true rfl) (by decide) (by decide) rfl h (fun r hr => m_X8_driftOf hl0 ⟨r, hr, hr⟩) (fun x9 τ10 _ h => ?_)
  refine r_callV (K' := Y_X8_topBy) (R' := R_X8_topBy) (idx := 128) (n := 3) (b := a0) (as := [(0, a1), (0, a2), (0, x9)]) (rest := [(0, (max x3 x7))]) (C' := 0) (D' := 0) (cn := 8) rfl k0_X8_topBy kV_X8_topBy kl_X8_128 ⟨by decide, by decide⟩ dX8_doMeet_40 rfl rfl (Nat.le_of_ble_eq_true rfl) (by decide) (by decide) rfl h (fun r hr => m_X8_topBy hl0 ⟨r, hr, hr⟩) (fun x11 τ12 _ h => ?_)
  refine r_aload_n 1 dX8_doMeet_43 rfl ?_
  refine r_iload_n 2 dX8_doMeet_44 rfl ?_
  refine r_iload_n 4 dX8_doMeet_45 rfl ?_
  refine r_aload_n 1 dX8_doMeet_46 rfl ?_
  refine r_iload_n 2 dX8_doMeet_47 rfl ?_
  refine r_iload_n 4 dX8_doMeet_48 rfl ?_
  refine r_callV (K' := Y_X8_driftOf) (R' := R_X8_driftOf) (idx := 122) (n := 2) (b := a0) (as := [(0, a1), (0, a3)]) (rest := [(0, a3), (0, a1), (4, a0), (0, x11), (0, (max x3 x7))]) (C' := 0) (D' := 0) (cn := 8) rfl k0_X8_driftOf kV_X8_driftOf kl_X8_122 ⟨by decide, by decide⟩ dX8_doMeet_49 rfl rfl (Nat.le_of_ble_eq_true rfl) (by decide) (by decide) rfl h (fun r hr => m_X8_driftOf hl0 ⟨r, hr, hr⟩) (fun x13 τ14 _ h => ?_)
  refine r_callV (K' := Y_X8_topBy) (R' := R_X8_topBy) (idx := 128) (n := 3) (b := a0) (as := [(0, a1), (0, a3), (0, x13)]) (rest := [(0, x11), (0, (max x3 x7))]) (C' := 0) (D' := 0) (cn := 8) rfl k0_X8_topBy kV_X8_topBy kl_X8_128 ⟨by decide, by decide⟩ dX8_doMeet_52 rfl rfl (Nat.le_of_ble_eq_true rfl) (by decide) (by decide) rfl h (fun r hr => m_X8_topBy hl0 ⟨r, hr, hr⟩) (fun x15 τ16 _ h => ?_)
  refine r_mmin mq_X8_107 ⟨by decide, Nat.le_of_ble_eq_true rfl⟩ rfl dX8_doMeet_55 ?_
  refine r_icmp_gt 65 dX8_doMeet_58 (by decide) h (fun h => ?_) (fun h => ?_)
  · refine r_iconst (v := 0) dX8_doMeet_65 rfl rfl ?_
    exact r_zretc (by decide) rfl dX8_doMeet_66 h
  · refine r_iconst (v := 1) dX8_doMeet_61 rfl rfl ?_
    refine r_goto 66 dX8_doMeet_62 (by decide) ?_
    exact r_zretc (by decide) rfl dX8_doMeet_66 h
theorem m_X8_doMeet {g : zF} (hl0 : g.2.2.2.1.stackTraces = false) {Q : zR × zS → Prop} {a0 a1 a2 a3 : Int} {σ : zS} (h : zo (f_X8_doMeet a0 a1 a2 a3 σ) Q) : zm g Y_X8_doMeet R_X8_doMeet [(4, a0), (0, a1), (0, a2), (0, a3)] σ Q := zm_of (by decide) rfl (Nat.le_of_ble_eq_true rfl) (t_X8_doMeet hl0 h)


/- X8_judges -/

set_option maxRecDepth 100000 in
set_option maxHeartbeats 4000000 in
theorem t_X8_judges_84 {g : zF} (hl0 : g.2.2.2.1.stackTraces = false) {Q : zR × zS → Prop}   {a5 s0 s1 s2 : Int} {σ : zS} (h : zo (f_X8_judges_84  a5 s0 s1 s2 σ) Q) : zw g Y_X8_judges R_X8_judges 84 [(5, (0, a5))] [(0, s2), (0, s1), (4, s0)] σ 0 0 Q := by
  unfold f_X8_judges_84 at h
  refine r_callV (K' := Y_X8_count) (R' := R_X8_count) (idx := 143) (n := 2) (b := s0) (as := [(0, s1), (0, s2)]) (rest := []) (C' := 0) (D' := 0) (cn := 8) rfl k0_X8_count kV_X8_count kl_X8_143 ⟨by decide, by decide⟩ dX8_judges_84 rfl rfl (Nat.le_of_ble_eq_true rfl) (by decide) (by decide) rfl h (fun r hr => m_X8_count hl0 ⟨r, hr, hr⟩) (fun _ τ2 _ h => ?_)
  refine r_iload 0 dX8_judges_87 rfl ?_
  refine r_if_ne 96 dX8_judges_89 (by decide) h (fun h => ?_) (fun h => ?_)
  · refine r_iconst (v := 0) dX8_judges_96 rfl rfl ?_
    exact r_zretc (by decide) rfl dX8_judges_97 h
  · refine r_iconst (v := 1) dX8_judges_92 rfl rfl ?_
    refine r_goto 97 dX8_judges_93 (by decide) ?_
    exact r_zretc (by decide) rfl dX8_judges_97 h

set_option maxRecDepth 100000 in
set_option maxHeartbeats 4000000 in
theorem t_X8_judges_69 {g : zF} (hl0 : g.2.2.2.1.stackTraces = false) {Q : zR × zS → Prop}   {a0 a1 a5 s0 s1 s2 s3 : Int} {σ : zS} (h : zo (f_X8_judges_69  a0 a1 a5 s0 s1 s2 s3 σ) Q) : zw g Y_X8_judges R_X8_judges 69 [(0, (4, a0)), (1, (0, a1)), (5, (0, a5))] [(0, s3), (0, s2), (0, s1), (4, s0)] σ 0 0 Q := by
  unfold f_X8_judges_69 at h
  refine r_callV (K' := Y_X8_putTrust) (R' := R_X8_putTrust) (idx := 139) (n := 3) (b := s0) (as := [(0, s1), (0, s2), (0, s3)]) (rest := []) (C' := 0) (D' := 0) (cn := 8) rfl k0_X8_putTrust kV_X8_putTrust kl_X8_139 ⟨by decide, by decide⟩ dX8_judges_69 rfl rfl (Nat.le_of_ble_eq_true rfl) (by decide) (by decide) rfl h (fun r hr => m_X8_putTrust hl0 ⟨r, hr, hr⟩) (fun _ τ2 _ h => ?_)
  refine r_aload_n 0 dX8_judges_72 rfl ?_
  refine r_iload_n 1 dX8_judges_73 rfl ?_
  refine r_iload 2 dX8_judges_74 rfl ?_
  refine r_if_eq 83 dX8_judges_76 (by decide) h (fun h => ?_) (fun h => ?_)
  · refine r_iconst (v := 4) dX8_judges_83 rfl rfl ?_
    refine r_weak (L' := [(5, (0, a5))]) [2] rfl ?_
    exact t_X8_judges_84 hl0   h
  · refine r_iconst (v := 3) dX8_judges_79 rfl rfl ?_
    refine r_goto 84 dX8_judges_80 (by decide) ?_
    refine r_weak (L' := [(5, (0, a5))]) [2] rfl ?_
    exact t_X8_judges_84 hl0   h

set_option maxRecDepth 100000 in
set_option maxHeartbeats 4000000 in
theorem t_X8_judges {g : zF} (hl0 : g.2.2.2.1.stackTraces = false) {Q : zR × zS → Prop}   {a0 a1 a2 a3 : Int} {σ : zS} (h : zo (f_X8_judges  a0 a1 a2 a3 σ) Q) : zw g Y_X8_judges R_X8_judges 0 [(0, (4, a0)), (1, (0, a1)), (2, (0, a2)), (3, (0, a3))] [] σ 0 0 Q := by
  unfold f_X8_judges at h
  refine r_aload_n 0 dX8_judges_0 rfl ?_
  refine r_iload_n 1 dX8_judges_1 rfl ?_
  refine r_iload_n 2 dX8_judges_2 rfl ?_
  refine r_iconst (v := 1) dX8_judges_3 rfl rfl ?_
  refine r_callV (K' := Y_X8_ofReport) (R' := R_X8_ofReport) (idx := 95) (n := 3) (b := a0) (as := [(0, a1), (0, a2), (0, 1)]) (rest := []) (C' := 0) (D' := 0) (cn := 8) rfl k0_X8_ofReport kV_X8_ofReport kl_X8_95 ⟨by decide, by decide⟩ dX8_judges_4 rfl rfl (Nat.le_of_ble_eq_true rfl) (by decide) (by decide) rfl h (fun r hr => m_X8_ofReport hl0 ⟨r, hr, hr⟩) (fun x1 τ2 _ h => ?_)
  refine r_istore (L' := [(4, (0, x1)), (0, (4, a0)), (1, (0, a1)), (2, (0, a2)), (3, (0, a3))]) dX8_judges_7 (by decide) rfl ?_
  refine r_aload_n 1 dX8_judges_9 rfl ?_
  refine r_iload_n 2 dX8_judges_10 rfl ?_
  refine r_iload 0 dX8_judges_11 rfl ?_
  refine r_callV (K' := Y_X8_areLinked) (R' := R_X8_areLinked) (idx := 131) (n := 2) (b := a0) (as := [(0, a1), (0, x1)]) (rest := []) (C' := 0) (D' := 0) (cn := 8) rfl k0_X8_areLinked kV_X8_areLinked kl_X8_131 ⟨by decide, by decide⟩ dX8_judges_13 rfl rfl (Nat.le_of_ble_eq_true rfl) (by decide) (by decide) rfl h (fun r hr => m_X8_areLinked hl0 ⟨r, hr, hr⟩) (fun x3 τ4 _ h => ?_)
  refine r_if_ne 21 dX8_judges_16 (by decide) h (fun h => ?_) (fun h => ?_)
  · refine r_aload_n 1 dX8_judges_21 rfl ?_
    refine r_iload_n 2 dX8_judges_22 rfl ?_
    refine r_iload_n 3 dX8_judges_23 rfl ?_
    refine r_iload_n 4 dX8_judges_24 rfl ?_
    refine r_callV (K' := Y_X8_doMeet) (R' := R_X8_doMeet) (idx := 135) (n := 3) (b := a0) (as := [(0, a1), (0, a2), (0, a3)]) (rest := []) (C' := 0) (D' := 0) (cn := 8) rfl k0_X8_doMeet kV_X8_doMeet kl_X8_135 ⟨by decide, by decide⟩ dX8_judges_25 rfl rfl (Nat.le_of_ble_eq_true rfl) (by decide) (by decide) rfl h (fun r hr => m_X8_doMeet hl0 ⟨r, hr, hr⟩) (fun x5 τ6 _ h => ?_)
    refine r_istore (L' := [(5, (0, x5)), (4, (0, x1)), (0, (4, a0)), (1, (0, a1)), (2, (0, a2)), (3, (0, a3))]) dX8_judges_28 (by decide) rfl ?_
    refine r_aload_n 2 dX8_judges_30 rfl ?_
    refine r_iload_n 3 dX8_judges_31 rfl ?_
    refine r_iload 1 dX8_judges_32 rfl ?_
    refine r_iload 0 dX8_judges_34 rfl ?_
    refine r_if_eq 56 dX8_judges_36 (by decide) h (fun h => ?_) (fun h => ?_)
    · refine r_iconst (v := 0) dX8_judges_56 rfl rfl ?_
      refine r_aload_n 2 dX8_judges_57 rfl ?_
      refine r_iload_n 3 dX8_judges_58 rfl ?_
      refine r_iload 1 dX8_judges_59 rfl ?_
      refine r_callV (K' := Y_X8_trustOf) (R' := R_X8_trustOf) (idx := 77) (n := 2) (b := a0) (as := [(0, a1), (0, x1)]) (rest := [(0, 0), (0, x1), (0, a1), (4, a0)]) (C' := 0) (D' := 0) (cn := 8) rfl k0_X8_trustOf kV_X8_trustOf kl_X8_77 ⟨by decide, by decide⟩ dX8_judges_61 rfl rfl (Nat.le_of_ble_eq_true rfl) (by decide) (by decide) rfl h (fun r hr => m_X8_trustOf hl0 ⟨r, hr, hr⟩) (fun x7 τ8 _ h => ?_)
      refine r_iconst (v := 2) dX8_judges_64 rfl rfl ?_
      refine r_isub dX8_judges_65 ?_
      refine r_mmax mq_X8_102 ⟨by decide, Nat.le_of_ble_eq_true rfl⟩ rfl dX8_judges_66 ?_
      refine r_weak (L' := [(0, (4, a0)), (1, (0, a1)), (5, (0, x5))]) [2, 3, 0] rfl ?_
      exact t_X8_judges_69 hl0   h
    · refine r_bipush (v := 10) dX8_judges_39 rfl rfl ?_
      refine r_aload_n 2 dX8_judges_41 rfl ?_
      refine r_iload_n 3 dX8_judges_42 rfl ?_
      refine r_iload 1 dX8_judges_43 rfl ?_
      refine r_callV (K' := Y_X8_trustOf) (R' := R_X8_trustOf) (idx := 77) (n := 2) (b := a0) (as := [(0, a1), (0, x1)]) (rest := [(0, 10), (0, x1), (0, a1), (4, a0)]) (C' := 0) (D' := 0) (cn := 8) rfl k0_X8_trustOf kV_X8_trustOf kl_X8_77 ⟨by decide, by decide⟩ dX8_judges_45 rfl rfl (Nat.le_of_ble_eq_true rfl) (by decide) (by decide) rfl h (fun r hr => m_X8_trustOf hl0 ⟨r, hr, hr⟩) (fun x9 τ10 _ h => ?_)
      refine r_iconst (v := 1) dX8_judges_48 rfl rfl ?_
      refine r_iadd dX8_judges_49 ?_
      refine r_mmin mq_X8_107 ⟨by decide, Nat.le_of_ble_eq_true rfl⟩ rfl dX8_judges_50 ?_
      refine r_goto 69 dX8_judges_53 (by decide) ?_
      refine r_weak (L' := [(0, (4, a0)), (1, (0, a1)), (5, (0, x5))]) [2, 3, 0] rfl ?_
      exact t_X8_judges_69 hl0   h
  · refine r_iconst (v := 0) dX8_judges_19 rfl rfl ?_
    exact r_zretc (by decide) rfl dX8_judges_20 h
theorem m_X8_judges {g : zF} (hl0 : g.2.2.2.1.stackTraces = false) {Q : zR × zS → Prop} {a0 a1 a2 a3 : Int} {σ : zS} (h : zo (f_X8_judges a0 a1 a2 a3 σ) Q) : zm g Y_X8_judges R_X8_judges [(4, a0), (0, a1), (0, a2), (0, a3)] σ Q := zm_of (by decide) rfl (Nat.le_of_ble_eq_true rfl) (t_X8_judges hl0 h)


/- X8_comes -/

set_option maxRecDepth 100000 in
set_option maxHeartbeats 4000000 in
theorem t_X8_comes_23 {g : zF} (hl0 : g.2.2.2.1.stackTraces = false) {Q : zR × zS → Prop}   {a0 a1 a2 a3 a4 a5 a6 a7 : Int} {σ : zS} (h : zo (f_X8_comes_23  a0 a1 a2 a3 a4 a5 a6 a7 σ) Q) : zw g Y_X8_comes R_X8_comes 23 [(0, (4, a0)), (1, (0, a1)), (2, (0, a2)), (3, (0, a3)), (4, (0, a4)), (5, (0, a5)), (6, (0, a6)), (7, (0, a7))] [] σ 0 0 Q := by
  unfold f_X8_comes_23 at h
  refine r_aload_n 0 dX8_comes_23 rfl ?_
  refine r_iload_n 1 dX8_comes_24 rfl ?_
  refine r_callV (K' := Y_X8_manyOf) (R' := R_X8_manyOf) (idx := 92) (n := 1) (b := a0) (as := [(0, a1)]) (rest := []) (C' := 0) (D' := 0) (cn := 8) rfl k0_X8_manyOf kV_X8_manyOf kl_X8_92 ⟨by decide, by decide⟩ dX8_comes_25 rfl rfl (Nat.le_of_ble_eq_true rfl) (by decide) (by decide) rfl h (fun r hr => m_X8_manyOf hl0 ⟨r, hr, hr⟩) (fun x1 τ2 _ h => ?_)
  refine r_istore (L' := [(9, (0, x1)), (0, (4, a0)), (1, (0, a1)), (2, (0, a2)), (3, (0, a3)), (4, (0, a4)), (5, (0, a5)), (6, (0, a6)), (7, (0, a7))]) dX8_comes_28 (by decide) rfl ?_
  refine r_iload_n 2 dX8_comes_30 rfl ?_
  refine r_iload 0 dX8_comes_31 rfl ?_
  refine r_callS (K' := Y_X8_reportAt) (R' := R_X8_reportAt) (idx := 85) (n := 2) (as := [(0, a1), (0, x1)]) (rest := []) (C' := 0) (D' := 0) rfl k0_X8_reportAt wd_1697 kl_X8_85 ⟨by decide, by decide⟩ dX8_comes_33 rfl rfl (Nat.le_of_ble_eq_true rfl) (by decide) (by decide) h (fun r hr => m_X8_reportAt hl0 ⟨r, hr, hr⟩) (fun x3 τ4 _ h => ?_)
  refine r_istore (L' := [(10, (0, x3)), (9, (0, x1)), (0, (4, a0)), (1, (0, a1)), (2, (0, a2)), (3, (0, a3)), (4, (0, a4)), (5, (0, a5)), (6, (0, a6)), (7, (0, a7))]) dX8_comes_36 (by decide) rfl ?_
  refine r_aload_n 2 dX8_comes_38 rfl ?_
  refine r_getr fd_X8_24 rfl dX8_comes_39 h (fun x5 h => ?_)
  refine r_iload_n 3 dX8_comes_42 rfl ?_
  refine r_callS (K' := Y_X8_listAt) (R' := R_X8_listAt) (idx := 81) (n := 1) (as := [(0, a1)]) (rest := [(4, x5)]) (C' := 0) (D' := 0) rfl k0_X8_listAt wd_1690 kl_X8_81 ⟨by decide, by decide⟩ dX8_comes_43 rfl rfl (Nat.le_of_ble_eq_true rfl) (by decide) (by decide) h (fun r hr => m_X8_listAt hl0 ⟨r, hr, hr⟩) (fun x6 τ7 _ h => ?_)
  refine r_dup2 dX8_comes_46 rfl rfl ?_
  refine r_iald dX8_comes_47 h (fun x8 h => ?_)
  refine r_iconst (v := 1) dX8_comes_48 rfl rfl ?_
  refine r_iadd dX8_comes_49 ?_
  refine r_iast dX8_comes_50 h (fun τ9 h => ?_)
  refine r_aload_n 2 dX8_comes_51 rfl ?_
  refine r_getr fd_X8_24 rfl dX8_comes_52 h (fun x10 h => ?_)
  refine r_iload 0 dX8_comes_55 rfl ?_
  refine r_iconst (v := 0) dX8_comes_57 rfl rfl ?_
  refine r_iadd dX8_comes_58 ?_
  refine r_iload_n 4 dX8_comes_59 rfl ?_
  refine r_iast dX8_comes_60 h (fun τ11 h => ?_)
  refine r_aload_n 2 dX8_comes_61 rfl ?_
  refine r_getr fd_X8_24 rfl dX8_comes_62 h (fun x12 h => ?_)
  refine r_iload 0 dX8_comes_65 rfl ?_
  refine r_iconst (v := 1) dX8_comes_67 rfl rfl ?_
  refine r_iadd dX8_comes_68 ?_
  refine r_iload_n 5 dX8_comes_69 rfl ?_
  refine r_iast dX8_comes_70 h (fun τ13 h => ?_)
  refine r_aload_n 2 dX8_comes_71 rfl ?_
  refine r_getr fd_X8_24 rfl dX8_comes_72 h (fun x14 h => ?_)
  refine r_iload 0 dX8_comes_75 rfl ?_
  refine r_iconst (v := 2) dX8_comes_77 rfl rfl ?_
  refine r_iadd dX8_comes_78 ?_
  refine r_iload 6 dX8_comes_79 rfl ?_
  refine r_iast dX8_comes_81 h (fun τ15 h => ?_)
  refine r_aload_n 2 dX8_comes_82 rfl ?_
  refine r_getr fd_X8_24 rfl dX8_comes_83 h (fun x16 h => ?_)
  refine r_iload 0 dX8_comes_86 rfl ?_
  refine r_iconst (v := 3) dX8_comes_88 rfl rfl ?_
  refine r_iadd dX8_comes_89 ?_
  refine r_iload 7 dX8_comes_90 rfl ?_
  refine r_iast dX8_comes_92 h (fun τ17 h => ?_)
  refine r_aload_n 2 dX8_comes_93 rfl ?_
  refine r_getr fd_X8_24 rfl dX8_comes_94 h (fun x18 h => ?_)
  refine r_iload 0 dX8_comes_97 rfl ?_
  refine r_iconst (v := 4) dX8_comes_99 rfl rfl ?_
  refine r_iadd dX8_comes_100 ?_
  refine r_iload 8 dX8_comes_101 rfl ?_
  refine r_iast dX8_comes_103 h (fun τ19 h => ?_)
  refine r_aload_n 2 dX8_comes_104 rfl ?_
  refine r_getr fd_X8_24 rfl dX8_comes_105 h (fun x20 h => ?_)
  refine r_iload 0 dX8_comes_108 rfl ?_
  refine r_iconst (v := 5) dX8_comes_110 rfl rfl ?_
  refine r_iadd dX8_comes_111 ?_
  refine r_iload 9 dX8_comes_112 rfl ?_
  refine r_sipush (v := 1000) dX8_comes_114 rfl rfl ?_
  refine r_idiv dX8_comes_117 h (fun h => ?_)
  refine r_iast dX8_comes_118 h (fun τ21 h => ?_)
  refine r_aload_n 2 dX8_comes_119 rfl ?_
  refine r_getr fd_X8_24 rfl dX8_comes_120 h (fun x22 h => ?_)
  refine r_iload 0 dX8_comes_123 rfl ?_
  refine r_bipush (v := 6) dX8_comes_125 rfl rfl ?_
  refine r_iadd dX8_comes_127 ?_
  refine r_iload 9 dX8_comes_128 rfl ?_
  refine r_sipush (v := 1000) dX8_comes_130 rfl rfl ?_
  refine r_irem dX8_comes_133 h (fun h => ?_)
  refine r_iast dX8_comes_134 h (fun τ23 h => ?_)
  refine r_iload 1 dX8_comes_135 rfl ?_
  exact r_iret rfl dX8_comes_137 h

set_option maxRecDepth 100000 in
set_option maxHeartbeats 4000000 in
theorem t_X8_comes {g : zF} (hl0 : g.2.2.2.1.stackTraces = false) {Q : zR × zS → Prop}   {a0 a1 a2 a3 a4 a5 a6 a7 : Int} {σ : zS} (h : zo (f_X8_comes  a0 a1 a2 a3 a4 a5 a6 a7 σ) Q) : zw g Y_X8_comes R_X8_comes 0 [(0, (4, a0)), (1, (0, a1)), (2, (0, a2)), (3, (0, a3)), (4, (0, a4)), (5, (0, a5)), (6, (0, a6)), (7, (0, a7))] [] σ 0 0 Q := by
  unfold f_X8_comes at h
  refine r_aload_n 0 dX8_comes_0 rfl ?_
  refine r_iload_n 1 dX8_comes_1 rfl ?_
  refine r_iload_n 2 dX8_comes_2 rfl ?_
  refine r_iload 5 dX8_comes_3 rfl ?_
  refine r_callV (K' := Y_X8_reportOf) (R' := R_X8_reportOf) (idx := 99) (n := 3) (b := a0) (as := [(0, a1), (0, a2), (0, a5)]) (rest := []) (C' := 0) (D' := 0) (cn := 8) rfl k0_X8_reportOf kV_X8_reportOf kl_X8_99 ⟨by decide, by decide⟩ dX8_comes_5 rfl rfl (Nat.le_of_ble_eq_true rfl) (by decide) (by decide) rfl h (fun r hr => m_X8_reportOf hl0 ⟨r, hr, hr⟩) (fun x1 τ2 _ h => ?_)
  refine r_istore (L' := [(8, (0, x1)), (0, (4, a0)), (1, (0, a1)), (2, (0, a2)), (3, (0, a3)), (4, (0, a4)), (5, (0, a5)), (6, (0, a6)), (7, (0, a7))]) dX8_comes_8 (by decide) rfl ?_
  refine r_iload 0 dX8_comes_10 rfl ?_
  refine r_iconst (v := (-1)) dX8_comes_12 rfl rfl ?_
  refine r_icmp_eq 23 dX8_comes_13 (by decide) h (fun h => ?_) (fun h => ?_)
  · refine r_weak (L' := [(0, (4, a0)), (1, (0, a1)), (2, (0, a2)), (3, (0, a3)), (4, (0, a4)), (5, (0, a5)), (6, (0, a6)), (7, (0, a7))]) [1, 2, 3, 4, 5, 6, 7, 8] rfl ?_
    exact t_X8_comes_23 hl0   h
  · refine r_aload_n 1 dX8_comes_16 rfl ?_
    refine r_iload_n 2 dX8_comes_17 rfl ?_
    refine r_iload 0 dX8_comes_18 rfl ?_
    refine r_callV (K' := Y_X8_dropReport) (R' := R_X8_dropReport) (idx := 147) (n := 2) (b := a0) (as := [(0, a1), (0, x1)]) (rest := []) (C' := 0) (D' := 0) (cn := 8) rfl k0_X8_dropReport kV_X8_dropReport kl_X8_147 ⟨by decide, by decide⟩ dX8_comes_20 rfl rfl (Nat.le_of_ble_eq_true rfl) (by decide) (by decide) rfl h (fun r hr => m_X8_dropReport hl0 ⟨r, hr, hr⟩) (fun _ τ4 _ h => ?_)
    refine r_weak (L' := [(0, (4, a0)), (1, (0, a1)), (2, (0, a2)), (3, (0, a3)), (4, (0, a4)), (5, (0, a5)), (6, (0, a6)), (7, (0, a7))]) [1, 2, 3, 4, 5, 6, 7, 8] rfl ?_
    exact t_X8_comes_23 hl0   h
theorem m_X8_comes {g : zF} (hl0 : g.2.2.2.1.stackTraces = false) {Q : zR × zS → Prop} {a0 a1 a2 a3 a4 a5 a6 a7 : Int} {σ : zS} (h : zo (f_X8_comes a0 a1 a2 a3 a4 a5 a6 a7 σ) Q) : zm g Y_X8_comes R_X8_comes [(4, a0), (0, a1), (0, a2), (0, a3), (0, a4), (0, a5), (0, a6), (0, a7)] σ Q := zm_of (by decide) rfl (Nat.le_of_ble_eq_true rfl) (t_X8_comes hl0 h)


/- X8_doProbe -/

set_option maxRecDepth 100000 in
set_option maxHeartbeats 4000000 in
theorem t_X8_doProbe_78 {g : zF} (hl0 : g.2.2.2.1.stackTraces = false) {Q : zR × zS → Prop} (r37 : Int → Int → Int → Int → Int → Int → zS → zFn) (hr37 : ∀ b0 b1 b2 b5 b6 b7 τ, zo (r37 b0 b1 b2 b5 b6 b7 τ) Q → zw g Y_X8_doProbe R_X8_doProbe 37 [(0, (4, b0)), (1, (0, b1)), (2, (0, b2)), (5, (0, b5)), (6, (0, b6)), (7, (0, b7))] [] τ 0 0 Q) {a0 a1 a2 a5 a6 a7 : Int} {σ : zS} (h : zo (f_X8_doProbe_78 r37 a0 a1 a2 a5 a6 a7 σ) Q) : zw g Y_X8_doProbe R_X8_doProbe 78 [(0, (4, a0)), (1, (0, a1)), (2, (0, a2)), (5, (0, a5)), (6, (0, a6)), (7, (0, a7))] [] σ 0 0 Q := by
  unfold f_X8_doProbe_78 at h
  refine r_iinc (L' := [(7, (0, (w32 (a7 + 1)))), (0, (4, a0)), (1, (0, a1)), (2, (0, a2)), (5, (0, a5)), (6, (0, a6))]) 5 dX8_doProbe_78 rfl (by decide) rfl ?_
  refine r_goto 37 dX8_doProbe_81 (by decide) ?_
  refine r_weak (L' := [(0, (4, a0)), (1, (0, a1)), (2, (0, a2)), (5, (0, a5)), (6, (0, a6)), (7, (0, (w32 (a7 + 1))))]) [1, 2, 3, 4, 5, 0] rfl ?_
  exact hr37 _ _ _ _ _ _ _ h

set_option maxRecDepth 100000 in
set_option maxHeartbeats 4000000 in
theorem t_X8_doProbe_75 {g : zF} (hl0 : g.2.2.2.1.stackTraces = false) {Q : zR × zS → Prop} (r37 : Int → Int → Int → Int → Int → Int → zS → zFn) (hr37 : ∀ b0 b1 b2 b5 b6 b7 τ, zo (r37 b0 b1 b2 b5 b6 b7 τ) Q → zw g Y_X8_doProbe R_X8_doProbe 37 [(0, (4, b0)), (1, (0, b1)), (2, (0, b2)), (5, (0, b5)), (6, (0, b6)), (7, (0, b7))] [] τ 0 0 Q) {a0 a1 a2 a5 a7 s0 s1 : Int} {σ : zS} (h : zo (f_X8_doProbe_75 r37 a0 a1 a2 a5 a7 s0 s1 σ) Q) : zw g Y_X8_doProbe R_X8_doProbe 75 [(0, (4, a0)), (1, (0, a1)), (2, (0, a2)), (5, (0, a5)), (7, (0, a7))] [(0, s1), (0, s0)] σ 0 0 Q := by
  unfold f_X8_doProbe_75 at h
  refine r_iadd dX8_doProbe_75 ?_
  refine r_istore (L' := [(6, (0, (w32 (s0 + s1)))), (0, (4, a0)), (1, (0, a1)), (2, (0, a2)), (5, (0, a5)), (7, (0, a7))]) dX8_doProbe_76 (by decide) rfl ?_
  refine r_weak (L' := [(0, (4, a0)), (1, (0, a1)), (2, (0, a2)), (5, (0, a5)), (6, (0, (w32 (s0 + s1)))), (7, (0, a7))]) [1, 2, 3, 4, 0, 5] rfl ?_
  exact t_X8_doProbe_78 hl0 r37 hr37 h

set_option maxRecDepth 100000 in
set_option maxHeartbeats 4000000 in
theorem t_X8_doProbe_37 {g : zF} (hl0 : g.2.2.2.1.stackTraces = false) {Q : zR × zS → Prop}   : ∀ (n : Nat) (a0 a1 a2 a5 a6 a7 : Int) (σ : zS), zo (f_X8_doProbe_37  n a0 a1 a2 a5 a6 a7 σ) Q → zw g Y_X8_doProbe R_X8_doProbe 37 [(0, (4, a0)), (1, (0, a1)), (2, (0, a2)), (5, (0, a5)), (6, (0, a6)), (7, (0, a7))] [] σ 0 0 Q := by
  intro n
  induction n with
  | zero => intro a0 a1 a2 a5 a6 a7 σ h; obtain ⟨r, h, -⟩ := h; cases h
  | succ n ih =>
    intro a0 a1 a2 a5 a6 a7 σ h
    unfold f_X8_doProbe_37 at h
    refine r_iload 5 dX8_doProbe_37 rfl ?_
    refine r_iload 3 dX8_doProbe_39 rfl ?_
    refine r_icmp_ge 84 dX8_doProbe_41 (by decide) h (fun h => ?_) (fun h => ?_)
    · refine r_iload 4 dX8_doProbe_84 rfl ?_
      exact r_iret rfl dX8_doProbe_86 h
    · refine r_aload_n 0 dX8_doProbe_44 rfl ?_
      refine r_iload_n 1 dX8_doProbe_45 rfl ?_
      refine r_iload 5 dX8_doProbe_46 rfl ?_
      refine r_iconst (v := 3) dX8_doProbe_48 rfl rfl ?_
      refine r_callV (K' := Y_X8_ofReport) (R' := R_X8_ofReport) (idx := 95) (n := 3) (b := a0) (as := [(0, a1), (0, a7), (0, 3)]) (rest := []) (C' := 0) (D' := 0) (cn := 8) rfl k0_X8_ofReport kV_X8_ofReport kl_X8_95 ⟨by decide, by decide⟩ dX8_doProbe_49 rfl rfl (Nat.le_of_ble_eq_true rfl) (by decide) (by decide) rfl h (fun r hr => m_X8_ofReport hl0 ⟨r, hr, hr⟩) (fun x1 τ2 _ h => ?_)
      refine r_iload_n 2 dX8_doProbe_52 rfl ?_
      refine r_icmp_ne 78 dX8_doProbe_53 (by decide) h (fun h => ?_) (fun h => ?_)
      · exact t_X8_doProbe_78 hl0 (f_X8_doProbe_37  n) (fun b0 b1 b2 b5 b6 b7 τ h => ih b0 b1 b2 b5 b6 b7 τ h) h
      · refine r_iload 4 dX8_doProbe_56 rfl ?_
        refine r_aload_n 0 dX8_doProbe_58 rfl ?_
        refine r_iload_n 1 dX8_doProbe_59 rfl ?_
        refine r_iload 5 dX8_doProbe_60 rfl ?_
        refine r_iload 3 dX8_doProbe_62 rfl ?_
        refine r_callV (K' := Y_X8_judges) (R' := R_X8_judges) (idx := 154) (n := 3) (b := a0) (as := [(0, a1), (0, a7), (0, a5)]) (rest := [(0, a6)]) (C' := 0) (D' := 0) (cn := 8) rfl k0_X8_judges kV_X8_judges kl_X8_154 ⟨by decide, by decide⟩ dX8_doProbe_64 rfl rfl (Nat.le_of_ble_eq_true rfl) (by decide) (by decide) rfl h (fun r hr => m_X8_judges hl0 ⟨r, hr, hr⟩) (fun x3 τ4 _ h => ?_)
        refine r_if_eq 74 dX8_doProbe_67 (by decide) h (fun h => ?_) (fun h => ?_)
        · refine r_iconst (v := 0) dX8_doProbe_74 rfl rfl ?_
          refine r_weak (L' := [(0, (4, a0)), (1, (0, a1)), (2, (0, a2)), (5, (0, a5)), (7, (0, a7))]) [0, 1, 2, 3, 5] rfl ?_
          exact t_X8_doProbe_75 hl0 (f_X8_doProbe_37  n) (fun b0 b1 b2 b5 b6 b7 τ h => ih b0 b1 b2 b5 b6 b7 τ h) h
        · refine r_iconst (v := 1) dX8_doProbe_70 rfl rfl ?_
          refine r_goto 75 dX8_doProbe_71 (by decide) ?_
          refine r_weak (L' := [(0, (4, a0)), (1, (0, a1)), (2, (0, a2)), (5, (0, a5)), (7, (0, a7))]) [0, 1, 2, 3, 5] rfl ?_
          exact t_X8_doProbe_75 hl0 (f_X8_doProbe_37  n) (fun b0 b1 b2 b5 b6 b7 τ h => ih b0 b1 b2 b5 b6 b7 τ h) h

set_option maxRecDepth 100000 in
set_option maxHeartbeats 4000000 in
theorem t_X8_doProbe {g : zF} (hl0 : g.2.2.2.1.stackTraces = false) {Q : zR × zS → Prop}   {a0 a1 a2 a3 a4 : Int} {σ : zS} (h : zo (f_X8_doProbe  a0 a1 a2 a3 a4 σ) Q) : zw g Y_X8_doProbe R_X8_doProbe 0 [(0, (4, a0)), (1, (0, a1)), (2, (0, a2)), (3, (0, a3)), (4, (0, a4))] [] σ 0 0 Q := by
  unfold f_X8_doProbe at h
  refine r_aload_n 0 dX8_doProbe_0 rfl ?_
  refine r_iload_n 1 dX8_doProbe_1 rfl ?_
  refine r_iload_n 1 dX8_doProbe_2 rfl ?_
  refine r_iload_n 1 dX8_doProbe_3 rfl ?_
  refine r_iconst (v := 0) dX8_doProbe_4 rfl rfl ?_
  refine r_iload_n 2 dX8_doProbe_5 rfl ?_
  refine r_aload_n 0 dX8_doProbe_6 rfl ?_
  refine r_getr fd_X8_24 rfl dX8_doProbe_7 h (fun x1 h => ?_)
  refine r_iconst (v := 2) dX8_doProbe_10 rfl rfl ?_
  refine r_iald dX8_doProbe_11 h (fun x2 h => ?_)
  refine r_sipush (v := 1000) dX8_doProbe_12 rfl rfl ?_
  refine r_iload_n 3 dX8_doProbe_15 rfl ?_
  refine r_imul dX8_doProbe_16 ?_
  refine r_iload 4 dX8_doProbe_17 rfl ?_
  refine r_iadd dX8_doProbe_19 ?_
  refine r_callV (K' := Y_X8_comes) (R' := R_X8_comes) (idx := 150) (n := 7) (b := a0) (as := [(0, a1), (0, a1), (0, a1), (0, 0), (0, a2), (0, x2), (0, (w32 ((w32 (1000 * a3)) + a4)))]) (rest := []) (C' := 0) (D' := 0) (cn := 8) rfl k0_X8_comes kV_X8_comes kl_X8_150 ⟨by decide, by decide⟩ dX8_doProbe_20 rfl rfl (Nat.le_of_ble_eq_true rfl) (by decide) (by decide) rfl h (fun r hr => m_X8_comes hl0 ⟨r, hr, hr⟩) (fun x3 τ4 _ h => ?_)
  refine r_istore (L' := [(5, (0, x3)), (0, (4, a0)), (1, (0, a1)), (2, (0, a2)), (3, (0, a3)), (4, (0, a4))]) dX8_doProbe_23 (by decide) rfl ?_
  refine r_aload_n 1 dX8_doProbe_25 rfl ?_
  refine r_iload_n 2 dX8_doProbe_26 rfl ?_
  refine r_iconst (v := 0) dX8_doProbe_27 rfl rfl ?_
  refine r_callV (K' := Y_X8_count) (R' := R_X8_count) (idx := 143) (n := 2) (b := a0) (as := [(0, a1), (0, 0)]) (rest := []) (C' := 0) (D' := 0) (cn := 8) rfl k0_X8_count kV_X8_count kl_X8_143 ⟨by decide, by decide⟩ dX8_doProbe_28 rfl rfl (Nat.le_of_ble_eq_true rfl) (by decide) (by decide) rfl h (fun r hr => m_X8_count hl0 ⟨r, hr, hr⟩) (fun _ τ6 _ h => ?_)
  refine r_iconst (v := 0) dX8_doProbe_31 rfl rfl ?_
  refine r_istore (L' := [(6, (0, 0)), (5, (0, x3)), (0, (4, a0)), (1, (0, a1)), (2, (0, a2)), (3, (0, a3)), (4, (0, a4))]) dX8_doProbe_32 (by decide) rfl ?_
  refine r_iconst (v := 0) dX8_doProbe_34 rfl rfl ?_
  refine r_istore (L' := [(7, (0, 0)), (6, (0, 0)), (5, (0, x3)), (0, (4, a0)), (1, (0, a1)), (2, (0, a2)), (3, (0, a3)), (4, (0, a4))]) dX8_doProbe_35 (by decide) rfl ?_
  refine r_weak (L' := [(0, (4, a0)), (1, (0, a1)), (2, (0, a2)), (5, (0, x3)), (6, (0, 0)), (7, (0, 0))]) [3, 4, 5, 2, 1, 0] rfl ?_
  exact t_X8_doProbe_37 hl0   zFU _ _ _ _ _ _ _ h
theorem m_X8_doProbe {g : zF} (hl0 : g.2.2.2.1.stackTraces = false) {Q : zR × zS → Prop} {a0 a1 a2 a3 a4 : Int} {σ : zS} (h : zo (f_X8_doProbe a0 a1 a2 a3 a4 σ) Q) : zm g Y_X8_doProbe R_X8_doProbe [(4, a0), (0, a1), (0, a2), (0, a3), (0, a4)] σ Q := zm_of (by decide) rfl (Nat.le_of_ble_eq_true rfl) (t_X8_doProbe hl0 h)


/- X8_queued -/

set_option maxRecDepth 100000 in
set_option maxHeartbeats 4000000 in
theorem t_X8_queued {g : zF} (hl0 : g.2.2.2.1.stackTraces = false) {Q : zR × zS → Prop}   {a0 : Int} {σ : zS} (h : zo (f_X8_queued  a0 σ) Q) : zw g Y_X8_queued R_X8_queued 0 [(0, (4, a0))] [] σ 0 0 Q := by
  unfold f_X8_queued at h
  refine r_aload_n 0 dX8_queued_0 rfl ?_
  refine r_getr fd_X8_24 rfl dX8_queued_1 h (fun x1 h => ?_)
  refine r_bipush (v := 8) dX8_queued_4 rfl rfl ?_
  refine r_iald dX8_queued_6 h (fun x2 h => ?_)
  exact r_iret rfl dX8_queued_7 h
theorem m_X8_queued {g : zF} (hl0 : g.2.2.2.1.stackTraces = false) {Q : zR × zS → Prop} {a0 : Int} {σ : zS} (h : zo (f_X8_queued a0 σ) Q) : zm g Y_X8_queued R_X8_queued [(4, a0)] σ Q := zm_of (by decide) rfl (Nat.le_of_ble_eq_true rfl) (t_X8_queued hl0 h)


/- X8_messageAt -/

set_option maxRecDepth 100000 in
set_option maxHeartbeats 4000000 in
theorem t_X8_messageAt {g : zF} (hl0 : g.2.2.2.1.stackTraces = false) {Q : zR × zS → Prop}   {a0 : Int} {σ : zS} (h : zo (f_X8_messageAt  a0 σ) Q) : zw g Y_X8_messageAt R_X8_messageAt 0 [(0, (0, a0))] [] σ 0 0 Q := by
  unfold f_X8_messageAt at h
  refine r_sipush (v := 1605) dX8_messageAt_0 rfl rfl ?_
  refine r_bipush (v := 8) dX8_messageAt_3 rfl rfl ?_
  refine r_iload_n 0 dX8_messageAt_5 rfl ?_
  refine r_imul dX8_messageAt_6 ?_
  refine r_iadd dX8_messageAt_7 ?_
  exact r_iret rfl dX8_messageAt_8 h
theorem m_X8_messageAt {g : zF} (hl0 : g.2.2.2.1.stackTraces = false) {Q : zR × zS → Prop} {a0 : Int} {σ : zS} (h : zo (f_X8_messageAt a0 σ) Q) : zm g Y_X8_messageAt R_X8_messageAt [(0, a0)] σ Q := zm_of (by decide) rfl (Nat.le_of_ble_eq_true rfl) (t_X8_messageAt hl0 h)


/- X8_ofMessage -/

set_option maxRecDepth 100000 in
set_option maxHeartbeats 4000000 in
theorem t_X8_ofMessage {g : zF} (hl0 : g.2.2.2.1.stackTraces = false) {Q : zR × zS → Prop}   {a0 a1 a2 : Int} {σ : zS} (h : zo (f_X8_ofMessage  a0 a1 a2 σ) Q) : zw g Y_X8_ofMessage R_X8_ofMessage 0 [(0, (4, a0)), (1, (0, a1)), (2, (0, a2))] [] σ 0 0 Q := by
  unfold f_X8_ofMessage at h
  refine r_aload_n 0 dX8_ofMessage_0 rfl ?_
  refine r_getr fd_X8_24 rfl dX8_ofMessage_1 h (fun x1 h => ?_)
  refine r_iload_n 1 dX8_ofMessage_4 rfl ?_
  refine r_callS (K' := Y_X8_messageAt) (R' := R_X8_messageAt) (idx := 157) (n := 1) (as := [(0, a1)]) (rest := [(4, x1)]) (C' := 0) (D' := 0) rfl k0_X8_messageAt wd_1975 kl_X8_157 ⟨by decide, by decide⟩ dX8_ofMessage_5 rfl rfl (Nat.le_of_ble_eq_true rfl) (by decide) (by decide) h (fun r hr => m_X8_messageAt hl0 ⟨r, hr, hr⟩) (fun x2 τ3 _ h => ?_)
  refine r_iload_n 2 dX8_ofMessage_8 rfl ?_
  refine r_iadd dX8_ofMessage_9 ?_
  refine r_iald dX8_ofMessage_10 h (fun x4 h => ?_)
  exact r_iret rfl dX8_ofMessage_11 h
theorem m_X8_ofMessage {g : zF} (hl0 : g.2.2.2.1.stackTraces = false) {Q : zR × zS → Prop} {a0 a1 a2 : Int} {σ : zS} (h : zo (f_X8_ofMessage a0 a1 a2 σ) Q) : zm g Y_X8_ofMessage R_X8_ofMessage [(4, a0), (0, a1), (0, a2)] σ Q := zm_of (by decide) rfl (Nat.le_of_ble_eq_true rfl) (t_X8_ofMessage hl0 h)


/- X8_isMessage -/

set_option maxRecDepth 100000 in
set_option maxHeartbeats 4000000 in
theorem t_X8_isMessage {g : zF} (hl0 : g.2.2.2.1.stackTraces = false) {Q : zR × zS → Prop}   {a0 a1 : Int} {σ : zS} (h : zo (f_X8_isMessage  a0 a1 σ) Q) : zw g Y_X8_isMessage R_X8_isMessage 0 [(0, (4, a0)), (1, (0, a1))] [] σ 0 0 Q := by
  unfold f_X8_isMessage at h
  refine r_iload_n 1 dX8_isMessage_0 rfl ?_
  refine r_i2l dX8_isMessage_1 ?_
  refine r_lconst dX8_isMessage_2 ?_
  refine r_aload_n 0 dX8_isMessage_3 rfl ?_
  refine r_callV (K' := Y_X8_queued) (R' := R_X8_queued) (idx := 160) (n := 0) (b := a0) (as := []) (rest := [(1, 0), (1, a1)]) (C' := 0) (D' := 0) (cn := 8) rfl k0_X8_queued kV_X8_queued kl_X8_160 ⟨by decide, by decide⟩ dX8_isMessage_4 rfl rfl (Nat.le_of_ble_eq_true rfl) (by decide) (by decide) rfl h (fun r hr => m_X8_queued hl0 ⟨r, hr, hr⟩) (fun x1 τ2 _ h => ?_)
  refine r_iconst (v := 1) dX8_isMessage_7 rfl rfl ?_
  refine r_isub dX8_isMessage_8 ?_
  refine r_i2l dX8_isMessage_9 ?_
  refine r_callS (K' := Y_X8_in) (R' := R_X8_in) (idx := 70) (n := 3) (as := [(1, a1), (1, 0), (1, (w32 (x1 - 1)))]) (rest := []) (C' := 0) (D' := 0) rfl k0_X8_in wd_1562 kl_X8_70 ⟨by decide, by decide⟩ dX8_isMessage_10 rfl rfl (Nat.le_of_ble_eq_true rfl) (by decide) (by decide) h (fun r hr => m_X8_in hl0 ⟨r, hr, hr⟩) (fun x3 τ4 _ h => ?_)
  exact r_zret rfl dX8_isMessage_13 h
theorem m_X8_isMessage {g : zF} (hl0 : g.2.2.2.1.stackTraces = false) {Q : zR × zS → Prop} {a0 a1 : Int} {σ : zS} (h : zo (f_X8_isMessage a0 a1 σ) Q) : zm g Y_X8_isMessage R_X8_isMessage [(4, a0), (0, a1)] σ Q := zm_of (by decide) rfl (Nat.le_of_ble_eq_true rfl) (t_X8_isMessage hl0 h)


/- X8_sends -/

set_option maxRecDepth 100000 in
set_option maxHeartbeats 4000000 in
theorem t_X8_sends_54 {g : zF} (hl0 : g.2.2.2.1.stackTraces = false) {Q : zR × zS → Prop}   {a0 a1 a3 a4 : Int} {σ : zS} (h : zo (f_X8_sends_54  a0 a1 a3 a4 σ) Q) : zw g Y_X8_sends R_X8_sends 54 [(0, (4, a0)), (1, (0, a1)), (3, (0, a3)), (4, (0, a4))] [] σ 0 0 Q := by
  unfold f_X8_sends_54 at h
  refine r_aload_n 0 dX8_sends_54 rfl ?_
  refine r_getr fd_X8_24 rfl dX8_sends_55 h (fun x1 h => ?_)
  refine r_iload 3 dX8_sends_58 rfl ?_
  refine r_iconst (v := 1) dX8_sends_60 rfl rfl ?_
  refine r_iadd dX8_sends_61 ?_
  refine r_iload_n 1 dX8_sends_62 rfl ?_
  refine r_iast dX8_sends_63 h (fun τ2 h => ?_)
  refine r_aload_n 0 dX8_sends_64 rfl ?_
  refine r_getr fd_X8_24 rfl dX8_sends_65 h (fun x3 h => ?_)
  refine r_iload 3 dX8_sends_68 rfl ?_
  refine r_iconst (v := 2) dX8_sends_70 rfl rfl ?_
  refine r_iadd dX8_sends_71 ?_
  refine r_dup2 dX8_sends_72 rfl rfl ?_
  refine r_iald dX8_sends_73 h (fun x4 h => ?_)
  refine r_iconst (v := 1) dX8_sends_74 rfl rfl ?_
  refine r_iadd dX8_sends_75 ?_
  refine r_iast dX8_sends_76 h (fun τ5 h => ?_)
  refine r_aload_n 0 dX8_sends_77 rfl ?_
  refine r_getr fd_X8_24 rfl dX8_sends_78 h (fun x6 h => ?_)
  refine r_iload 3 dX8_sends_81 rfl ?_
  refine r_bipush (v := 7) dX8_sends_83 rfl rfl ?_
  refine r_iadd dX8_sends_85 ?_
  refine r_iload_n 2 dX8_sends_86 rfl ?_
  refine r_iast dX8_sends_87 h (fun τ7 h => ?_)
  refine r_aload_n 0 dX8_sends_88 rfl ?_
  refine r_getr fd_X8_24 rfl dX8_sends_89 h (fun x8 h => ?_)
  refine r_bipush (v := 8) dX8_sends_92 rfl rfl ?_
  refine r_dup2 dX8_sends_94 rfl rfl ?_
  refine r_iald dX8_sends_95 h (fun x9 h => ?_)
  refine r_iconst (v := 1) dX8_sends_96 rfl rfl ?_
  refine r_iadd dX8_sends_97 ?_
  refine r_iast dX8_sends_98 h (fun τ10 h => ?_)
  refine r_iconst (v := 1) dX8_sends_99 rfl rfl ?_
  exact r_zretc (by decide) rfl dX8_sends_100 h

set_option maxRecDepth 100000 in
set_option maxHeartbeats 4000000 in
theorem t_X8_sends_23 {g : zF} (hl0 : g.2.2.2.1.stackTraces = false) {Q : zR × zS → Prop}   : ∀ (n : Nat) (a0 a1 a2 a3 a4 a5 : Int) (σ : zS), zo (f_X8_sends_23  n a0 a1 a2 a3 a4 a5 σ) Q → zw g Y_X8_sends R_X8_sends 23 [(0, (4, a0)), (1, (0, a1)), (2, (0, a2)), (3, (0, a3)), (4, (0, a4)), (5, (0, a5))] [] σ 0 0 Q := by
  intro n
  induction n with
  | zero => intro a0 a1 a2 a3 a4 a5 σ h; obtain ⟨r, h, -⟩ := h; cases h
  | succ n ih =>
    intro a0 a1 a2 a3 a4 a5 σ h
    unfold f_X8_sends_23 at h
    refine r_iload 5 dX8_sends_23 rfl ?_
    refine r_bipush (v := 7) dX8_sends_25 rfl rfl ?_
    refine r_icmp_ge 54 dX8_sends_27 (by decide) h (fun h => ?_) (fun h => ?_)
    · refine r_weak (L' := [(0, (4, a0)), (1, (0, a1)), (3, (0, a3)), (4, (0, a4))]) [0, 1, 3, 4] rfl ?_
      exact t_X8_sends_54 hl0   h
    · refine r_aload_n 0 dX8_sends_30 rfl ?_
      refine r_getr fd_X8_24 rfl dX8_sends_31 h (fun x1 h => ?_)
      refine r_iload 4 dX8_sends_34 rfl ?_
      refine r_iload 5 dX8_sends_36 rfl ?_
      refine r_iadd dX8_sends_38 ?_
      refine r_aload_n 0 dX8_sends_39 rfl ?_
      refine r_iload_n 1 dX8_sends_40 rfl ?_
      refine r_iload_n 2 dX8_sends_41 rfl ?_
      refine r_iload 5 dX8_sends_42 rfl ?_
      refine r_callV (K' := Y_X8_ofReport) (R' := R_X8_ofReport) (idx := 95) (n := 3) (b := a0) (as := [(0, a1), (0, a2), (0, a5)]) (rest := [(0, (w32 (a4 + a5))), (4, x1)]) (C' := 0) (D' := 0) (cn := 8) rfl k0_X8_ofReport kV_X8_ofReport kl_X8_95 ⟨by decide, by decide⟩ dX8_sends_44 rfl rfl (Nat.le_of_ble_eq_true rfl) (by decide) (by decide) rfl h (fun r hr => m_X8_ofReport hl0 ⟨r, hr, hr⟩) (fun x2 τ3 _ h => ?_)
      refine r_iast dX8_sends_47 h (fun τ4 h => ?_)
      refine r_iinc (L' := [(5, (0, (w32 (a5 + 1)))), (0, (4, a0)), (1, (0, a1)), (2, (0, a2)), (3, (0, a3)), (4, (0, a4))]) 5 dX8_sends_48 rfl (by decide) rfl ?_
      refine r_goto 23 dX8_sends_51 (by decide) ?_
      refine r_weak (L' := [(0, (4, a0)), (1, (0, a1)), (2, (0, a2)), (3, (0, a3)), (4, (0, a4)), (5, (0, (w32 (a5 + 1))))]) [1, 2, 3, 4, 5, 0] rfl ?_
      exact ih _ _ _ _ _ _ _ h

set_option maxRecDepth 100000 in
set_option maxHeartbeats 4000000 in
theorem t_X8_sends {g : zF} (hl0 : g.2.2.2.1.stackTraces = false) {Q : zR × zS → Prop}   {a0 a1 a2 a3 : Int} {σ : zS} (h : zo (f_X8_sends  a0 a1 a2 a3 σ) Q) : zw g Y_X8_sends R_X8_sends 0 [(0, (4, a0)), (1, (0, a1)), (2, (0, a2)), (3, (0, a3))] [] σ 0 0 Q := by
  unfold f_X8_sends at h
  refine r_aload_n 0 dX8_sends_0 rfl ?_
  refine r_callV (K' := Y_X8_queued) (R' := R_X8_queued) (idx := 160) (n := 0) (b := a0) (as := []) (rest := []) (C' := 0) (D' := 0) (cn := 8) rfl k0_X8_queued kV_X8_queued kl_X8_160 ⟨by decide, by decide⟩ dX8_sends_1 rfl rfl (Nat.le_of_ble_eq_true rfl) (by decide) (by decide) rfl h (fun r hr => m_X8_queued hl0 ⟨r, hr, hr⟩) (fun x1 τ2 _ h => ?_)
  refine r_bipush (v := 100) dX8_sends_4 rfl rfl ?_
  refine r_icmp_ne 11 dX8_sends_6 (by decide) h (fun h => ?_) (fun h => ?_)
  · refine r_aload_n 0 dX8_sends_11 rfl ?_
    refine r_callV (K' := Y_X8_queued) (R' := R_X8_queued) (idx := 160) (n := 0) (b := a0) (as := []) (rest := []) (C' := 0) (D' := 0) (cn := 8) rfl k0_X8_queued kV_X8_queued kl_X8_160 ⟨by decide, by decide⟩ dX8_sends_12 rfl rfl (Nat.le_of_ble_eq_true rfl) (by decide) (by decide) rfl h (fun r hr => m_X8_queued hl0 ⟨r, hr, hr⟩) (fun x3 τ4 _ h => ?_)
    refine r_callS (K' := Y_X8_messageAt) (R' := R_X8_messageAt) (idx := 157) (n := 1) (as := [(0, x3)]) (rest := []) (C' := 0) (D' := 0) rfl k0_X8_messageAt wd_1975 kl_X8_157 ⟨by decide, by decide⟩ dX8_sends_15 rfl rfl (Nat.le_of_ble_eq_true rfl) (by decide) (by decide) h (fun r hr => m_X8_messageAt hl0 ⟨r, hr, hr⟩) (fun x5 τ6 _ h => ?_)
    refine r_istore (L' := [(4, (0, x5)), (0, (4, a0)), (1, (0, a1)), (2, (0, a2)), (3, (0, a3))]) dX8_sends_18 (by decide) rfl ?_
    refine r_iconst (v := 0) dX8_sends_20 rfl rfl ?_
    refine r_istore (L' := [(5, (0, 0)), (4, (0, x5)), (0, (4, a0)), (1, (0, a1)), (2, (0, a2)), (3, (0, a3))]) dX8_sends_21 (by decide) rfl ?_
    refine r_weak (L' := [(0, (4, a0)), (1, (0, a1)), (2, (0, a2)), (3, (0, a3)), (4, (0, x5)), (5, (0, 0))]) [2, 3, 4, 5, 1, 0] rfl ?_
    exact t_X8_sends_23 hl0   zFU _ _ _ _ _ _ _ h
  · refine r_iconst (v := 0) dX8_sends_9 rfl rfl ?_
    exact r_zretc (by decide) rfl dX8_sends_10 h
theorem m_X8_sends {g : zF} (hl0 : g.2.2.2.1.stackTraces = false) {Q : zR × zS → Prop} {a0 a1 a2 a3 : Int} {σ : zS} (h : zo (f_X8_sends a0 a1 a2 a3 σ) Q) : zm g Y_X8_sends R_X8_sends [(4, a0), (0, a1), (0, a2), (0, a3)] σ Q := zm_of (by decide) rfl (Nat.le_of_ble_eq_true rfl) (t_X8_sends hl0 h)


/- X8_dropFirst -/

set_option maxRecDepth 100000 in
set_option maxHeartbeats 4000000 in
theorem t_X8_dropFirst_16 {g : zF} (hl0 : g.2.2.2.1.stackTraces = false) {Q : zR × zS → Prop}   : ∀ (n : Nat) (a0 a1 : Int) (σ : zS), zo (f_X8_dropFirst_16  n a0 a1 σ) Q → zw g Y_X8_dropFirst R_X8_dropFirst 16 [(0, (4, a0)), (1, (0, a1))] [] σ 0 0 Q := by
  intro n
  induction n with
  | zero => intro a0 a1 σ h; obtain ⟨r, h, -⟩ := h; cases h
  | succ n ih =>
    intro a0 a1 σ h
    unfold f_X8_dropFirst_16 at h
    refine r_iload_n 1 dX8_dropFirst_16 rfl ?_
    refine r_aload_n 0 dX8_dropFirst_17 rfl ?_
    refine r_callV (K' := Y_X8_queued) (R' := R_X8_queued) (idx := 160) (n := 0) (b := a0) (as := []) (rest := [(0, a1)]) (C' := 0) (D' := 0) (cn := 8) rfl k0_X8_queued kV_X8_queued kl_X8_160 ⟨by decide, by decide⟩ dX8_dropFirst_18 rfl rfl (Nat.le_of_ble_eq_true rfl) (by decide) (by decide) rfl h (fun r hr => m_X8_queued hl0 ⟨r, hr, hr⟩) (fun x1 τ2 _ h => ?_)
    refine r_callS (K' := Y_X8_messageAt) (R' := R_X8_messageAt) (idx := 157) (n := 1) (as := [(0, x1)]) (rest := [(0, a1)]) (C' := 0) (D' := 0) rfl k0_X8_messageAt wd_1975 kl_X8_157 ⟨by decide, by decide⟩ dX8_dropFirst_21 rfl rfl (Nat.le_of_ble_eq_true rfl) (by decide) (by decide) h (fun r hr => m_X8_messageAt hl0 ⟨r, hr, hr⟩) (fun x3 τ4 _ h => ?_)
    refine r_icmp_ge 48 dX8_dropFirst_24 (by decide) h (fun h => ?_) (fun h => ?_)
    · exact r_vret rfl dX8_dropFirst_48 h
    · refine r_aload_n 0 dX8_dropFirst_27 rfl ?_
      refine r_getr fd_X8_24 rfl dX8_dropFirst_28 h (fun x5 h => ?_)
      refine r_iload_n 1 dX8_dropFirst_31 rfl ?_
      refine r_aload_n 0 dX8_dropFirst_32 rfl ?_
      refine r_getr fd_X8_24 rfl dX8_dropFirst_33 h (fun x6 h => ?_)
      refine r_iload_n 1 dX8_dropFirst_36 rfl ?_
      refine r_bipush (v := 8) dX8_dropFirst_37 rfl rfl ?_
      refine r_iadd dX8_dropFirst_39 ?_
      refine r_iald dX8_dropFirst_40 h (fun x7 h => ?_)
      refine r_iast dX8_dropFirst_41 h (fun τ8 h => ?_)
      refine r_iinc (L' := [(1, (0, (w32 (a1 + 1)))), (0, (4, a0))]) 1 dX8_dropFirst_42 rfl (by decide) rfl ?_
      refine r_goto 16 dX8_dropFirst_45 (by decide) ?_
      refine r_weak (L' := [(0, (4, a0)), (1, (0, (w32 (a1 + 1))))]) [1, 0] rfl ?_
      exact ih _ _ _ h

set_option maxRecDepth 100000 in
set_option maxHeartbeats 4000000 in
theorem t_X8_dropFirst {g : zF} (hl0 : g.2.2.2.1.stackTraces = false) {Q : zR × zS → Prop}   {a0 : Int} {σ : zS} (h : zo (f_X8_dropFirst  a0 σ) Q) : zw g Y_X8_dropFirst R_X8_dropFirst 0 [(0, (4, a0))] [] σ 0 0 Q := by
  unfold f_X8_dropFirst at h
  refine r_aload_n 0 dX8_dropFirst_0 rfl ?_
  refine r_getr fd_X8_24 rfl dX8_dropFirst_1 h (fun x1 h => ?_)
  refine r_bipush (v := 8) dX8_dropFirst_4 rfl rfl ?_
  refine r_dup2 dX8_dropFirst_6 rfl rfl ?_
  refine r_iald dX8_dropFirst_7 h (fun x2 h => ?_)
  refine r_iconst (v := 1) dX8_dropFirst_8 rfl rfl ?_
  refine r_isub dX8_dropFirst_9 ?_
  refine r_iast dX8_dropFirst_10 h (fun τ3 h => ?_)
  refine r_iconst (v := 0) dX8_dropFirst_11 rfl rfl ?_
  refine r_callS (K' := Y_X8_messageAt) (R' := R_X8_messageAt) (idx := 157) (n := 1) (as := [(0, 0)]) (rest := []) (C' := 0) (D' := 0) rfl k0_X8_messageAt wd_1975 kl_X8_157 ⟨by decide, by decide⟩ dX8_dropFirst_12 rfl rfl (Nat.le_of_ble_eq_true rfl) (by decide) (by decide) h (fun r hr => m_X8_messageAt hl0 ⟨r, hr, hr⟩) (fun x4 τ5 _ h => ?_)
  refine r_istore_n (L' := [(1, (0, x4)), (0, (4, a0))]) dX8_dropFirst_15 (by decide) rfl ?_
  refine r_weak (L' := [(0, (4, a0)), (1, (0, x4))]) [1, 0] rfl ?_
  exact t_X8_dropFirst_16 hl0   zFU _ _ _ h
theorem m_X8_dropFirst {g : zF} (hl0 : g.2.2.2.1.stackTraces = false) {Q : zR × zS → Prop} {a0 : Int} {σ : zS} (h : zo (f_X8_dropFirst a0 σ) Q) : zm g Y_X8_dropFirst R_X8_dropFirst [(4, a0)] σ Q := zm_of (by decide) rfl (Nat.le_of_ble_eq_true rfl) (t_X8_dropFirst hl0 h)


/- X8_refusalOf -/

set_option maxRecDepth 100000 in
set_option maxHeartbeats 4000000 in
theorem t_X8_refusalOf {g : zF} (hl0 : g.2.2.2.1.stackTraces = false) {Q : zR × zS → Prop}   {a0 a1 : Int} {σ : zS} (h : zo (f_X8_refusalOf  a0 a1 σ) Q) : zw g Y_X8_refusalOf R_X8_refusalOf 0 [(0, (4, a0)), (1, (0, a1))] [] σ 0 0 Q := by
  unfold f_X8_refusalOf at h
  refine r_aload_n 0 dX8_refusalOf_0 rfl ?_
  refine r_iload_n 1 dX8_refusalOf_1 rfl ?_
  refine r_bipush (v := 7) dX8_refusalOf_2 rfl rfl ?_
  refine r_callV (K' := Y_X8_ofMessage) (R' := R_X8_ofMessage) (idx := 163) (n := 2) (b := a0) (as := [(0, a1), (0, 7)]) (rest := []) (C' := 0) (D' := 0) (cn := 8) rfl k0_X8_ofMessage kV_X8_ofMessage kl_X8_163 ⟨by decide, by decide⟩ dX8_refusalOf_4 rfl rfl (Nat.le_of_ble_eq_true rfl) (by decide) (by decide) rfl h (fun r hr => m_X8_ofMessage hl0 ⟨r, hr, hr⟩) (fun x1 τ2 _ h => ?_)
  refine r_istore_n (L' := [(2, (0, x1)), (0, (4, a0)), (1, (0, a1))]) dX8_refusalOf_7 (by decide) rfl ?_
  refine r_aload_n 1 dX8_refusalOf_8 rfl ?_
  refine r_aload_n 1 dX8_refusalOf_9 rfl ?_
  refine r_iload_n 2 dX8_refusalOf_10 rfl ?_
  refine r_iconst (v := 1) dX8_refusalOf_11 rfl rfl ?_
  refine r_callV (K' := Y_X8_ofMessage) (R' := R_X8_ofMessage) (idx := 163) (n := 2) (b := a0) (as := [(0, a1), (0, 1)]) (rest := [(4, a0)]) (C' := 0) (D' := 0) (cn := 8) rfl k0_X8_ofMessage kV_X8_ofMessage kl_X8_163 ⟨by decide, by decide⟩ dX8_refusalOf_12 rfl rfl (Nat.le_of_ble_eq_true rfl) (by decide) (by decide) rfl h (fun r hr => m_X8_ofMessage hl0 ⟨r, hr, hr⟩) (fun x3 τ4 _ h => ?_)
  refine r_iload_n 0 dX8_refusalOf_15 rfl ?_
  refine r_callV (K' := Y_X8_areLinked) (R' := R_X8_areLinked) (idx := 131) (n := 2) (b := a0) (as := [(0, x3), (0, x1)]) (rest := []) (C' := 0) (D' := 0) (cn := 8) rfl k0_X8_areLinked kV_X8_areLinked kl_X8_131 ⟨by decide, by decide⟩ dX8_refusalOf_16 rfl rfl (Nat.le_of_ble_eq_true rfl) (by decide) (by decide) rfl h (fun r hr => m_X8_areLinked hl0 ⟨r, hr, hr⟩) (fun x5 τ6 _ h => ?_)
  refine r_if_ne 24 dX8_refusalOf_19 (by decide) h (fun h => ?_) (fun h => ?_)
  · refine r_aload_n 1 dX8_refusalOf_24 rfl ?_
    refine r_aload_n 1 dX8_refusalOf_25 rfl ?_
    refine r_iload_n 2 dX8_refusalOf_26 rfl ?_
    refine r_iconst (v := 4) dX8_refusalOf_27 rfl rfl ?_
    refine r_callV (K' := Y_X8_ofMessage) (R' := R_X8_ofMessage) (idx := 163) (n := 2) (b := a0) (as := [(0, a1), (0, 4)]) (rest := [(4, a0)]) (C' := 0) (D' := 0) (cn := 8) rfl k0_X8_ofMessage kV_X8_ofMessage kl_X8_163 ⟨by decide, by decide⟩ dX8_refusalOf_28 rfl rfl (Nat.le_of_ble_eq_true rfl) (by decide) (by decide) rfl h (fun r hr => m_X8_ofMessage hl0 ⟨r, hr, hr⟩) (fun x7 τ8 _ h => ?_)
    refine r_callV (K' := Y_X8_ageAt) (R' := R_X8_ageAt) (idx := 113) (n := 1) (b := a0) (as := [(0, x7)]) (rest := []) (C' := 0) (D' := 0) (cn := 8) rfl k0_X8_ageAt kV_X8_ageAt kl_X8_113 ⟨by decide, by decide⟩ dX8_refusalOf_31 rfl rfl (Nat.le_of_ble_eq_true rfl) (by decide) (by decide) rfl h (fun r hr => m_X8_ageAt hl0 ⟨r, hr, hr⟩) (fun x9 τ10 _ h => ?_)
    refine r_aload_n 1 dX8_refusalOf_34 rfl ?_
    refine r_iconst (v := 3) dX8_refusalOf_35 rfl rfl ?_
    refine r_callV (K' := Y_X8_rule) (R' := R_X8_rule) (idx := 110) (n := 1) (b := a0) (as := [(0, 3)]) (rest := [(0, x9)]) (C' := 0) (D' := 0) (cn := 8) rfl k0_X8_rule kV_X8_rule kl_X8_110 ⟨by decide, by decide⟩ dX8_refusalOf_36 rfl rfl (Nat.le_of_ble_eq_true rfl) (by decide) (by decide) rfl h (fun r hr => m_X8_rule hl0 ⟨r, hr, hr⟩) (fun x11 τ12 _ h => ?_)
    refine r_icmp_le 44 dX8_refusalOf_39 (by decide) h (fun h => ?_) (fun h => ?_)
    · refine r_aload_n 1 dX8_refusalOf_44 rfl ?_
      refine r_iload_n 0 dX8_refusalOf_45 rfl ?_
      refine r_aload_n 1 dX8_refusalOf_46 rfl ?_
      refine r_iload_n 2 dX8_refusalOf_47 rfl ?_
      refine r_iconst (v := 0) dX8_refusalOf_48 rfl rfl ?_
      refine r_callV (K' := Y_X8_ofMessage) (R' := R_X8_ofMessage) (idx := 163) (n := 2) (b := a0) (as := [(0, a1), (0, 0)]) (rest := [(0, x1), (4, a0)]) (C' := 0) (D' := 0) (cn := 8) rfl k0_X8_ofMessage kV_X8_ofMessage kl_X8_163 ⟨by decide, by decide⟩ dX8_refusalOf_49 rfl rfl (Nat.le_of_ble_eq_true rfl) (by decide) (by decide) rfl h (fun r hr => m_X8_ofMessage hl0 ⟨r, hr, hr⟩) (fun x13 τ14 _ h => ?_)
      refine r_aload_n 1 dX8_refusalOf_52 rfl ?_
      refine r_iload_n 2 dX8_refusalOf_53 rfl ?_
      refine r_iconst (v := 3) dX8_refusalOf_54 rfl rfl ?_
      refine r_callV (K' := Y_X8_ofMessage) (R' := R_X8_ofMessage) (idx := 163) (n := 2) (b := a0) (as := [(0, a1), (0, 3)]) (rest := [(0, x13), (0, x1), (4, a0)]) (C' := 0) (D' := 0) (cn := 8) rfl k0_X8_ofMessage kV_X8_ofMessage kl_X8_163 ⟨by decide, by decide⟩ dX8_refusalOf_55 rfl rfl (Nat.le_of_ble_eq_true rfl) (by decide) (by decide) rfl h (fun r hr => m_X8_ofMessage hl0 ⟨r, hr, hr⟩) (fun x15 τ16 _ h => ?_)
      refine r_callV (K' := Y_X8_reportOf) (R' := R_X8_reportOf) (idx := 99) (n := 3) (b := a0) (as := [(0, x1), (0, x13), (0, x15)]) (rest := []) (C' := 0) (D' := 0) (cn := 8) rfl k0_X8_reportOf kV_X8_reportOf kl_X8_99 ⟨by decide, by decide⟩ dX8_refusalOf_58 rfl rfl (Nat.le_of_ble_eq_true rfl) (by decide) (by decide) rfl h (fun r hr => m_X8_reportOf hl0 ⟨r, hr, hr⟩) (fun x17 τ18 _ h => ?_)
      refine r_istore_n (L' := [(3, (0, x17)), (2, (0, x1)), (0, (4, a0)), (1, (0, a1))]) dX8_refusalOf_61 (by decide) rfl ?_
      refine r_iload_n 0 dX8_refusalOf_62 rfl ?_
      refine r_iconst (v := (-1)) dX8_refusalOf_63 rfl rfl ?_
      refine r_icmp_ne 69 dX8_refusalOf_64 (by decide) h (fun h => ?_) (fun h => ?_)
      · refine r_aload_n 2 dX8_refusalOf_69 rfl ?_
        refine r_iload_n 1 dX8_refusalOf_70 rfl ?_
        refine r_iload_n 0 dX8_refusalOf_71 rfl ?_
        refine r_iconst (v := 4) dX8_refusalOf_72 rfl rfl ?_
        refine r_callV (K' := Y_X8_ofReport) (R' := R_X8_ofReport) (idx := 95) (n := 3) (b := a0) (as := [(0, x1), (0, x17), (0, 4)]) (rest := []) (C' := 0) (D' := 0) (cn := 8) rfl k0_X8_ofReport kV_X8_ofReport kl_X8_95 ⟨by decide, by decide⟩ dX8_refusalOf_73 rfl rfl (Nat.le_of_ble_eq_true rfl) (by decide) (by decide) rfl h (fun r hr => m_X8_ofReport hl0 ⟨r, hr, hr⟩) (fun x19 τ20 _ h => ?_)
        refine r_istore (L' := [(4, (0, x19)), (3, (0, x17)), (2, (0, x1)), (0, (4, a0)), (1, (0, a1))]) dX8_refusalOf_76 (by decide) rfl ?_
        refine r_iload 0 dX8_refusalOf_78 rfl ?_
        refine r_aload_n 3 dX8_refusalOf_80 rfl ?_
        refine r_iload_n 4 dX8_refusalOf_81 rfl ?_
        refine r_iconst (v := 4) dX8_refusalOf_82 rfl rfl ?_
        refine r_callV (K' := Y_X8_ofMessage) (R' := R_X8_ofMessage) (idx := 163) (n := 2) (b := a0) (as := [(0, a1), (0, 4)]) (rest := [(0, x19)]) (C' := 0) (D' := 0) (cn := 8) rfl k0_X8_ofMessage kV_X8_ofMessage kl_X8_163 ⟨by decide, by decide⟩ dX8_refusalOf_83 rfl rfl (Nat.le_of_ble_eq_true rfl) (by decide) (by decide) rfl h (fun r hr => m_X8_ofMessage hl0 ⟨r, hr, hr⟩) (fun x21 τ22 _ h => ?_)
        refine r_icmp_gt 116 dX8_refusalOf_86 (by decide) h (fun h => ?_) (fun h => ?_)
        · refine r_iconst (v := 3) dX8_refusalOf_116 rfl rfl ?_
          refine r_goto 121 dX8_refusalOf_117 (by decide) ?_
          exact r_iret rfl dX8_refusalOf_121 h
        · refine r_iload 0 dX8_refusalOf_89 rfl ?_
          refine r_aload_n 3 dX8_refusalOf_91 rfl ?_
          refine r_iload_n 4 dX8_refusalOf_92 rfl ?_
          refine r_iconst (v := 4) dX8_refusalOf_93 rfl rfl ?_
          refine r_callV (K' := Y_X8_ofMessage) (R' := R_X8_ofMessage) (idx := 163) (n := 2) (b := a0) (as := [(0, a1), (0, 4)]) (rest := [(0, x19)]) (C' := 0) (D' := 0) (cn := 8) rfl k0_X8_ofMessage kV_X8_ofMessage kl_X8_163 ⟨by decide, by decide⟩ dX8_refusalOf_94 rfl rfl (Nat.le_of_ble_eq_true rfl) (by decide) (by decide) rfl h (fun r hr => m_X8_ofMessage hl0 ⟨r, hr, hr⟩) (fun x23 τ24 _ h => ?_)
          refine r_icmp_ne 120 dX8_refusalOf_97 (by decide) h (fun h => ?_) (fun h => ?_)
          · refine r_iconst (v := 0) dX8_refusalOf_120 rfl rfl ?_
            exact r_iret rfl dX8_refusalOf_121 h
          · refine r_aload_n 3 dX8_refusalOf_100 rfl ?_
            refine r_iload_n 2 dX8_refusalOf_101 rfl ?_
            refine r_iload_n 1 dX8_refusalOf_102 rfl ?_
            refine r_iconst (v := 2) dX8_refusalOf_103 rfl rfl ?_
            refine r_callV (K' := Y_X8_ofReport) (R' := R_X8_ofReport) (idx := 95) (n := 3) (b := a0) (as := [(0, x1), (0, x17), (0, 2)]) (rest := []) (C' := 0) (D' := 0) (cn := 8) rfl k0_X8_ofReport kV_X8_ofReport kl_X8_95 ⟨by decide, by decide⟩ dX8_refusalOf_104 rfl rfl (Nat.le_of_ble_eq_true rfl) (by decide) (by decide) rfl h (fun r hr => m_X8_ofReport hl0 ⟨r, hr, hr⟩) (fun x25 τ26 _ h => ?_)
            refine r_aload_n 3 dX8_refusalOf_107 rfl ?_
            refine r_iload_n 4 dX8_refusalOf_108 rfl ?_
            refine r_iconst (v := 2) dX8_refusalOf_109 rfl rfl ?_
            refine r_callV (K' := Y_X8_ofMessage) (R' := R_X8_ofMessage) (idx := 163) (n := 2) (b := a0) (as := [(0, a1), (0, 2)]) (rest := [(0, x25)]) (C' := 0) (D' := 0) (cn := 8) rfl k0_X8_ofMessage kV_X8_ofMessage kl_X8_163 ⟨by decide, by decide⟩ dX8_refusalOf_110 rfl rfl (Nat.le_of_ble_eq_true rfl) (by decide) (by decide) rfl h (fun r hr => m_X8_ofMessage hl0 ⟨r, hr, hr⟩) (fun x27 τ28 _ h => ?_)
            refine r_icmp_gt 120 dX8_refusalOf_113 (by decide) h (fun h => ?_) (fun h => ?_)
            · refine r_iconst (v := 0) dX8_refusalOf_120 rfl rfl ?_
              exact r_iret rfl dX8_refusalOf_121 h
            · refine r_iconst (v := 3) dX8_refusalOf_116 rfl rfl ?_
              refine r_goto 121 dX8_refusalOf_117 (by decide) ?_
              exact r_iret rfl dX8_refusalOf_121 h
      · refine r_iconst (v := 0) dX8_refusalOf_67 rfl rfl ?_
        exact r_iret rfl dX8_refusalOf_68 h
    · refine r_iconst (v := 2) dX8_refusalOf_42 rfl rfl ?_
      exact r_iret rfl dX8_refusalOf_43 h
  · refine r_iconst (v := 1) dX8_refusalOf_22 rfl rfl ?_
    exact r_iret rfl dX8_refusalOf_23 h
theorem m_X8_refusalOf {g : zF} (hl0 : g.2.2.2.1.stackTraces = false) {Q : zR × zS → Prop} {a0 a1 : Int} {σ : zS} (h : zo (f_X8_refusalOf a0 a1 σ) Q) : zm g Y_X8_refusalOf R_X8_refusalOf [(4, a0), (0, a1)] σ Q := zm_of (by decide) rfl (Nat.le_of_ble_eq_true rfl) (t_X8_refusalOf hl0 h)


/- X8_delivers -/

set_option maxRecDepth 100000 in
set_option maxHeartbeats 4000000 in
theorem t_X8_delivers_137 {g : zF} (hl0 : g.2.2.2.1.stackTraces = false) {Q : zR × zS → Prop}   {a0 a2 : Int} {σ : zS} (h : zo (f_X8_delivers_137  a0 a2 σ) Q) : zw g Y_X8_delivers R_X8_delivers 137 [(0, (4, a0)), (2, (0, a2))] [] σ 0 0 Q := by
  unfold f_X8_delivers_137 at h
  refine r_aload_n 0 dX8_delivers_137 rfl ?_
  refine r_callV (K' := Y_X8_dropFirst) (R' := R_X8_dropFirst) (idx := 172) (n := 0) (b := a0) (as := []) (rest := []) (C' := 0) (D' := 0) (cn := 8) rfl k0_X8_dropFirst kV_X8_dropFirst kl_X8_172 ⟨by decide, by decide⟩ dX8_delivers_138 rfl rfl (Nat.le_of_ble_eq_true rfl) (by decide) (by decide) rfl h (fun r hr => m_X8_dropFirst hl0 ⟨r, hr, hr⟩) (fun _ τ2 _ h => ?_)
  refine r_iload_n 1 dX8_delivers_141 rfl ?_
  exact r_zret rfl dX8_delivers_142 h

set_option maxRecDepth 100000 in
set_option maxHeartbeats 4000000 in
theorem t_X8_delivers_135 {g : zF} (hl0 : g.2.2.2.1.stackTraces = false) {Q : zR × zS → Prop}   {a0 a2 s0 : Int} {σ : zS} (h : zo (f_X8_delivers_135  a0 a2 s0 σ) Q) : zw g Y_X8_delivers R_X8_delivers 135 [(0, (4, a0)), (2, (0, a2))] [(0, s0)] σ 0 0 Q := by
  unfold f_X8_delivers_135 at h
  refine r_istore (L' := [(6, (0, s0)), (0, (4, a0)), (2, (0, a2))]) dX8_delivers_135 (by decide) rfl ?_
  refine r_weak (L' := [(0, (4, a0)), (2, (0, a2))]) [1, 2] rfl ?_
  exact t_X8_delivers_137 hl0   h

set_option maxRecDepth 100000 in
set_option maxHeartbeats 4000000 in
theorem t_X8_delivers_134 {g : zF} (hl0 : g.2.2.2.1.stackTraces = false) {Q : zR × zS → Prop}   {a0 a2 : Int} {σ : zS} (h : zo (f_X8_delivers_134  a0 a2 σ) Q) : zw g Y_X8_delivers R_X8_delivers 134 [(0, (4, a0)), (2, (0, a2))] [] σ 0 0 Q := by
  unfold f_X8_delivers_134 at h
  refine r_iconst (v := 0) dX8_delivers_134 rfl rfl ?_
  exact t_X8_delivers_135 hl0   h

set_option maxRecDepth 100000 in
set_option maxHeartbeats 4000000 in
theorem t_X8_delivers_33 {g : zF} (hl0 : g.2.2.2.1.stackTraces = false) {Q : zR × zS → Prop}   {a0 a1 a2 s0 s1 s2 : Int} {σ : zS} (h : zo (f_X8_delivers_33  a0 a1 a2 s0 s1 s2 σ) Q) : zw g Y_X8_delivers R_X8_delivers 33 [(0, (4, a0)), (1, (0, a1)), (2, (0, a2))] [(0, s2), (0, s1), (4, s0)] σ 0 0 Q := by
  unfold f_X8_delivers_33 at h
  refine r_callV (K' := Y_X8_count) (R' := R_X8_count) (idx := 143) (n := 2) (b := s0) (as := [(0, s1), (0, s2)]) (rest := []) (C' := 0) (D' := 0) (cn := 8) rfl k0_X8_count kV_X8_count kl_X8_143 ⟨by decide, by decide⟩ dX8_delivers_33 rfl rfl (Nat.le_of_ble_eq_true rfl) (by decide) (by decide) rfl h (fun r hr => m_X8_count hl0 ⟨r, hr, hr⟩) (fun _ τ2 _ h => ?_)
  refine r_iload_n 2 dX8_delivers_36 rfl ?_
  refine r_if_eq 137 dX8_delivers_37 (by decide) h (fun h => ?_) (fun h => ?_)
  · refine r_weak (L' := [(0, (4, a0)), (2, (0, a2))]) [0, 2] rfl ?_
    exact t_X8_delivers_137 hl0   h
  · refine r_aload_n 0 dX8_delivers_40 rfl ?_
    refine r_iconst (v := 0) dX8_delivers_41 rfl rfl ?_
    refine r_iconst (v := 3) dX8_delivers_42 rfl rfl ?_
    refine r_callV (K' := Y_X8_ofMessage) (R' := R_X8_ofMessage) (idx := 163) (n := 2) (b := a0) (as := [(0, 0), (0, 3)]) (rest := []) (C' := 0) (D' := 0) (cn := 8) rfl k0_X8_ofMessage kV_X8_ofMessage kl_X8_163 ⟨by decide, by decide⟩ dX8_delivers_43 rfl rfl (Nat.le_of_ble_eq_true rfl) (by decide) (by decide) rfl h (fun r hr => m_X8_ofMessage hl0 ⟨r, hr, hr⟩) (fun x3 τ4 _ h => ?_)
    refine r_istore_n (L' := [(3, (0, x3)), (0, (4, a0)), (1, (0, a1)), (2, (0, a2))]) dX8_delivers_46 (by decide) rfl ?_
    refine r_aload_n 1 dX8_delivers_47 rfl ?_
    refine r_iload_n 2 dX8_delivers_48 rfl ?_
    refine r_aload_n 1 dX8_delivers_49 rfl ?_
    refine r_iconst (v := 0) dX8_delivers_50 rfl rfl ?_
    refine r_iconst (v := 0) dX8_delivers_51 rfl rfl ?_
    refine r_callV (K' := Y_X8_ofMessage) (R' := R_X8_ofMessage) (idx := 163) (n := 2) (b := a0) (as := [(0, 0), (0, 0)]) (rest := [(0, a1), (4, a0)]) (C' := 0) (D' := 0) (cn := 8) rfl k0_X8_ofMessage kV_X8_ofMessage kl_X8_163 ⟨by decide, by decide⟩ dX8_delivers_52 rfl rfl (Nat.le_of_ble_eq_true rfl) (by decide) (by decide) rfl h (fun r hr => m_X8_ofMessage hl0 ⟨r, hr, hr⟩) (fun x5 τ6 _ h => ?_)
    refine r_aload_n 1 dX8_delivers_55 rfl ?_
    refine r_iconst (v := 0) dX8_delivers_56 rfl rfl ?_
    refine r_iconst (v := 1) dX8_delivers_57 rfl rfl ?_
    refine r_callV (K' := Y_X8_ofMessage) (R' := R_X8_ofMessage) (idx := 163) (n := 2) (b := a0) (as := [(0, 0), (0, 1)]) (rest := [(0, x5), (0, a1), (4, a0)]) (C' := 0) (D' := 0) (cn := 8) rfl k0_X8_ofMessage kV_X8_ofMessage kl_X8_163 ⟨by decide, by decide⟩ dX8_delivers_58 rfl rfl (Nat.le_of_ble_eq_true rfl) (by decide) (by decide) rfl h (fun r hr => m_X8_ofMessage hl0 ⟨r, hr, hr⟩) (fun x7 τ8 _ h => ?_)
    refine r_aload_n 1 dX8_delivers_61 rfl ?_
    refine r_iconst (v := 0) dX8_delivers_62 rfl rfl ?_
    refine r_iconst (v := 2) dX8_delivers_63 rfl rfl ?_
    refine r_callV (K' := Y_X8_ofMessage) (R' := R_X8_ofMessage) (idx := 163) (n := 2) (b := a0) (as := [(0, 0), (0, 2)]) (rest := [(0, x7), (0, x5), (0, a1), (4, a0)]) (C' := 0) (D' := 0) (cn := 8) rfl k0_X8_ofMessage kV_X8_ofMessage kl_X8_163 ⟨by decide, by decide⟩ dX8_delivers_64 rfl rfl (Nat.le_of_ble_eq_true rfl) (by decide) (by decide) rfl h (fun r hr => m_X8_ofMessage hl0 ⟨r, hr, hr⟩) (fun x9 τ10 _ h => ?_)
    refine r_iload_n 0 dX8_delivers_67 rfl ?_
    refine r_aload_n 1 dX8_delivers_68 rfl ?_
    refine r_iconst (v := 0) dX8_delivers_69 rfl rfl ?_
    refine r_iconst (v := 4) dX8_delivers_70 rfl rfl ?_
    refine r_callV (K' := Y_X8_ofMessage) (R' := R_X8_ofMessage) (idx := 163) (n := 2) (b := a0) (as := [(0, 0), (0, 4)]) (rest := [(0, x3), (0, x9), (0, x7), (0, x5), (0, a1), (4, a0)]) (C' := 0) (D' := 0) (cn := 8) rfl k0_X8_ofMessage kV_X8_ofMessage kl_X8_163 ⟨by decide, by decide⟩ dX8_delivers_71 rfl rfl (Nat.le_of_ble_eq_true rfl) (by decide) (by decide) rfl h (fun r hr => m_X8_ofMessage hl0 ⟨r, hr, hr⟩) (fun x11 τ12 _ h => ?_)
    refine r_sipush (v := 1000) dX8_delivers_74 rfl rfl ?_
    refine r_aload_n 1 dX8_delivers_77 rfl ?_
    refine r_iconst (v := 0) dX8_delivers_78 rfl rfl ?_
    refine r_iconst (v := 5) dX8_delivers_79 rfl rfl ?_
    refine r_callV (K' := Y_X8_ofMessage) (R' := R_X8_ofMessage) (idx := 163) (n := 2) (b := a0) (as := [(0, 0), (0, 5)]) (rest := [(0, 1000), (0, x11), (0, x3), (0, x9), (0, x7), (0, x5), (0, a1), (4, a0)]) (C' := 0) (D' := 0) (cn := 8) rfl k0_X8_ofMessage kV_X8_ofMessage kl_X8_163 ⟨by decide, by decide⟩ dX8_delivers_80 rfl rfl (Nat.le_of_ble_eq_true rfl) (by decide) (by decide) rfl h (fun r hr => m_X8_ofMessage hl0 ⟨r, hr, hr⟩) (fun x13 τ14 _ h => ?_)
    refine r_imul dX8_delivers_83 ?_
    refine r_aload_n 1 dX8_delivers_84 rfl ?_
    refine r_iconst (v := 0) dX8_delivers_85 rfl rfl ?_
    refine r_bipush (v := 6) dX8_delivers_86 rfl rfl ?_
    refine r_callV (K' := Y_X8_ofMessage) (R' := R_X8_ofMessage) (idx := 163) (n := 2) (b := a0) (as := [(0, 0), (0, 6)]) (rest := [(0, (w32 (1000 * x13))), (0, x11), (0, x3), (0, x9), (0, x7), (0, x5), (0, a1), (4, a0)]) (C' := 0) (D' := 0) (cn := 8) rfl k0_X8_ofMessage kV_X8_ofMessage kl_X8_163 ⟨by decide, by decide⟩ dX8_delivers_88 rfl rfl (Nat.le_of_ble_eq_true rfl) (by decide) (by decide) rfl h (fun r hr => m_X8_ofMessage hl0 ⟨r, hr, hr⟩) (fun x15 τ16 _ h => ?_)
    refine r_iadd dX8_delivers_91 ?_
    refine r_callV (K' := Y_X8_comes) (R' := R_X8_comes) (idx := 150) (n := 7) (b := a0) (as := [(0, a1), (0, x5), (0, x7), (0, x9), (0, x3), (0, x11), (0, (w32 ((w32 (1000 * x13)) + x15)))]) (rest := []) (C' := 0) (D' := 0) (cn := 8) rfl k0_X8_comes kV_X8_comes kl_X8_150 ⟨by decide, by decide⟩ dX8_delivers_92 rfl rfl (Nat.le_of_ble_eq_true rfl) (by decide) (by decide) rfl h (fun r hr => m_X8_comes hl0 ⟨r, hr, hr⟩) (fun x17 τ18 _ h => ?_)
    refine r_istore (L' := [(4, (0, x17)), (3, (0, x3)), (0, (4, a0)), (1, (0, a1)), (2, (0, a2))]) dX8_delivers_95 (by decide) rfl ?_
    refine r_aload_n 2 dX8_delivers_97 rfl ?_
    refine r_iload_n 3 dX8_delivers_98 rfl ?_
    refine r_iload_n 1 dX8_delivers_99 rfl ?_
    refine r_callV (K' := Y_X8_ownOf) (R' := R_X8_ownOf) (idx := 169) (n := 2) (b := a0) (as := [(0, a1), (0, x3)]) (rest := []) (C' := 0) (D' := 0) (cn := 8) rfl k0_X8_ownOf kV_X8_ownOf kl_X8_169 ⟨by decide, by decide⟩ dX8_delivers_100 rfl rfl (Nat.le_of_ble_eq_true rfl) (by decide) (by decide) rfl h (fun r hr => m_X8_ownOf hl0 ⟨r, hr, hr⟩) (fun x19 τ20 _ h => ?_)
    refine r_istore (L' := [(5, (0, x19)), (4, (0, x17)), (3, (0, x3)), (0, (4, a0)), (1, (0, a1)), (2, (0, a2))]) dX8_delivers_103 (by decide) rfl ?_
    refine r_iload 0 dX8_delivers_105 rfl ?_
    refine r_iconst (v := (-1)) dX8_delivers_107 rfl rfl ?_
    refine r_icmp_eq 134 dX8_delivers_108 (by decide) h (fun h => ?_) (fun h => ?_)
    · refine r_weak (L' := [(0, (4, a0)), (2, (0, a2))]) [3, 5] rfl ?_
      exact t_X8_delivers_134 hl0   h
    · refine r_iload 0 dX8_delivers_111 rfl ?_
      refine r_iload 1 dX8_delivers_113 rfl ?_
      refine r_icmp_eq 134 dX8_delivers_115 (by decide) h (fun h => ?_) (fun h => ?_)
      · refine r_weak (L' := [(0, (4, a0)), (2, (0, a2))]) [3, 5] rfl ?_
        exact t_X8_delivers_134 hl0   h
      · refine r_aload_n 3 dX8_delivers_118 rfl ?_
        refine r_iload_n 4 dX8_delivers_119 rfl ?_
        refine r_iload 1 dX8_delivers_120 rfl ?_
        refine r_iload 0 dX8_delivers_122 rfl ?_
        refine r_callV (K' := Y_X8_judges) (R' := R_X8_judges) (idx := 154) (n := 3) (b := a0) (as := [(0, a1), (0, x17), (0, x19)]) (rest := []) (C' := 0) (D' := 0) (cn := 8) rfl k0_X8_judges kV_X8_judges kl_X8_154 ⟨by decide, by decide⟩ dX8_delivers_124 rfl rfl (Nat.le_of_ble_eq_true rfl) (by decide) (by decide) rfl h (fun r hr => m_X8_judges hl0 ⟨r, hr, hr⟩) (fun x21 τ22 _ h => ?_)
        refine r_if_eq 134 dX8_delivers_127 (by decide) h (fun h => ?_) (fun h => ?_)
        · refine r_weak (L' := [(0, (4, a0)), (2, (0, a2))]) [3, 5] rfl ?_
          exact t_X8_delivers_134 hl0   h
        · refine r_iconst (v := 1) dX8_delivers_130 rfl rfl ?_
          refine r_goto 135 dX8_delivers_131 (by decide) ?_
          refine r_weak (L' := [(0, (4, a0)), (2, (0, a2))]) [3, 5] rfl ?_
          exact t_X8_delivers_135 hl0   h

set_option maxRecDepth 100000 in
set_option maxHeartbeats 4000000 in
theorem t_X8_delivers_21 {g : zF} (hl0 : g.2.2.2.1.stackTraces = false) {Q : zR × zS → Prop}   {a0 a1 s0 : Int} {σ : zS} (h : zo (f_X8_delivers_21  a0 a1 s0 σ) Q) : zw g Y_X8_delivers R_X8_delivers 21 [(0, (4, a0)), (1, (0, a1))] [(0, s0)] σ 0 0 Q := by
  unfold f_X8_delivers_21 at h
  refine r_istore_n (L' := [(2, (0, s0)), (0, (4, a0)), (1, (0, a1))]) dX8_delivers_21 (by decide) rfl ?_
  refine r_aload_n 1 dX8_delivers_22 rfl ?_
  refine r_iload_n 2 dX8_delivers_23 rfl ?_
  refine r_iload_n 0 dX8_delivers_24 rfl ?_
  refine r_if_eq 32 dX8_delivers_25 (by decide) h (fun h => ?_) (fun h => ?_)
  · refine r_iconst (v := 2) dX8_delivers_32 rfl rfl ?_
    refine r_weak (L' := [(0, (4, a0)), (1, (0, a1)), (2, (0, s0))]) [1, 2, 0] rfl ?_
    exact t_X8_delivers_33 hl0   h
  · refine r_iconst (v := 1) dX8_delivers_28 rfl rfl ?_
    refine r_goto 33 dX8_delivers_29 (by decide) ?_
    refine r_weak (L' := [(0, (4, a0)), (1, (0, a1)), (2, (0, s0))]) [1, 2, 0] rfl ?_
    exact t_X8_delivers_33 hl0   h

set_option maxRecDepth 100000 in
set_option maxHeartbeats 4000000 in
theorem t_X8_delivers {g : zF} (hl0 : g.2.2.2.1.stackTraces = false) {Q : zR × zS → Prop}   {a0 : Int} {σ : zS} (h : zo (f_X8_delivers  a0 σ) Q) : zw g Y_X8_delivers R_X8_delivers 0 [(0, (4, a0))] [] σ 0 0 Q := by
  unfold f_X8_delivers at h
  refine r_aload_n 0 dX8_delivers_0 rfl ?_
  refine r_iconst (v := 0) dX8_delivers_1 rfl rfl ?_
  refine r_bipush (v := 7) dX8_delivers_2 rfl rfl ?_
  refine r_callV (K' := Y_X8_ofMessage) (R' := R_X8_ofMessage) (idx := 163) (n := 2) (b := a0) (as := [(0, 0), (0, 7)]) (rest := []) (C' := 0) (D' := 0) (cn := 8) rfl k0_X8_ofMessage kV_X8_ofMessage kl_X8_163 ⟨by decide, by decide⟩ dX8_delivers_4 rfl rfl (Nat.le_of_ble_eq_true rfl) (by decide) (by decide) rfl h (fun r hr => m_X8_ofMessage hl0 ⟨r, hr, hr⟩) (fun x1 τ2 _ h => ?_)
  refine r_istore_n (L' := [(1, (0, x1)), (0, (4, a0))]) dX8_delivers_7 (by decide) rfl ?_
  refine r_aload_n 1 dX8_delivers_8 rfl ?_
  refine r_iconst (v := 0) dX8_delivers_9 rfl rfl ?_
  refine r_callV (K' := Y_X8_refusalOf) (R' := R_X8_refusalOf) (idx := 166) (n := 1) (b := a0) (as := [(0, 0)]) (rest := []) (C' := 0) (D' := 0) (cn := 8) rfl k0_X8_refusalOf kV_X8_refusalOf kl_X8_166 ⟨by decide, by decide⟩ dX8_delivers_10 rfl rfl (Nat.le_of_ble_eq_true rfl) (by decide) (by decide) rfl h (fun r hr => m_X8_refusalOf hl0 ⟨r, hr, hr⟩) (fun x3 τ4 _ h => ?_)
  refine r_if_ne 20 dX8_delivers_13 (by decide) h (fun h => ?_) (fun h => ?_)
  · refine r_iconst (v := 0) dX8_delivers_20 rfl rfl ?_
    refine r_weak (L' := [(0, (4, a0)), (1, (0, x1))]) [1, 0] rfl ?_
    exact t_X8_delivers_21 hl0   h
  · refine r_iconst (v := 1) dX8_delivers_16 rfl rfl ?_
    refine r_goto 21 dX8_delivers_17 (by decide) ?_
    refine r_weak (L' := [(0, (4, a0)), (1, (0, x1))]) [1, 0] rfl ?_
    exact t_X8_delivers_21 hl0   h
theorem m_X8_delivers {g : zF} (hl0 : g.2.2.2.1.stackTraces = false) {Q : zR × zS → Prop} {a0 : Int} {σ : zS} (h : zo (f_X8_delivers a0 σ) Q) : zm g Y_X8_delivers R_X8_delivers [(4, a0)] σ Q := zm_of (by decide) rfl (Nat.le_of_ble_eq_true rfl) (t_X8_delivers hl0 h)

