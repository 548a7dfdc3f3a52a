/- X8_property -/

set_option maxRecDepth 100000 in
set_option maxHeartbeats 4000000 in
theorem t_X8_property {g : zF} (hl0 : g.2.2.2.1.stackTraces = false) {Q : zR × zS → Prop}   {a0 a1 : Int} {σ : zS} (h : zo (f_X8_property  a0 a1 σ) Q) : zw g Y_X8_property R_X8_property 0 [(0, (4, a0)), (1, (0, a1))] [] σ 0 0 Q := by
  unfold f_X8_property at h
  refine r_aload_n 0 dX8_property_0 rfl ?_
  refine r_iload_n 1 dX8_property_1 rfl ?_
  refine r_i2l dX8_property_2 ?_
  refine r_lconst dX8_property_3 ?_
  refine r_ldcL (z := 9) wd_1779 (by decide +kernel) dX8_property_4 ?_
  refine r_callS (K' := Y_X8_in) (R' := R_X8_in) (idx := 70) (n := 3) (as := [(1, a1), (1, 0), (1, 9)]) (rest := [(4, a0)]) (C' := 0) (D' := 0) rfl k0_X8_in wd_1562 kl_X8_70 ⟨by decide, by decide⟩ dX8_property_7 rfl rfl (Nat.le_of_ble_eq_true rfl) (by decide) (by decide) h (fun r hr => m_X8_in hl0 ⟨r, hr, hr⟩) (fun x1 τ2 _ h => ?_)
  refine r_callV (K' := Y_X8_passes) (R' := R_X8_passes) (idx := 215) (n := 1) (b := a0) (as := [(0, x1)]) (rest := []) (C' := 0) (D' := 0) (cn := 8) rfl k0_X8_passes kV_X8_passes kl_X8_215 ⟨by decide, by decide⟩ dX8_property_10 rfl rfl (Nat.le_of_ble_eq_true rfl) (by decide) (by decide) rfl h (fun r hr => m_X8_passes hl0 ⟨r, hr, hr⟩) (fun x3 τ4 _ h => ?_)
  refine r_if_ne 18 dX8_property_13 (by decide) h (fun h => ?_) (fun h => ?_)
  · refine r_iload_n 1 dX8_property_18 rfl ?_
    refine r_switch [72, 77, 82, 99, 99, 99, 99, 99, 89, 94] 99 dX8_property_19 (by decide) (by decide) (by decide) (by decide) h (fun h => ?_) ⟨fun h => ?_, fun h => ?_, fun h => ?_, fun h => ?_, fun h => ?_, fun h => ?_, fun h => ?_, fun h => ?_, fun h => ?_, fun h => ?_, trivial⟩
    · refine r_aload_n 0 dX8_property_99 rfl ?_
      refine r_iload_n 1 dX8_property_100 rfl ?_
      refine r_iconst (v := 3) dX8_property_101 rfl rfl ?_
      refine r_isub dX8_property_102 ?_
      refine r_callV (K' := Y_X8_rule) (R' := R_X8_rule) (idx := 110) (n := 1) (b := a0) (as := [(0, (w32 (a1 - 3)))]) (rest := []) (C' := 0) (D' := 0) (cn := 8) rfl k0_X8_rule kV_X8_rule kl_X8_110 ⟨by decide, by decide⟩ dX8_property_103 rfl rfl (Nat.le_of_ble_eq_true rfl) (by decide) (by decide) rfl h (fun r hr => m_X8_rule hl0 ⟨r, hr, hr⟩) (fun x5 τ6 _ h => ?_)
      exact r_iret rfl dX8_property_106 h
    · refine r_aload_n 0 dX8_property_72 rfl ?_
      refine r_callV (K' := Y_X8_agents) (R' := R_X8_agents) (idx := 66) (n := 0) (b := a0) (as := []) (rest := []) (C' := 0) (D' := 0) (cn := 8) rfl k0_X8_agents kV_X8_agents kl_X8_66 ⟨by decide, by decide⟩ dX8_property_73 rfl rfl (Nat.le_of_ble_eq_true rfl) (by decide) (by decide) rfl h (fun r hr => m_X8_agents hl0 ⟨r, hr, hr⟩) (fun x7 τ8 _ h => ?_)
      exact r_iret rfl dX8_property_76 h
    · refine r_aload_n 0 dX8_property_77 rfl ?_
      refine r_callV (K' := Y_X8_ways) (R' := R_X8_ways) (idx := 74) (n := 0) (b := a0) (as := []) (rest := []) (C' := 0) (D' := 0) (cn := 8) rfl k0_X8_ways kV_X8_ways kl_X8_74 ⟨by decide, by decide⟩ dX8_property_78 rfl rfl (Nat.le_of_ble_eq_true rfl) (by decide) (by decide) rfl h (fun r hr => m_X8_ways hl0 ⟨r, hr, hr⟩) (fun x9 τ10 _ h => ?_)
      exact r_iret rfl dX8_property_81 h
    · refine r_aload_n 0 dX8_property_82 rfl ?_
      refine r_getr fd_X8_17 rfl dX8_property_83 h (fun x11 h => ?_)
      refine r_iconst (v := 2) dX8_property_86 rfl rfl ?_
      refine r_iald dX8_property_87 h (fun x12 h => ?_)
      exact r_iret rfl dX8_property_88 h
    · refine r_aload_n 0 dX8_property_99 rfl ?_
      refine r_iload_n 1 dX8_property_100 rfl ?_
      refine r_iconst (v := 3) dX8_property_101 rfl rfl ?_
      refine r_isub dX8_property_102 ?_
      refine r_callV (K' := Y_X8_rule) (R' := R_X8_rule) (idx := 110) (n := 1) (b := a0) (as := [(0, (w32 (a1 - 3)))]) (rest := []) (C' := 0) (D' := 0) (cn := 8) rfl k0_X8_rule kV_X8_rule kl_X8_110 ⟨by decide, by decide⟩ dX8_property_103 rfl rfl (Nat.le_of_ble_eq_true rfl) (by decide) (by decide) rfl h (fun r hr => m_X8_rule hl0 ⟨r, hr, hr⟩) (fun x13 τ14 _ h => ?_)
      exact r_iret rfl dX8_property_106 h
    · refine r_aload_n 0 dX8_property_99 rfl ?_
      refine r_iload_n 1 dX8_property_100 rfl ?_
      refine r_iconst (v := 3) dX8_property_101 rfl rfl ?_
      refine r_isub dX8_property_102 ?_
      refine r_callV (K' := Y_X8_rule) (R' := R_X8_rule) (idx := 110) (n := 1) (b := a0) (as := [(0, (w32 (a1 - 3)))]) (rest := []) (C' := 0) (D' := 0) (cn := 8) rfl k0_X8_rule kV_X8_rule kl_X8_110 ⟨by decide, by decide⟩ dX8_property_103 rfl rfl (Nat.le_of_ble_eq_true rfl) (by decide) (by decide) rfl h (fun r hr => m_X8_rule hl0 ⟨r, hr, hr⟩) (fun x15 τ16 _ h => ?_)
      exact r_iret rfl dX8_property_106 h
    · refine r_aload_n 0 dX8_property_99 rfl ?_
      refine r_iload_n 1 dX8_property_100 rfl ?_
      refine r_iconst (v := 3) dX8_property_101 rfl rfl ?_
      refine r_isub dX8_property_102 ?_
      refine r_callV (K' := Y_X8_rule) (R' := R_X8_rule) (idx := 110) (n := 1) (b := a0) (as := [(0, (w32 (a1 - 3)))]) (rest := []) (C' := 0) (D' := 0) (cn := 8) rfl k0_X8_rule kV_X8_rule kl_X8_110 ⟨by decide, by decide⟩ dX8_property_103 rfl rfl (Nat.le_of_ble_eq_true rfl) (by decide) (by decide) rfl h (fun r hr => m_X8_rule hl0 ⟨r, hr, hr⟩) (fun x17 τ18 _ h => ?_)
      exact r_iret rfl dX8_property_106 h
    · refine r_aload_n 0 dX8_property_99 rfl ?_
      refine r_iload_n 1 dX8_property_100 rfl ?_
      refine r_iconst (v := 3) dX8_property_101 rfl rfl ?_
      refine r_isub dX8_property_102 ?_
      refine r_callV (K' := Y_X8_rule) (R' := R_X8_rule) (idx := 110) (n := 1) (b := a0) (as := [(0, (w32 (a1 - 3)))]) (rest := []) (C' := 0) (D' := 0) (cn := 8) rfl k0_X8_rule kV_X8_rule kl_X8_110 ⟨by decide, by decide⟩ dX8_property_103 rfl rfl (Nat.le_of_ble_eq_true rfl) (by decide) (by decide) rfl h (fun r hr => m_X8_rule hl0 ⟨r, hr, hr⟩) (fun x19 τ20 _ h => ?_)
      exact r_iret rfl dX8_property_106 h
    · refine r_aload_n 0 dX8_property_99 rfl ?_
      refine r_iload_n 1 dX8_property_100 rfl ?_
      refine r_iconst (v := 3) dX8_property_101 rfl rfl ?_
      refine r_isub dX8_property_102 ?_
      refine r_callV (K' := Y_X8_rule) (R' := R_X8_rule) (idx := 110) (n := 1) (b := a0) (as := [(0, (w32 (a1 - 3)))]) (rest := []) (C' := 0) (D' := 0) (cn := 8) rfl k0_X8_rule kV_X8_rule kl_X8_110 ⟨by decide, by decide⟩ dX8_property_103 rfl rfl (Nat.le_of_ble_eq_true rfl) (by decide) (by decide) rfl h (fun r hr => m_X8_rule hl0 ⟨r, hr, hr⟩) (fun x21 τ22 _ h => ?_)
      exact r_iret rfl dX8_property_106 h
    · refine r_aload_n 0 dX8_property_89 rfl ?_
      refine r_callV (K' := Y_X8_queued) (R' := R_X8_queued) (idx := 160) (n := 0) (b := a0) (as := []) (rest := []) (C' := 0) (D' := 0) (cn := 8) rfl k0_X8_queued kV_X8_queued kl_X8_160 ⟨by decide, by decide⟩ dX8_property_90 rfl rfl (Nat.le_of_ble_eq_true rfl) (by decide) (by decide) rfl h (fun r hr => m_X8_queued hl0 ⟨r, hr, hr⟩) (fun x23 τ24 _ h => ?_)
      exact r_iret rfl dX8_property_93 h
    · refine r_aload_n 0 dX8_property_94 rfl ?_
      refine r_callV (K' := Y_X8_links) (R' := R_X8_links) (idx := 360) (n := 0) (b := a0) (as := []) (rest := []) (C' := 0) (D' := 0) (cn := 8) rfl k0_X8_links kV_X8_links kl_X8_360 ⟨by decide, by decide⟩ dX8_property_95 rfl rfl (Nat.le_of_ble_eq_true rfl) (by decide) (by decide) rfl h (fun r hr => m_X8_links hl0 ⟨r, hr, hr⟩) (fun x25 τ26 _ h => ?_)
      exact r_iret rfl dX8_property_98 h
  · refine r_iconst (v := 0) dX8_property_16 rfl rfl ?_
    exact r_iret rfl dX8_property_17 h
theorem m_X8_property {g : zF} (hl0 : g.2.2.2.1.stackTraces = false) {Q : zR × zS → Prop} {a0 a1 : Int} {σ : zS} (h : zo (f_X8_property a0 a1 σ) Q) : zm g Y_X8_property R_X8_property [(4, a0), (0, a1)] σ Q := zm_of (by decide) rfl (Nat.le_of_ble_eq_true rfl) (t_X8_property hl0 h)


/- X8_areAgents -/

set_option maxRecDepth 100000 in
set_option maxHeartbeats 4000000 in
theorem t_X8_areAgents {g : zF} (hl0 : g.2.2.2.1.stackTraces = false) {Q : zR × zS → Prop}   {a0 a1 a2 : Int} {σ : zS} (h : zo (f_X8_areAgents  a0 a1 a2 σ) Q) : zw g Y_X8_areAgents R_X8_areAgents 0 [(0, (4, a0)), (1, (0, a1)), (2, (0, a2))] [] σ 0 0 Q := by
  unfold f_X8_areAgents at h
  refine r_aload_n 0 dX8_areAgents_0 rfl ?_
  refine r_iload_n 1 dX8_areAgents_1 rfl ?_
  refine r_callV (K' := Y_X8_isAgent) (R' := R_X8_isAgent) (idx := 88) (n := 1) (b := a0) (as := [(0, a1)]) (rest := []) (C' := 0) (D' := 0) (cn := 8) rfl k0_X8_isAgent kV_X8_isAgent kl_X8_88 ⟨by decide, by decide⟩ dX8_areAgents_2 rfl rfl (Nat.le_of_ble_eq_true rfl) (by decide) (by decide) rfl h (fun r hr => m_X8_isAgent hl0 ⟨r, hr, hr⟩) (fun x1 τ2 _ h => ?_)
  refine r_if_eq 20 dX8_areAgents_5 (by decide) h (fun h => ?_) (fun h => ?_)
  · refine r_iconst (v := 0) dX8_areAgents_20 rfl rfl ?_
    exact r_zretc (by decide) rfl dX8_areAgents_21 h
  · refine r_aload_n 0 dX8_areAgents_8 rfl ?_
    refine r_iload_n 2 dX8_areAgents_9 rfl ?_
    refine r_callV (K' := Y_X8_isAgent) (R' := R_X8_isAgent) (idx := 88) (n := 1) (b := a0) (as := [(0, a2)]) (rest := []) (C' := 0) (D' := 0) (cn := 8) rfl k0_X8_isAgent kV_X8_isAgent kl_X8_88 ⟨by decide, by decide⟩ dX8_areAgents_10 rfl rfl (Nat.le_of_ble_eq_true rfl) (by decide) (by decide) rfl h (fun r hr => m_X8_isAgent hl0 ⟨r, hr, hr⟩) (fun x3 τ4 _ h => ?_)
    refine r_if_eq 20 dX8_areAgents_13 (by decide) h (fun h => ?_) (fun h => ?_)
    · refine r_iconst (v := 0) dX8_areAgents_20 rfl rfl ?_
      exact r_zretc (by decide) rfl dX8_areAgents_21 h
    · refine r_iconst (v := 1) dX8_areAgents_16 rfl rfl ?_
      refine r_goto 21 dX8_areAgents_17 (by decide) ?_
      exact r_zretc (by decide) rfl dX8_areAgents_21 h
theorem m_X8_areAgents {g : zF} (hl0 : g.2.2.2.1.stackTraces = false) {Q : zR × zS → Prop} {a0 a1 a2 : Int} {σ : zS} (h : zo (f_X8_areAgents a0 a1 a2 σ) Q) : zm g Y_X8_areAgents R_X8_areAgents [(4, a0), (0, a1), (0, a2)] σ Q := zm_of (by decide) rfl (Nat.le_of_ble_eq_true rfl) (t_X8_areAgents hl0 h)


/- X8_trust -/

set_option maxRecDepth 100000 in
set_option maxHeartbeats 4000000 in
theorem t_X8_trust {g : zF} (hl0 : g.2.2.2.1.stackTraces = false) {Q : zR × zS → Prop}   {a0 a1 a2 : Int} {σ : zS} (h : zo (f_X8_trust  a0 a1 a2 σ) Q) : zw g Y_X8_trust R_X8_trust 0 [(0, (4, a0)), (1, (0, a1)), (2, (0, a2))] [] σ 0 0 Q := by
  unfold f_X8_trust at h
  refine r_aload_n 0 dX8_trust_0 rfl ?_
  refine r_aload_n 0 dX8_trust_1 rfl ?_
  refine r_iload_n 1 dX8_trust_2 rfl ?_
  refine r_iload_n 2 dX8_trust_3 rfl ?_
  refine r_callV (K' := Y_X8_areAgents) (R' := R_X8_areAgents) (idx := 363) (n := 2) (b := a0) (as := [(0, a1), (0, a2)]) (rest := [(4, a0)]) (C' := 0) (D' := 0) (cn := 8) rfl k0_X8_areAgents kV_X8_areAgents kl_X8_363 ⟨by decide, by decide⟩ dX8_trust_4 rfl rfl (Nat.le_of_ble_eq_true rfl) (by decide) (by decide) rfl h (fun r hr => m_X8_areAgents hl0 ⟨r, hr, hr⟩) (fun x1 τ2 _ h => ?_)
  refine r_callV (K' := Y_X8_passes) (R' := R_X8_passes) (idx := 215) (n := 1) (b := a0) (as := [(0, x1)]) (rest := []) (C' := 0) (D' := 0) (cn := 8) rfl k0_X8_passes kV_X8_passes kl_X8_215 ⟨by decide, by decide⟩ dX8_trust_7 rfl rfl (Nat.le_of_ble_eq_true rfl) (by decide) (by decide) rfl h (fun r hr => m_X8_passes hl0 ⟨r, hr, hr⟩) (fun x3 τ4 _ h => ?_)
  refine r_if_eq 22 dX8_trust_10 (by decide) h (fun h => ?_) (fun h => ?_)
  · refine r_iconst (v := 0) dX8_trust_22 rfl rfl ?_
    exact r_iret rfl dX8_trust_23 h
  · refine r_aload_n 0 dX8_trust_13 rfl ?_
    refine r_iload_n 1 dX8_trust_14 rfl ?_
    refine r_iload_n 2 dX8_trust_15 rfl ?_
    refine r_callV (K' := Y_X8_trustOf) (R' := R_X8_trustOf) (idx := 77) (n := 2) (b := a0) (as := [(0, a1), (0, a2)]) (rest := []) (C' := 0) (D' := 0) (cn := 8) rfl k0_X8_trustOf kV_X8_trustOf kl_X8_77 ⟨by decide, by decide⟩ dX8_trust_16 rfl rfl (Nat.le_of_ble_eq_true rfl) (by decide) (by decide) rfl h (fun r hr => m_X8_trustOf hl0 ⟨r, hr, hr⟩) (fun x5 τ6 _ h => ?_)
    refine r_goto 23 dX8_trust_19 (by decide) ?_
    exact r_iret rfl dX8_trust_23 h
theorem m_X8_trust {g : zF} (hl0 : g.2.2.2.1.stackTraces = false) {Q : zR × zS → Prop} {a0 a1 a2 : Int} {σ : zS} (h : zo (f_X8_trust a0 a1 a2 σ) Q) : zm g Y_X8_trust R_X8_trust [(4, a0), (0, a1), (0, a2)] σ Q := zm_of (by decide) rfl (Nat.le_of_ble_eq_true rfl) (t_X8_trust hl0 h)


/- X8_neighbors -/

set_option maxRecDepth 100000 in
set_option maxHeartbeats 4000000 in
theorem t_X8_neighbors {g : zF} (hl0 : g.2.2.2.1.stackTraces = false) {Q : zR × zS → Prop}   {a0 a1 : Int} {σ : zS} (h : zo (f_X8_neighbors  a0 a1 σ) Q) : zw g Y_X8_neighbors R_X8_neighbors 0 [(0, (4, a0)), (1, (0, a1))] [] σ 0 0 Q := by
  unfold f_X8_neighbors at h
  refine r_aload_n 0 dX8_neighbors_0 rfl ?_
  refine r_aload_n 0 dX8_neighbors_1 rfl ?_
  refine r_iload_n 1 dX8_neighbors_2 rfl ?_
  refine r_callV (K' := Y_X8_isAgent) (R' := R_X8_isAgent) (idx := 88) (n := 1) (b := a0) (as := [(0, a1)]) (rest := [(4, a0)]) (C' := 0) (D' := 0) (cn := 8) rfl k0_X8_isAgent kV_X8_isAgent kl_X8_88 ⟨by decide, by decide⟩ dX8_neighbors_3 rfl rfl (Nat.le_of_ble_eq_true rfl) (by decide) (by decide) rfl h (fun r hr => m_X8_isAgent hl0 ⟨r, hr, hr⟩) (fun x1 τ2 _ h => ?_)
  refine r_callV (K' := Y_X8_passes) (R' := R_X8_passes) (idx := 215) (n := 1) (b := a0) (as := [(0, x1)]) (rest := []) (C' := 0) (D' := 0) (cn := 8) rfl k0_X8_passes kV_X8_passes kl_X8_215 ⟨by decide, by decide⟩ dX8_neighbors_6 rfl rfl (Nat.le_of_ble_eq_true rfl) (by decide) (by decide) rfl h (fun r hr => m_X8_passes hl0 ⟨r, hr, hr⟩) (fun x3 τ4 _ h => ?_)
  refine r_if_eq 20 dX8_neighbors_9 (by decide) h (fun h => ?_) (fun h => ?_)
  · refine r_iconst (v := 0) dX8_neighbors_20 rfl rfl ?_
    exact r_iret rfl dX8_neighbors_21 h
  · refine r_aload_n 0 dX8_neighbors_12 rfl ?_
    refine r_iload_n 1 dX8_neighbors_13 rfl ?_
    refine r_callV (K' := Y_X8_neighborsOf) (R' := R_X8_neighborsOf) (idx := 352) (n := 1) (b := a0) (as := [(0, a1)]) (rest := []) (C' := 0) (D' := 0) (cn := 8) rfl k0_X8_neighborsOf kV_X8_neighborsOf kl_X8_352 ⟨by decide, by decide⟩ dX8_neighbors_14 rfl rfl (Nat.le_of_ble_eq_true rfl) (by decide) (by decide) rfl h (fun r hr => m_X8_neighborsOf hl0 ⟨r, hr, hr⟩) (fun x5 τ6 _ h => ?_)
    refine r_goto 21 dX8_neighbors_17 (by decide) ?_
    exact r_iret rfl dX8_neighbors_21 h
theorem m_X8_neighbors {g : zF} (hl0 : g.2.2.2.1.stackTraces = false) {Q : zR × zS → Prop} {a0 a1 : Int} {σ : zS} (h : zo (f_X8_neighbors a0 a1 σ) Q) : zm g Y_X8_neighbors R_X8_neighbors [(4, a0), (0, a1)] σ Q := zm_of (by decide) rfl (Nat.le_of_ble_eq_true rfl) (t_X8_neighbors hl0 h)


/- X8_distance -/

set_option maxRecDepth 100000 in
set_option maxHeartbeats 4000000 in
theorem t_X8_distance_87 {g : zF} (hl0 : g.2.2.2.1.stackTraces = false) {Q : zR × zS → Prop} (r22 : Int → Int → Int → Int → zS → zFn) (hr22 : ∀ b0 b2 b3 b4 τ, zo (r22 b0 b2 b3 b4 τ) Q → zw g Y_X8_distance R_X8_distance 22 [(0, (4, b0)), (2, (0, b2)), (3, (0, b3)), (4, (0, b4))] [] τ 0 0 Q) {a0 a2 a4 a5 : Int} {σ : zS} (h : zo (f_X8_distance_87 r22 a0 a2 a4 a5 σ) Q) : zw g Y_X8_distance R_X8_distance 87 [(0, (4, a0)), (2, (0, a2)), (4, (0, a4)), (5, (0, a5))] [] σ 0 0 Q := by
  unfold f_X8_distance_87 at h
  refine r_iload 3 dX8_distance_87 rfl ?_
  refine r_istore_n (L' := [(3, (0, a5)), (0, (4, a0)), (2, (0, a2)), (4, (0, a4)), (5, (0, a5))]) dX8_distance_89 (by decide) rfl ?_
  refine r_iinc (L' := [(4, (0, (w32 (a4 + 1)))), (3, (0, a5)), (0, (4, a0)), (2, (0, a2)), (5, (0, a5))]) 3 dX8_distance_90 rfl (by decide) rfl ?_
  refine r_goto 22 dX8_distance_93 (by decide) ?_
  refine r_weak (L' := [(0, (4, a0)), (2, (0, a2)), (3, (0, a5)), (4, (0, (w32 (a4 + 1))))]) [2, 3, 1, 0] rfl ?_
  exact hr22 _ _ _ _ _ h

set_option maxRecDepth 100000 in
set_option maxHeartbeats 4000000 in
theorem t_X8_distance_78 {g : zF} (hl0 : g.2.2.2.1.stackTraces = false) {Q : zR × zS → Prop} (r22 : Int → Int → Int → Int → zS → zFn) (r47 : Int → Int → Int → Int → Int → Int → zS → zFn) (hr22 : ∀ b0 b2 b3 b4 τ, zo (r22 b0 b2 b3 b4 τ) Q → zw g Y_X8_distance R_X8_distance 22 [(0, (4, b0)), (2, (0, b2)), (3, (0, b3)), (4, (0, b4))] [] τ 0 0 Q) (hr47 : ∀ b0 b2 b3 b4 b5 b6 τ, zo (r47 b0 b2 b3 b4 b5 b6 τ) Q → zw g Y_X8_distance R_X8_distance 47 [(0, (4, b0)), (2, (0, b2)), (3, (0, b3)), (4, (0, b4)), (5, (0, b5)), (6, (0, b6))] [] τ 0 0 Q) {a0 a2 a3 a4 a6 s0 s1 : Int} {σ : zS} (h : zo (f_X8_distance_78 r22 r47 a0 a2 a3 a4 a6 s0 s1 σ) Q) : zw g Y_X8_distance R_X8_distance 78 [(0, (4, a0)), (2, (0, a2)), (3, (0, a3)), (4, (0, a4)), (6, (0, a6))] [(0, s1), (0, s0)] σ 0 0 Q := by
  unfold f_X8_distance_78 at h
  refine r_ior dX8_distance_78 ?_
  refine r_istore (L' := [(5, (0, (zor s0 s1))), (0, (4, a0)), (2, (0, a2)), (3, (0, a3)), (4, (0, a4)), (6, (0, a6))]) dX8_distance_79 (by decide) rfl ?_
  refine r_iinc (L' := [(6, (0, (w32 (a6 + 1)))), (5, (0, (zor s0 s1))), (0, (4, a0)), (2, (0, a2)), (3, (0, a3)), (4, (0, a4))]) 5 dX8_distance_81 rfl (by decide) rfl ?_
  refine r_goto 47 dX8_distance_84 (by decide) ?_
  refine r_weak (L' := [(0, (4, a0)), (2, (0, a2)), (3, (0, a3)), (4, (0, a4)), (5, (0, (zor s0 s1))), (6, (0, (w32 (a6 + 1))))]) [2, 3, 4, 5, 1, 0] rfl ?_
  exact hr47 _ _ _ _ _ _ _ h

set_option maxRecDepth 100000 in
set_option maxHeartbeats 4000000 in
theorem t_X8_distance_47 {g : zF} (hl0 : g.2.2.2.1.stackTraces = false) {Q : zR × zS → Prop} (r22 : Int → Int → Int → Int → zS → zFn) (hr22 : ∀ b0 b2 b3 b4 τ, zo (r22 b0 b2 b3 b4 τ) Q → zw g Y_X8_distance R_X8_distance 22 [(0, (4, b0)), (2, (0, b2)), (3, (0, b3)), (4, (0, b4))] [] τ 0 0 Q) : ∀ (n : Nat) (a0 a2 a3 a4 a5 a6 : Int) (σ : zS), zo (f_X8_distance_47 r22 n a0 a2 a3 a4 a5 a6 σ) Q → zw g Y_X8_distance R_X8_distance 47 [(0, (4, a0)), (2, (0, a2)), (3, (0, a3)), (4, (0, a4)), (5, (0, a5)), (6, (0, a6))] [] σ 0 0 Q := by
  intro n
  induction n with
  | zero => intro a0 a2 a3 a4 a5 a6 σ h; obtain ⟨r, h, -⟩ := h; cases h
  | succ n ih =>
    intro a0 a2 a3 a4 a5 a6 σ h
    unfold f_X8_distance_47 at h
    refine r_iload 5 dX8_distance_47 rfl ?_
    refine r_aload_n 0 dX8_distance_49 rfl ?_
    refine r_callV (K' := Y_X8_agents) (R' := R_X8_agents) (idx := 66) (n := 0) (b := a0) (as := []) (rest := [(0, a6)]) (C' := 0) (D' := 0) (cn := 8) rfl k0_X8_agents kV_X8_agents kl_X8_66 ⟨by decide, by decide⟩ dX8_distance_50 rfl rfl (Nat.le_of_ble_eq_true rfl) (by decide) (by decide) rfl h (fun r hr => m_X8_agents hl0 ⟨r, hr, hr⟩) (fun x1 τ2 _ h => ?_)
    refine r_icmp_ge 87 dX8_distance_53 (by decide) h (fun h => ?_) (fun h => ?_)
    · refine r_weak (L' := [(0, (4, a0)), (2, (0, a2)), (4, (0, a4)), (5, (0, a5))]) [0, 1, 3, 4] rfl ?_
      exact t_X8_distance_87 hl0 r22 hr22 h
    · refine r_iload 4 dX8_distance_56 rfl ?_
      refine r_iload_n 2 dX8_distance_58 rfl ?_
      refine r_iload 5 dX8_distance_59 rfl ?_
      refine r_ishr dX8_distance_61 ?_
      refine r_iconst (v := 1) dX8_distance_62 rfl rfl ?_
      refine r_iand dX8_distance_63 ?_
      refine r_iconst (v := 1) dX8_distance_64 rfl rfl ?_
      refine r_icmp_ne 77 dX8_distance_65 (by decide) h (fun h => ?_) (fun h => ?_)
      · refine r_iconst (v := 0) dX8_distance_77 rfl rfl ?_
        refine r_weak (L' := [(0, (4, a0)), (2, (0, a2)), (3, (0, a3)), (4, (0, a4)), (6, (0, a6))]) [0, 1, 2, 3, 5] rfl ?_
        exact t_X8_distance_78 hl0 r22 (f_X8_distance_47 r22 n) hr22 (fun b0 b2 b3 b4 b5 b6 τ h => ih b0 b2 b3 b4 b5 b6 τ h) h
      · refine r_aload_n 0 dX8_distance_68 rfl ?_
        refine r_iload 5 dX8_distance_69 rfl ?_
        refine r_callV (K' := Y_X8_neighborsOf) (R' := R_X8_neighborsOf) (idx := 352) (n := 1) (b := a0) (as := [(0, a6)]) (rest := [(0, a5)]) (C' := 0) (D' := 0) (cn := 8) rfl k0_X8_neighborsOf kV_X8_neighborsOf kl_X8_352 ⟨by decide, by decide⟩ dX8_distance_71 rfl rfl (Nat.le_of_ble_eq_true rfl) (by decide) (by decide) rfl h (fun r hr => m_X8_neighborsOf hl0 ⟨r, hr, hr⟩) (fun x3 τ4 _ h => ?_)
        refine r_goto 78 dX8_distance_74 (by decide) ?_
        refine r_weak (L' := [(0, (4, a0)), (2, (0, a2)), (3, (0, a3)), (4, (0, a4)), (6, (0, a6))]) [0, 1, 2, 3, 5] rfl ?_
        exact t_X8_distance_78 hl0 r22 (f_X8_distance_47 r22 n) hr22 (fun b0 b2 b3 b4 b5 b6 τ h => ih b0 b2 b3 b4 b5 b6 τ h) h

set_option maxRecDepth 100000 in
set_option maxHeartbeats 4000000 in
theorem t_X8_distance_22 {g : zF} (hl0 : g.2.2.2.1.stackTraces = false) {Q : zR × zS → Prop}   : ∀ (n : Nat) (a0 a2 a3 a4 : Int) (σ : zS), zo (f_X8_distance_22  n a0 a2 a3 a4 σ) Q → zw g Y_X8_distance R_X8_distance 22 [(0, (4, a0)), (2, (0, a2)), (3, (0, a3)), (4, (0, a4))] [] σ 0 0 Q := by
  intro n
  induction n with
  | zero => intro a0 a2 a3 a4 σ h; obtain ⟨r, h, -⟩ := h; cases h
  | succ n ih =>
    intro a0 a2 a3 a4 σ h
    unfold f_X8_distance_22 at h
    refine r_iload 3 dX8_distance_22 rfl ?_
    refine r_bipush (v := 6) dX8_distance_24 rfl rfl ?_
    refine r_icmp_ge 96 dX8_distance_26 (by decide) h (fun h => ?_) (fun h => ?_)
    · refine r_iconst (v := (-1)) dX8_distance_96 rfl rfl ?_
      exact r_iret rfl dX8_distance_97 h
    · refine r_iload_n 2 dX8_distance_29 rfl ?_
      refine r_iload_n 1 dX8_distance_30 rfl ?_
      refine r_ishr dX8_distance_31 ?_
      refine r_iconst (v := 1) dX8_distance_32 rfl rfl ?_
      refine r_iand dX8_distance_33 ?_
      refine r_iconst (v := 1) dX8_distance_34 rfl rfl ?_
      refine r_icmp_ne 41 dX8_distance_35 (by decide) h (fun h => ?_) (fun h => ?_)
      · refine r_iload_n 2 dX8_distance_41 rfl ?_
        refine r_istore (L' := [(5, (0, a3)), (0, (4, a0)), (2, (0, a2)), (3, (0, a3)), (4, (0, a4))]) dX8_distance_42 (by decide) rfl ?_
        refine r_iconst (v := 0) dX8_distance_44 rfl rfl ?_
        refine r_istore (L' := [(6, (0, 0)), (5, (0, a3)), (0, (4, a0)), (2, (0, a2)), (3, (0, a3)), (4, (0, a4))]) dX8_distance_45 (by decide) rfl ?_
        refine r_weak (L' := [(0, (4, a0)), (2, (0, a2)), (3, (0, a3)), (4, (0, a4)), (5, (0, a3)), (6, (0, 0))]) [2, 3, 4, 5, 1, 0] rfl ?_
        exact t_X8_distance_47 hl0 (f_X8_distance_22  n) (fun b0 b2 b3 b4 τ h => ih b0 b2 b3 b4 τ h) zFU _ _ _ _ _ _ _ h
      · refine r_iload 3 dX8_distance_38 rfl ?_
        exact r_iret rfl dX8_distance_40 h

set_option maxRecDepth 100000 in
set_option maxHeartbeats 4000000 in
theorem t_X8_distance {g : zF} (hl0 : g.2.2.2.1.stackTraces = false) {Q : zR × zS → Prop}   {a0 a1 a2 : Int} {σ : zS} (h : zo (f_X8_distance  a0 a1 a2 σ) Q) : zw g Y_X8_distance R_X8_distance 0 [(0, (4, a0)), (1, (0, a1)), (2, (0, a2))] [] σ 0 0 Q := by
  unfold f_X8_distance at h
  refine r_aload_n 0 dX8_distance_0 rfl ?_
  refine r_aload_n 0 dX8_distance_1 rfl ?_
  refine r_iload_n 1 dX8_distance_2 rfl ?_
  refine r_iload_n 2 dX8_distance_3 rfl ?_
  refine r_callV (K' := Y_X8_areAgents) (R' := R_X8_areAgents) (idx := 363) (n := 2) (b := a0) (as := [(0, a1), (0, a2)]) (rest := [(4, a0)]) (C' := 0) (D' := 0) (cn := 8) rfl k0_X8_areAgents kV_X8_areAgents kl_X8_363 ⟨by decide, by decide⟩ dX8_distance_4 rfl rfl (Nat.le_of_ble_eq_true rfl) (by decide) (by decide) rfl h (fun r hr => m_X8_areAgents hl0 ⟨r, hr, hr⟩) (fun x1 τ2 _ h => ?_)
  refine r_callV (K' := Y_X8_passes) (R' := R_X8_passes) (idx := 215) (n := 1) (b := a0) (as := [(0, x1)]) (rest := []) (C' := 0) (D' := 0) (cn := 8) rfl k0_X8_passes kV_X8_passes kl_X8_215 ⟨by decide, by decide⟩ dX8_distance_7 rfl rfl (Nat.le_of_ble_eq_true rfl) (by decide) (by decide) rfl h (fun r hr => m_X8_passes hl0 ⟨r, hr, hr⟩) (fun x3 τ4 _ h => ?_)
  refine r_if_ne 15 dX8_distance_10 (by decide) h (fun h => ?_) (fun h => ?_)
  · refine r_iconst (v := 1) dX8_distance_15 rfl rfl ?_
    refine r_iload_n 1 dX8_distance_16 rfl ?_
    refine r_ishl dX8_distance_17 ?_
    refine r_istore_n (L' := [(3, (0, (zshl 1 a1))), (0, (4, a0)), (1, (0, a1)), (2, (0, a2))]) dX8_distance_18 (by decide) rfl ?_
    refine r_iconst (v := 0) dX8_distance_19 rfl rfl ?_
    refine r_istore (L' := [(4, (0, 0)), (3, (0, (zshl 1 a1))), (0, (4, a0)), (1, (0, a1)), (2, (0, a2))]) dX8_distance_20 (by decide) rfl ?_
    refine r_weak (L' := [(0, (4, a0)), (2, (0, a2)), (3, (0, (zshl 1 a1))), (4, (0, 0))]) [2, 4, 1, 0] rfl ?_
    exact t_X8_distance_22 hl0   zFU _ _ _ _ _ h
  · refine r_iconst (v := 0) dX8_distance_13 rfl rfl ?_
    exact r_iret rfl dX8_distance_14 h
theorem m_X8_distance {g : zF} (hl0 : g.2.2.2.1.stackTraces = false) {Q : zR × zS → Prop} {a0 a1 a2 : Int} {σ : zS} (h : zo (f_X8_distance a0 a1 a2 σ) Q) : zm g Y_X8_distance R_X8_distance [(4, a0), (0, a1), (0, a2)] σ Q := zm_of (by decide) rfl (Nat.le_of_ble_eq_true rfl) (t_X8_distance hl0 h)


/- X8_mostTrusted -/

set_option maxRecDepth 100000 in
set_option maxHeartbeats 4000000 in
theorem t_X8_mostTrusted_57 {g : zF} (hl0 : g.2.2.2.1.stackTraces = false) {Q : zR × zS → Prop} (r18 : Int → Int → Int → Int → zS → zFn) (hr18 : ∀ b0 b1 b2 b3 τ, zo (r18 b0 b1 b2 b3 τ) Q → zw g Y_X8_mostTrusted R_X8_mostTrusted 18 [(0, (4, b0)), (1, (0, b1)), (2, (0, b2)), (3, (0, b3))] [] τ 0 0 Q) {a0 a1 a2 a3 : Int} {σ : zS} (h : zo (f_X8_mostTrusted_57 r18 a0 a1 a2 a3 σ) Q) : zw g Y_X8_mostTrusted R_X8_mostTrusted 57 [(0, (4, a0)), (1, (0, a1)), (2, (0, a2)), (3, (0, a3))] [] σ 0 0 Q := by
  unfold f_X8_mostTrusted_57 at h
  refine r_iinc (L' := [(3, (0, (w32 (a3 + 1)))), (0, (4, a0)), (1, (0, a1)), (2, (0, a2))]) 3 dX8_mostTrusted_57 rfl (by decide) rfl ?_
  refine r_goto 18 dX8_mostTrusted_60 (by decide) ?_
  refine r_weak (L' := [(0, (4, a0)), (1, (0, a1)), (2, (0, a2)), (3, (0, (w32 (a3 + 1))))]) [1, 2, 3, 0] rfl ?_
  exact hr18 _ _ _ _ _ h

set_option maxRecDepth 100000 in
set_option maxHeartbeats 4000000 in
theorem t_X8_mostTrusted_55 {g : zF} (hl0 : g.2.2.2.1.stackTraces = false) {Q : zR × zS → Prop} (r18 : Int → Int → Int → Int → zS → zFn) (hr18 : ∀ b0 b1 b2 b3 τ, zo (r18 b0 b1 b2 b3 τ) Q → zw g Y_X8_mostTrusted R_X8_mostTrusted 18 [(0, (4, b0)), (1, (0, b1)), (2, (0, b2)), (3, (0, b3))] [] τ 0 0 Q) {a0 a1 a3 : Int} {σ : zS} (h : zo (f_X8_mostTrusted_55 r18 a0 a1 a3 σ) Q) : zw g Y_X8_mostTrusted R_X8_mostTrusted 55 [(0, (4, a0)), (1, (0, a1)), (3, (0, a3))] [] σ 0 0 Q := by
  unfold f_X8_mostTrusted_55 at h
  refine r_iload_n 2 dX8_mostTrusted_55 rfl ?_
  refine r_istore_n (L' := [(2, (0, a3)), (0, (4, a0)), (1, (0, a1)), (3, (0, a3))]) dX8_mostTrusted_56 (by decide) rfl ?_
  refine r_weak (L' := [(0, (4, a0)), (1, (0, a1)), (2, (0, a3)), (3, (0, a3))]) [1, 2, 0, 3] rfl ?_
  exact t_X8_mostTrusted_57 hl0 r18 hr18 h

set_option maxRecDepth 100000 in
set_option maxHeartbeats 4000000 in
theorem t_X8_mostTrusted_18 {g : zF} (hl0 : g.2.2.2.1.stackTraces = false) {Q : zR × zS → Prop}   : ∀ (n : Nat) (a0 a1 a2 a3 : Int) (σ : zS), zo (f_X8_mostTrusted_18  n a0 a1 a2 a3 σ) Q → zw g Y_X8_mostTrusted R_X8_mostTrusted 18 [(0, (4, a0)), (1, (0, a1)), (2, (0, a2)), (3, (0, a3))] [] σ 0 0 Q := by
  intro n
  induction n with
  | zero => intro a0 a1 a2 a3 σ h; obtain ⟨r, h, -⟩ := h; cases h
  | succ n ih =>
    intro a0 a1 a2 a3 σ h
    unfold f_X8_mostTrusted_18 at h
    refine r_iload_n 3 dX8_mostTrusted_18 rfl ?_
    refine r_aload_n 0 dX8_mostTrusted_19 rfl ?_
    refine r_callV (K' := Y_X8_agents) (R' := R_X8_agents) (idx := 66) (n := 0) (b := a0) (as := []) (rest := [(0, a3)]) (C' := 0) (D' := 0) (cn := 8) rfl k0_X8_agents kV_X8_agents kl_X8_66 ⟨by decide, by decide⟩ dX8_mostTrusted_20 rfl rfl (Nat.le_of_ble_eq_true rfl) (by decide) (by decide) rfl h (fun r hr => m_X8_agents hl0 ⟨r, hr, hr⟩) (fun x1 τ2 _ h => ?_)
    refine r_icmp_ge 63 dX8_mostTrusted_23 (by decide) h (fun h => ?_) (fun h => ?_)
    · refine r_iload_n 2 dX8_mostTrusted_63 rfl ?_
      exact r_iret rfl dX8_mostTrusted_64 h
    · refine r_aload_n 0 dX8_mostTrusted_26 rfl ?_
      refine r_iload_n 1 dX8_mostTrusted_27 rfl ?_
      refine r_iload_n 3 dX8_mostTrusted_28 rfl ?_
      refine r_callV (K' := Y_X8_areLinked) (R' := R_X8_areLinked) (idx := 131) (n := 2) (b := a0) (as := [(0, a1), (0, a3)]) (rest := []) (C' := 0) (D' := 0) (cn := 8) rfl k0_X8_areLinked kV_X8_areLinked kl_X8_131 ⟨by decide, by decide⟩ dX8_mostTrusted_29 rfl rfl (Nat.le_of_ble_eq_true rfl) (by decide) (by decide) rfl h (fun r hr => m_X8_areLinked hl0 ⟨r, hr, hr⟩) (fun x3 τ4 _ h => ?_)
      refine r_if_eq 57 dX8_mostTrusted_32 (by decide) h (fun h => ?_) (fun h => ?_)
      · exact t_X8_mostTrusted_57 hl0 (f_X8_mostTrusted_18  n) (fun b0 b1 b2 b3 τ h => ih b0 b1 b2 b3 τ h) h
      · refine r_iload_n 2 dX8_mostTrusted_35 rfl ?_
        refine r_iconst (v := (-1)) dX8_mostTrusted_36 rfl rfl ?_
        refine r_icmp_eq 55 dX8_mostTrusted_37 (by decide) h (fun h => ?_) (fun h => ?_)
        · refine r_weak (L' := [(0, (4, a0)), (1, (0, a1)), (3, (0, a3))]) [0, 1, 3] rfl ?_
          exact t_X8_mostTrusted_55 hl0 (f_X8_mostTrusted_18  n) (fun b0 b1 b2 b3 τ h => ih b0 b1 b2 b3 τ h) h
        · refine r_aload_n 0 dX8_mostTrusted_40 rfl ?_
          refine r_iload_n 1 dX8_mostTrusted_41 rfl ?_
          refine r_iload_n 3 dX8_mostTrusted_42 rfl ?_
          refine r_callV (K' := Y_X8_trustOf) (R' := R_X8_trustOf) (idx := 77) (n := 2) (b := a0) (as := [(0, a1), (0, a3)]) (rest := []) (C' := 0) (D' := 0) (cn := 8) rfl k0_X8_trustOf kV_X8_trustOf kl_X8_77 ⟨by decide, by decide⟩ dX8_mostTrusted_43 rfl rfl (Nat.le_of_ble_eq_true rfl) (by decide) (by decide) rfl h (fun r hr => m_X8_trustOf hl0 ⟨r, hr, hr⟩) (fun x5 τ6 _ h => ?_)
          refine r_aload_n 0 dX8_mostTrusted_46 rfl ?_
          refine r_iload_n 1 dX8_mostTrusted_47 rfl ?_
          refine r_iload_n 2 dX8_mostTrusted_48 rfl ?_
          refine r_callV (K' := Y_X8_trustOf) (R' := R_X8_trustOf) (idx := 77) (n := 2) (b := a0) (as := [(0, a1), (0, a2)]) (rest := [(0, x5)]) (C' := 0) (D' := 0) (cn := 8) rfl k0_X8_trustOf kV_X8_trustOf kl_X8_77 ⟨by decide, by decide⟩ dX8_mostTrusted_49 rfl rfl (Nat.le_of_ble_eq_true rfl) (by decide) (by decide) rfl h (fun r hr => m_X8_trustOf hl0 ⟨r, hr, hr⟩) (fun x7 τ8 _ h => ?_)
          refine r_icmp_le 57 dX8_mostTrusted_52 (by decide) h (fun h => ?_) (fun h => ?_)
          · exact t_X8_mostTrusted_57 hl0 (f_X8_mostTrusted_18  n) (fun b0 b1 b2 b3 τ h => ih b0 b1 b2 b3 τ h) h
          · refine r_weak (L' := [(0, (4, a0)), (1, (0, a1)), (3, (0, a3))]) [0, 1, 3] rfl ?_
            exact t_X8_mostTrusted_55 hl0 (f_X8_mostTrusted_18  n) (fun b0 b1 b2 b3 τ h => ih b0 b1 b2 b3 τ h) h

set_option maxRecDepth 100000 in
set_option maxHeartbeats 4000000 in
theorem t_X8_mostTrusted {g : zF} (hl0 : g.2.2.2.1.stackTraces = false) {Q : zR × zS → Prop}   {a0 a1 : Int} {σ : zS} (h : zo (f_X8_mostTrusted  a0 a1 σ) Q) : zw g Y_X8_mostTrusted R_X8_mostTrusted 0 [(0, (4, a0)), (1, (0, a1))] [] σ 0 0 Q := by
  unfold f_X8_mostTrusted at h
  refine r_aload_n 0 dX8_mostTrusted_0 rfl ?_
  refine r_aload_n 0 dX8_mostTrusted_1 rfl ?_
  refine r_iload_n 1 dX8_mostTrusted_2 rfl ?_
  refine r_callV (K' := Y_X8_isAgent) (R' := R_X8_isAgent) (idx := 88) (n := 1) (b := a0) (as := [(0, a1)]) (rest := [(4, a0)]) (C' := 0) (D' := 0) (cn := 8) rfl k0_X8_isAgent kV_X8_isAgent kl_X8_88 ⟨by decide, by decide⟩ dX8_mostTrusted_3 rfl rfl (Nat.le_of_ble_eq_true rfl) (by decide) (by decide) rfl h (fun r hr => m_X8_isAgent hl0 ⟨r, hr, hr⟩) (fun x1 τ2 _ h => ?_)
  refine r_callV (K' := Y_X8_passes) (R' := R_X8_passes) (idx := 215) (n := 1) (b := a0) (as := [(0, x1)]) (rest := []) (C' := 0) (D' := 0) (cn := 8) rfl k0_X8_passes kV_X8_passes kl_X8_215 ⟨by decide, by decide⟩ dX8_mostTrusted_6 rfl rfl (Nat.le_of_ble_eq_true rfl) (by decide) (by decide) rfl h (fun r hr => m_X8_passes hl0 ⟨r, hr, hr⟩) (fun x3 τ4 _ h => ?_)
  refine r_if_ne 14 dX8_mostTrusted_9 (by decide) h (fun h => ?_) (fun h => ?_)
  · refine r_iconst (v := (-1)) dX8_mostTrusted_14 rfl rfl ?_
    refine r_istore_n (L' := [(2, (0, (-1))), (0, (4, a0)), (1, (0, a1))]) dX8_mostTrusted_15 (by decide) rfl ?_
    refine r_iconst (v := 0) dX8_mostTrusted_16 rfl rfl ?_
    refine r_istore_n (L' := [(3, (0, 0)), (2, (0, (-1))), (0, (4, a0)), (1, (0, a1))]) dX8_mostTrusted_17 (by decide) rfl ?_
    refine r_weak (L' := [(0, (4, a0)), (1, (0, a1)), (2, (0, (-1))), (3, (0, 0))]) [2, 3, 1, 0] rfl ?_
    exact t_X8_mostTrusted_18 hl0   zFU _ _ _ _ _ h
  · refine r_iconst (v := 0) dX8_mostTrusted_12 rfl rfl ?_
    exact r_iret rfl dX8_mostTrusted_13 h
theorem m_X8_mostTrusted {g : zF} (hl0 : g.2.2.2.1.stackTraces = false) {Q : zR × zS → Prop} {a0 a1 : Int} {σ : zS} (h : zo (f_X8_mostTrusted a0 a1 σ) Q) : zm g Y_X8_mostTrusted R_X8_mostTrusted [(4, a0), (0, a1)] σ Q := zm_of (by decide) rfl (Nat.le_of_ble_eq_true rfl) (t_X8_mostTrusted hl0 h)


/- X8_standing -/

set_option maxRecDepth 100000 in
set_option maxHeartbeats 4000000 in
theorem t_X8_standing_54 {g : zF} (hl0 : g.2.2.2.1.stackTraces = false) {Q : zR × zS → Prop}   {a0 a1 a2 : Int} {σ : zS} (h : zo (f_X8_standing_54  a0 a1 a2 σ) Q) : zw g Y_X8_standing R_X8_standing 54 [(0, (4, a0)), (1, (0, a1)), (2, (0, a2))] [] σ 0 0 Q := by
  unfold f_X8_standing_54 at h
  refine r_aload_n 0 dX8_standing_54 rfl ?_
  refine r_iload_n 1 dX8_standing_55 rfl ?_
  refine r_callV (K' := Y_X8_neighborsOf) (R' := R_X8_neighborsOf) (idx := 352) (n := 1) (b := a0) (as := [(0, a1)]) (rest := []) (C' := 0) (D' := 0) (cn := 8) rfl k0_X8_neighborsOf kV_X8_neighborsOf kl_X8_352 ⟨by decide, by decide⟩ dX8_standing_56 rfl rfl (Nat.le_of_ble_eq_true rfl) (by decide) (by decide) rfl h (fun r hr => m_X8_neighborsOf hl0 ⟨r, hr, hr⟩) (fun x1 τ2 _ h => ?_)
  refine r_callS (K' := Y_X8_bits) (R' := R_X8_bits) (idx := 355) (n := 1) (as := [(0, x1)]) (rest := []) (C' := 0) (D' := 0) rfl k0_X8_bits wd_1793 kl_X8_355 ⟨by decide, by decide⟩ dX8_standing_59 rfl rfl (Nat.le_of_ble_eq_true rfl) (by decide) (by decide) h (fun r hr => m_X8_bits hl0 ⟨r, hr, hr⟩) (fun x3 τ4 _ h => ?_)
  refine r_istore_n (L' := [(3, (0, x3)), (0, (4, a0)), (1, (0, a1)), (2, (0, a2))]) dX8_standing_62 (by decide) rfl ?_
  refine r_iload_n 0 dX8_standing_63 rfl ?_
  refine r_if_ne 71 dX8_standing_64 (by decide) h (fun h => ?_) (fun h => ?_)
  · refine r_iload_n 3 dX8_standing_71 rfl ?_
    refine r_i2f dX8_standing_72 ?_
    refine r_iload_n 0 dX8_standing_73 rfl ?_
    refine r_i2f dX8_standing_74 ?_
    refine r_fdiv dX8_standing_75 h (fun h => ?_)
    exact r_fret rfl dX8_standing_76 h
  · refine r_fconst0 dX8_standing_67 ?_
    refine r_goto 76 dX8_standing_68 (by decide) ?_
    exact r_fret rfl dX8_standing_76 h

set_option maxRecDepth 100000 in
set_option maxHeartbeats 4000000 in
theorem t_X8_standing_46 {g : zF} (hl0 : g.2.2.2.1.stackTraces = false) {Q : zR × zS → Prop} (r18 : Int → Int → Int → Int → zS → zFn) (hr18 : ∀ b0 b1 b2 b3 τ, zo (r18 b0 b1 b2 b3 τ) Q → zw g Y_X8_standing R_X8_standing 18 [(0, (4, b0)), (1, (0, b1)), (2, (0, b2)), (3, (0, b3))] [] τ 0 0 Q) {a0 a1 a3 s0 s1 : Int} {σ : zS} (h : zo (f_X8_standing_46 r18 a0 a1 a3 s0 s1 σ) Q) : zw g Y_X8_standing R_X8_standing 46 [(0, (4, a0)), (1, (0, a1)), (3, (0, a3))] [(0, s1), (0, s0)] σ 0 0 Q := by
  unfold f_X8_standing_46 at h
  refine r_iadd dX8_standing_46 ?_
  refine r_istore_n (L' := [(2, (0, (w32 (s0 + s1)))), (0, (4, a0)), (1, (0, a1)), (3, (0, a3))]) dX8_standing_47 (by decide) rfl ?_
  refine r_iinc (L' := [(3, (0, (w32 (a3 + 1)))), (2, (0, (w32 (s0 + s1)))), (0, (4, a0)), (1, (0, a1))]) 3 dX8_standing_48 rfl (by decide) rfl ?_
  refine r_goto 18 dX8_standing_51 (by decide) ?_
  refine r_weak (L' := [(0, (4, a0)), (1, (0, a1)), (2, (0, (w32 (s0 + s1)))), (3, (0, (w32 (a3 + 1))))]) [2, 3, 1, 0] rfl ?_
  exact hr18 _ _ _ _ _ h

set_option maxRecDepth 100000 in
set_option maxHeartbeats 4000000 in
theorem t_X8_standing_18 {g : zF} (hl0 : g.2.2.2.1.stackTraces = false) {Q : zR × zS → Prop}   : ∀ (n : Nat) (a0 a1 a2 a3 : Int) (σ : zS), zo (f_X8_standing_18  n a0 a1 a2 a3 σ) Q → zw g Y_X8_standing R_X8_standing 18 [(0, (4, a0)), (1, (0, a1)), (2, (0, a2)), (3, (0, a3))] [] σ 0 0 Q := by
  intro n
  induction n with
  | zero => intro a0 a1 a2 a3 σ h; obtain ⟨r, h, -⟩ := h; cases h
  | succ n ih =>
    intro a0 a1 a2 a3 σ h
    unfold f_X8_standing_18 at h
    refine r_iload_n 3 dX8_standing_18 rfl ?_
    refine r_aload_n 0 dX8_standing_19 rfl ?_
    refine r_callV (K' := Y_X8_agents) (R' := R_X8_agents) (idx := 66) (n := 0) (b := a0) (as := []) (rest := [(0, a3)]) (C' := 0) (D' := 0) (cn := 8) rfl k0_X8_agents kV_X8_agents kl_X8_66 ⟨by decide, by decide⟩ dX8_standing_20 rfl rfl (Nat.le_of_ble_eq_true rfl) (by decide) (by decide) rfl h (fun r hr => m_X8_agents hl0 ⟨r, hr, hr⟩) (fun x1 τ2 _ h => ?_)
    refine r_icmp_ge 54 dX8_standing_23 (by decide) h (fun h => ?_) (fun h => ?_)
    · refine r_weak (L' := [(0, (4, a0)), (1, (0, a1)), (2, (0, a2))]) [0, 1, 2] rfl ?_
      exact t_X8_standing_54 hl0   h
    · refine r_iload_n 2 dX8_standing_26 rfl ?_
      refine r_aload_n 0 dX8_standing_27 rfl ?_
      refine r_iload_n 1 dX8_standing_28 rfl ?_
      refine r_iload_n 3 dX8_standing_29 rfl ?_
      refine r_callV (K' := Y_X8_areLinked) (R' := R_X8_areLinked) (idx := 131) (n := 2) (b := a0) (as := [(0, a1), (0, a3)]) (rest := [(0, a2)]) (C' := 0) (D' := 0) (cn := 8) rfl k0_X8_areLinked kV_X8_areLinked kl_X8_131 ⟨by decide, by decide⟩ dX8_standing_30 rfl rfl (Nat.le_of_ble_eq_true rfl) (by decide) (by decide) rfl h (fun r hr => m_X8_areLinked hl0 ⟨r, hr, hr⟩) (fun x3 τ4 _ h => ?_)
      refine r_if_eq 45 dX8_standing_33 (by decide) h (fun h => ?_) (fun h => ?_)
      · refine r_iconst (v := 0) dX8_standing_45 rfl rfl ?_
        refine r_weak (L' := [(0, (4, a0)), (1, (0, a1)), (3, (0, a3))]) [0, 1, 3] rfl ?_
        exact t_X8_standing_46 hl0 (f_X8_standing_18  n) (fun b0 b1 b2 b3 τ h => ih b0 b1 b2 b3 τ h) h
      · refine r_aload_n 0 dX8_standing_36 rfl ?_
        refine r_iload_n 3 dX8_standing_37 rfl ?_
        refine r_iload_n 1 dX8_standing_38 rfl ?_
        refine r_callV (K' := Y_X8_trustOf) (R' := R_X8_trustOf) (idx := 77) (n := 2) (b := a0) (as := [(0, a3), (0, a1)]) (rest := [(0, a2)]) (C' := 0) (D' := 0) (cn := 8) rfl k0_X8_trustOf kV_X8_trustOf kl_X8_77 ⟨by decide, by decide⟩ dX8_standing_39 rfl rfl (Nat.le_of_ble_eq_true rfl) (by decide) (by decide) rfl h (fun r hr => m_X8_trustOf hl0 ⟨r, hr, hr⟩) (fun x5 τ6 _ h => ?_)
        refine r_goto 46 dX8_standing_42 (by decide) ?_
        refine r_weak (L' := [(0, (4, a0)), (1, (0, a1)), (3, (0, a3))]) [0, 1, 3] rfl ?_
        exact t_X8_standing_46 hl0 (f_X8_standing_18  n) (fun b0 b1 b2 b3 τ h => ih b0 b1 b2 b3 τ h) h

set_option maxRecDepth 100000 in
set_option maxHeartbeats 4000000 in
theorem t_X8_standing {g : zF} (hl0 : g.2.2.2.1.stackTraces = false) {Q : zR × zS → Prop}   {a0 a1 : Int} {σ : zS} (h : zo (f_X8_standing  a0 a1 σ) Q) : zw g Y_X8_standing R_X8_standing 0 [(0, (4, a0)), (1, (0, a1))] [] σ 0 0 Q := by
  unfold f_X8_standing at h
  refine r_aload_n 0 dX8_standing_0 rfl ?_
  refine r_aload_n 0 dX8_standing_1 rfl ?_
  refine r_iload_n 1 dX8_standing_2 rfl ?_
  refine r_callV (K' := Y_X8_isAgent) (R' := R_X8_isAgent) (idx := 88) (n := 1) (b := a0) (as := [(0, a1)]) (rest := [(4, a0)]) (C' := 0) (D' := 0) (cn := 8) rfl k0_X8_isAgent kV_X8_isAgent kl_X8_88 ⟨by decide, by decide⟩ dX8_standing_3 rfl rfl (Nat.le_of_ble_eq_true rfl) (by decide) (by decide) rfl h (fun r hr => m_X8_isAgent hl0 ⟨r, hr, hr⟩) (fun x1 τ2 _ h => ?_)
  refine r_callV (K' := Y_X8_passes) (R' := R_X8_passes) (idx := 215) (n := 1) (b := a0) (as := [(0, x1)]) (rest := []) (C' := 0) (D' := 0) (cn := 8) rfl k0_X8_passes kV_X8_passes kl_X8_215 ⟨by decide, by decide⟩ dX8_standing_6 rfl rfl (Nat.le_of_ble_eq_true rfl) (by decide) (by decide) rfl h (fun r hr => m_X8_passes hl0 ⟨r, hr, hr⟩) (fun x3 τ4 _ h => ?_)
  refine r_if_ne 14 dX8_standing_9 (by decide) h (fun h => ?_) (fun h => ?_)
  · refine r_iconst (v := 0) dX8_standing_14 rfl rfl ?_
    refine r_istore_n (L' := [(2, (0, 0)), (0, (4, a0)), (1, (0, a1))]) dX8_standing_15 (by decide) rfl ?_
    refine r_iconst (v := 0) dX8_standing_16 rfl rfl ?_
    refine r_istore_n (L' := [(3, (0, 0)), (2, (0, 0)), (0, (4, a0)), (1, (0, a1))]) dX8_standing_17 (by decide) rfl ?_
    refine r_weak (L' := [(0, (4, a0)), (1, (0, a1)), (2, (0, 0)), (3, (0, 0))]) [2, 3, 1, 0] rfl ?_
    exact t_X8_standing_18 hl0   zFU _ _ _ _ _ h
  · refine r_fconst0 dX8_standing_12 ?_
    exact r_fret rfl dX8_standing_13 h
theorem m_X8_standing {g : zF} (hl0 : g.2.2.2.1.stackTraces = false) {Q : zR × zS → Prop} {a0 a1 : Int} {σ : zS} (h : zo (f_X8_standing a0 a1 σ) Q) : zm g Y_X8_standing R_X8_standing [(4, a0), (0, a1)] σ Q := zm_of (by decide) rfl (Nat.le_of_ble_eq_true rfl) (t_X8_standing hl0 h)


/- X8_account -/

set_option maxRecDepth 100000 in
set_option maxHeartbeats 4000000 in
theorem t_X8_account {g : zF} (hl0 : g.2.2.2.1.stackTraces = false) {Q : zR × zS → Prop}   {a0 a1 a2 : Int} {σ : zS} (h : zo (f_X8_account  a0 a1 a2 σ) Q) : zw g Y_X8_account R_X8_account 0 [(0, (4, a0)), (1, (0, a1)), (2, (0, a2))] [] σ 0 0 Q := by
  unfold f_X8_account at h
  refine r_aload_n 0 dX8_account_0 rfl ?_
  refine r_aload_n 0 dX8_account_1 rfl ?_
  refine r_iload_n 1 dX8_account_2 rfl ?_
  refine r_callV (K' := Y_X8_isAgent) (R' := R_X8_isAgent) (idx := 88) (n := 1) (b := a0) (as := [(0, a1)]) (rest := [(4, a0)]) (C' := 0) (D' := 0) (cn := 8) rfl k0_X8_isAgent kV_X8_isAgent kl_X8_88 ⟨by decide, by decide⟩ dX8_account_3 rfl rfl (Nat.le_of_ble_eq_true rfl) (by decide) (by decide) rfl h (fun r hr => m_X8_isAgent hl0 ⟨r, hr, hr⟩) (fun x1 τ2 _ h => ?_)
  refine r_iload_n 2 dX8_account_6 rfl ?_
  refine r_i2l dX8_account_7 ?_
  refine r_lconst dX8_account_8 ?_
  refine r_ldcL (z := 4) wd_1827 (by decide +kernel) dX8_account_9 ?_
  refine r_callS (K' := Y_X8_in) (R' := R_X8_in) (idx := 70) (n := 3) (as := [(1, a2), (1, 0), (1, 4)]) (rest := [(0, x1), (4, a0)]) (C' := 0) (D' := 0) rfl k0_X8_in wd_1562 kl_X8_70 ⟨by decide, by decide⟩ dX8_account_12 rfl rfl (Nat.le_of_ble_eq_true rfl) (by decide) (by decide) h (fun r hr => m_X8_in hl0 ⟨r, hr, hr⟩) (fun x3 τ4 _ h => ?_)
  refine r_callV (K' := Y_X8_passes2) (R' := R_X8_passes2) (idx := 368) (n := 2) (b := a0) (as := [(0, x1), (0, x3)]) (rest := []) (C' := 0) (D' := 0) (cn := 8) rfl k0_X8_passes2 kV_X8_passes2 kl_X8_368 ⟨by decide, by decide⟩ dX8_account_15 rfl rfl (Nat.le_of_ble_eq_true rfl) (by decide) (by decide) rfl h (fun r hr => m_X8_passes2 hl0 ⟨r, hr, hr⟩) (fun x5 τ6 _ h => ?_)
  refine r_if_eq 37 dX8_account_18 (by decide) h (fun h => ?_) (fun h => ?_)
  · refine r_iconst (v := 0) dX8_account_37 rfl rfl ?_
    exact r_iret rfl dX8_account_38 h
  · refine r_aload_n 0 dX8_account_21 rfl ?_
    refine r_getr fd_X8_17 rfl dX8_account_22 h (fun x7 h => ?_)
    refine r_bipush (v := 57) dX8_account_25 rfl rfl ?_
    refine r_iconst (v := 5) dX8_account_27 rfl rfl ?_
    refine r_iload_n 1 dX8_account_28 rfl ?_
    refine r_imul dX8_account_29 ?_
    refine r_iadd dX8_account_30 ?_
    refine r_iload_n 2 dX8_account_31 rfl ?_
    refine r_iadd dX8_account_32 ?_
    refine r_iald dX8_account_33 h (fun x8 h => ?_)
    refine r_goto 38 dX8_account_34 (by decide) ?_
    exact r_iret rfl dX8_account_38 h
theorem m_X8_account {g : zF} (hl0 : g.2.2.2.1.stackTraces = false) {Q : zR × zS → Prop} {a0 a1 a2 : Int} {σ : zS} (h : zo (f_X8_account a0 a1 a2 σ) Q) : zm g Y_X8_account R_X8_account [(4, a0), (0, a1), (0, a2)] σ Q := zm_of (by decide) rfl (Nat.le_of_ble_eq_true rfl) (t_X8_account hl0 h)


/- X8_reports -/

set_option maxRecDepth 100000 in
set_option maxHeartbeats 4000000 in
theorem t_X8_reports {g : zF} (hl0 : g.2.2.2.1.stackTraces = false) {Q : zR × zS → Prop}   {a0 a1 : Int} {σ : zS} (h : zo (f_X8_reports  a0 a1 σ) Q) : zw g Y_X8_reports R_X8_reports 0 [(0, (4, a0)), (1, (0, a1))] [] σ 0 0 Q := by
  unfold f_X8_reports at h
  refine r_aload_n 0 dX8_reports_0 rfl ?_
  refine r_aload_n 0 dX8_reports_1 rfl ?_
  refine r_iload_n 1 dX8_reports_2 rfl ?_
  refine r_callV (K' := Y_X8_isAgent) (R' := R_X8_isAgent) (idx := 88) (n := 1) (b := a0) (as := [(0, a1)]) (rest := [(4, a0)]) (C' := 0) (D' := 0) (cn := 8) rfl k0_X8_isAgent kV_X8_isAgent kl_X8_88 ⟨by decide, by decide⟩ dX8_reports_3 rfl rfl (Nat.le_of_ble_eq_true rfl) (by decide) (by decide) rfl h (fun r hr => m_X8_isAgent hl0 ⟨r, hr, hr⟩) (fun x1 τ2 _ h => ?_)
  refine r_callV (K' := Y_X8_passes) (R' := R_X8_passes) (idx := 215) (n := 1) (b := a0) (as := [(0, x1)]) (rest := []) (C' := 0) (D' := 0) (cn := 8) rfl k0_X8_passes kV_X8_passes kl_X8_215 ⟨by decide, by decide⟩ dX8_reports_6 rfl rfl (Nat.le_of_ble_eq_true rfl) (by decide) (by decide) rfl h (fun r hr => m_X8_passes hl0 ⟨r, hr, hr⟩) (fun x3 τ4 _ h => ?_)
  refine r_if_eq 20 dX8_reports_9 (by decide) h (fun h => ?_) (fun h => ?_)
  · refine r_iconst (v := 0) dX8_reports_20 rfl rfl ?_
    exact r_iret rfl dX8_reports_21 h
  · refine r_aload_n 0 dX8_reports_12 rfl ?_
    refine r_iload_n 1 dX8_reports_13 rfl ?_
    refine r_callV (K' := Y_X8_manyOf) (R' := R_X8_manyOf) (idx := 92) (n := 1) (b := a0) (as := [(0, a1)]) (rest := []) (C' := 0) (D' := 0) (cn := 8) rfl k0_X8_manyOf kV_X8_manyOf kl_X8_92 ⟨by decide, by decide⟩ dX8_reports_14 rfl rfl (Nat.le_of_ble_eq_true rfl) (by decide) (by decide) rfl h (fun r hr => m_X8_manyOf hl0 ⟨r, hr, hr⟩) (fun x5 τ6 _ h => ?_)
    refine r_goto 21 dX8_reports_17 (by decide) ?_
    exact r_iret rfl dX8_reports_21 h
theorem m_X8_reports {g : zF} (hl0 : g.2.2.2.1.stackTraces = false) {Q : zR × zS → Prop} {a0 a1 : Int} {σ : zS} (h : zo (f_X8_reports a0 a1 σ) Q) : zm g Y_X8_reports R_X8_reports [(4, a0), (0, a1)] σ Q := zm_of (by decide) rfl (Nat.le_of_ble_eq_true rfl) (t_X8_reports hl0 h)


/- X8_report -/

set_option maxRecDepth 100000 in
set_option maxHeartbeats 4000000 in
theorem t_X8_report {g : zF} (hl0 : g.2.2.2.1.stackTraces = false) {Q : zR × zS → Prop}   {a0 a1 a2 a3 : Int} {σ : zS} (h : zo (f_X8_report  a0 a1 a2 a3 σ) Q) : zw g Y_X8_report R_X8_report 0 [(0, (4, a0)), (1, (0, a1)), (2, (0, a2)), (3, (0, a3))] [] σ 0 0 Q := by
  unfold f_X8_report at h
  refine r_aload_n 0 dX8_report_0 rfl ?_
  refine r_aload_n 0 dX8_report_1 rfl ?_
  refine r_iload_n 1 dX8_report_2 rfl ?_
  refine r_iload_n 2 dX8_report_3 rfl ?_
  refine r_callV (K' := Y_X8_isReport) (R' := R_X8_isReport) (idx := 372) (n := 2) (b := a0) (as := [(0, a1), (0, a2)]) (rest := [(4, a0)]) (C' := 0) (D' := 0) (cn := 8) rfl k0_X8_isReport kV_X8_isReport kl_X8_372 ⟨by decide, by decide⟩ dX8_report_4 rfl rfl (Nat.le_of_ble_eq_true rfl) (by decide) (by decide) rfl h (fun r hr => m_X8_isReport hl0 ⟨r, hr, hr⟩) (fun x1 τ2 _ h => ?_)
  refine r_iload_n 3 dX8_report_7 rfl ?_
  refine r_i2l dX8_report_8 ?_
  refine r_lconst dX8_report_9 ?_
  refine r_ldcL (z := 6) wd_1766 (by decide +kernel) dX8_report_10 ?_
  refine r_callS (K' := Y_X8_in) (R' := R_X8_in) (idx := 70) (n := 3) (as := [(1, a3), (1, 0), (1, 6)]) (rest := [(0, x1), (4, a0)]) (C' := 0) (D' := 0) rfl k0_X8_in wd_1562 kl_X8_70 ⟨by decide, by decide⟩ dX8_report_13 rfl rfl (Nat.le_of_ble_eq_true rfl) (by decide) (by decide) h (fun r hr => m_X8_in hl0 ⟨r, hr, hr⟩) (fun x3 τ4 _ h => ?_)
  refine r_callV (K' := Y_X8_passes2) (R' := R_X8_passes2) (idx := 368) (n := 2) (b := a0) (as := [(0, x1), (0, x3)]) (rest := []) (C' := 0) (D' := 0) (cn := 8) rfl k0_X8_passes2 kV_X8_passes2 kl_X8_368 ⟨by decide, by decide⟩ dX8_report_16 rfl rfl (Nat.le_of_ble_eq_true rfl) (by decide) (by decide) rfl h (fun r hr => m_X8_passes2 hl0 ⟨r, hr, hr⟩) (fun x5 τ6 _ h => ?_)
  refine r_if_eq 32 dX8_report_19 (by decide) h (fun h => ?_) (fun h => ?_)
  · refine r_iconst (v := 0) dX8_report_32 rfl rfl ?_
    exact r_iret rfl dX8_report_33 h
  · refine r_aload_n 0 dX8_report_22 rfl ?_
    refine r_iload_n 1 dX8_report_23 rfl ?_
    refine r_iload_n 2 dX8_report_24 rfl ?_
    refine r_iload_n 3 dX8_report_25 rfl ?_
    refine r_callV (K' := Y_X8_ofReport) (R' := R_X8_ofReport) (idx := 95) (n := 3) (b := a0) (as := [(0, a1), (0, a2), (0, a3)]) (rest := []) (C' := 0) (D' := 0) (cn := 8) rfl k0_X8_ofReport kV_X8_ofReport kl_X8_95 ⟨by decide, by decide⟩ dX8_report_26 rfl rfl (Nat.le_of_ble_eq_true rfl) (by decide) (by decide) rfl h (fun r hr => m_X8_ofReport hl0 ⟨r, hr, hr⟩) (fun x7 τ8 _ h => ?_)
    refine r_goto 33 dX8_report_29 (by decide) ?_
    exact r_iret rfl dX8_report_33 h
theorem m_X8_report {g : zF} (hl0 : g.2.2.2.1.stackTraces = false) {Q : zR × zS → Prop} {a0 a1 a2 a3 : Int} {σ : zS} (h : zo (f_X8_report a0 a1 a2 a3 σ) Q) : zm g Y_X8_report R_X8_report [(4, a0), (0, a1), (0, a2), (0, a3)] σ Q := zm_of (by decide) rfl (Nat.le_of_ble_eq_true rfl) (t_X8_report hl0 h)


/- X8_statusAt -/

set_option maxRecDepth 100000 in
set_option maxHeartbeats 4000000 in
theorem t_X8_statusAt {g : zF} (hl0 : g.2.2.2.1.stackTraces = false) {Q : zR × zS → Prop}   {a0 a1 a2 : Int} {σ : zS} (h : zo (f_X8_statusAt  a0 a1 a2 σ) Q) : zw g Y_X8_statusAt R_X8_statusAt 0 [(0, (4, a0)), (1, (0, a1)), (2, (0, a2))] [] σ 0 0 Q := by
  unfold f_X8_statusAt at h
  refine r_aload_n 0 dX8_statusAt_0 rfl ?_
  refine r_iload_n 1 dX8_statusAt_1 rfl ?_
  refine r_aload_n 0 dX8_statusAt_2 rfl ?_
  refine r_iload_n 1 dX8_statusAt_3 rfl ?_
  refine r_iload_n 2 dX8_statusAt_4 rfl ?_
  refine r_iconst (v := 3) dX8_statusAt_5 rfl rfl ?_
  refine r_callV (K' := Y_X8_ofReport) (R' := R_X8_ofReport) (idx := 95) (n := 3) (b := a0) (as := [(0, a1), (0, a2), (0, 3)]) (rest := [(0, a1), (4, a0)]) (C' := 0) (D' := 0) (cn := 8) rfl k0_X8_ofReport kV_X8_ofReport kl_X8_95 ⟨by decide, by decide⟩ dX8_statusAt_6 rfl rfl (Nat.le_of_ble_eq_true rfl) (by decide) (by decide) rfl h (fun r hr => m_X8_ofReport hl0 ⟨r, hr, hr⟩) (fun x1 τ2 _ h => ?_)
  refine r_callV (K' := Y_X8_layBelief) (R' := R_X8_layBelief) (idx := 203) (n := 2) (b := a0) (as := [(0, a1), (0, x1)]) (rest := []) (C' := 0) (D' := 0) (cn := 8) rfl k0_X8_layBelief kV_X8_layBelief kl_X8_203 ⟨by decide, by decide⟩ dX8_statusAt_9 rfl rfl (Nat.le_of_ble_eq_true rfl) (by decide) (by decide) rfl h (fun r hr => m_X8_layBelief hl0 ⟨r, hr, hr⟩) (fun _ τ4 _ h => ?_)
  refine r_aload_n 0 dX8_statusAt_12 rfl ?_
  refine r_getr fd_X8_30 rfl dX8_statusAt_13 h (fun x5 h => ?_)
  refine r_iload_n 2 dX8_statusAt_16 rfl ?_
  refine r_iald dX8_statusAt_17 h (fun x6 h => ?_)
  exact r_iret rfl dX8_statusAt_18 h
theorem m_X8_statusAt {g : zF} (hl0 : g.2.2.2.1.stackTraces = false) {Q : zR × zS → Prop} {a0 a1 a2 : Int} {σ : zS} (h : zo (f_X8_statusAt a0 a1 a2 σ) Q) : zm g Y_X8_statusAt R_X8_statusAt [(4, a0), (0, a1), (0, a2)] σ Q := zm_of (by decide) rfl (Nat.le_of_ble_eq_true rfl) (t_X8_statusAt hl0 h)


/- X8_status -/

set_option maxRecDepth 100000 in
set_option maxHeartbeats 4000000 in
theorem t_X8_status {g : zF} (hl0 : g.2.2.2.1.stackTraces = false) {Q : zR × zS → Prop}   {a0 a1 a2 : Int} {σ : zS} (h : zo (f_X8_status  a0 a1 a2 σ) Q) : zw g Y_X8_status R_X8_status 0 [(0, (4, a0)), (1, (0, a1)), (2, (0, a2))] [] σ 0 0 Q := by
  unfold f_X8_status at h
  refine r_aload_n 0 dX8_status_0 rfl ?_
  refine r_aload_n 0 dX8_status_1 rfl ?_
  refine r_iload_n 1 dX8_status_2 rfl ?_
  refine r_iload_n 2 dX8_status_3 rfl ?_
  refine r_callV (K' := Y_X8_isReport) (R' := R_X8_isReport) (idx := 372) (n := 2) (b := a0) (as := [(0, a1), (0, a2)]) (rest := [(4, a0)]) (C' := 0) (D' := 0) (cn := 8) rfl k0_X8_isReport kV_X8_isReport kl_X8_372 ⟨by decide, by decide⟩ dX8_status_4 rfl rfl (Nat.le_of_ble_eq_true rfl) (by decide) (by decide) rfl h (fun r hr => m_X8_isReport hl0 ⟨r, hr, hr⟩) (fun x1 τ2 _ h => ?_)
  refine r_callV (K' := Y_X8_passes) (R' := R_X8_passes) (idx := 215) (n := 1) (b := a0) (as := [(0, x1)]) (rest := []) (C' := 0) (D' := 0) (cn := 8) rfl k0_X8_passes kV_X8_passes kl_X8_215 ⟨by decide, by decide⟩ dX8_status_7 rfl rfl (Nat.le_of_ble_eq_true rfl) (by decide) (by decide) rfl h (fun r hr => m_X8_passes hl0 ⟨r, hr, hr⟩) (fun x3 τ4 _ h => ?_)
  refine r_if_eq 22 dX8_status_10 (by decide) h (fun h => ?_) (fun h => ?_)
  · refine r_iconst (v := 0) dX8_status_22 rfl rfl ?_
    exact r_iret rfl dX8_status_23 h
  · refine r_aload_n 0 dX8_status_13 rfl ?_
    refine r_iload_n 1 dX8_status_14 rfl ?_
    refine r_iload_n 2 dX8_status_15 rfl ?_
    refine r_callV (K' := Y_X8_statusAt) (R' := R_X8_statusAt) (idx := 375) (n := 2) (b := a0) (as := [(0, a1), (0, a2)]) (rest := []) (C' := 0) (D' := 0) (cn := 8) rfl k0_X8_statusAt kV_X8_statusAt kl_X8_375 ⟨by decide, by decide⟩ dX8_status_16 rfl rfl (Nat.le_of_ble_eq_true rfl) (by decide) (by decide) rfl h (fun r hr => m_X8_statusAt hl0 ⟨r, hr, hr⟩) (fun x5 τ6 _ h => ?_)
    refine r_goto 23 dX8_status_19 (by decide) ?_
    exact r_iret rfl dX8_status_23 h
theorem m_X8_status {g : zF} (hl0 : g.2.2.2.1.stackTraces = false) {Q : zR × zS → Prop} {a0 a1 a2 : Int} {σ : zS} (h : zo (f_X8_status a0 a1 a2 σ) Q) : zm g Y_X8_status R_X8_status [(4, a0), (0, a1), (0, a2)] σ Q := zm_of (by decide) rfl (Nat.le_of_ble_eq_true rfl) (t_X8_status hl0 h)


/- X8_moved -/

set_option maxRecDepth 100000 in
set_option maxHeartbeats 4000000 in
theorem t_X8_moved_43 {g : zF} (hl0 : g.2.2.2.1.stackTraces = false) {Q : zR × zS → Prop}   {a0 a1 a2 a3 : Int} {σ : zS} (h : zo (f_X8_moved_43  a0 a1 a2 a3 σ) Q) : zw g Y_X8_moved R_X8_moved 43 [(0, (4, a0)), (1, (0, a1)), (2, (0, a2)), (3, (0, a3))] [] σ 0 0 Q := by
  unfold f_X8_moved_43 at h
  refine r_iload_n 3 dX8_moved_43 rfl ?_
  refine r_if_ne 62 dX8_moved_44 (by decide) h (fun h => ?_) (fun h => ?_)
  · refine r_aload_n 0 dX8_moved_62 rfl ?_
    refine r_iload_n 1 dX8_moved_63 rfl ?_
    refine r_iload_n 2 dX8_moved_64 rfl ?_
    refine r_aload_n 0 dX8_moved_65 rfl ?_
    refine r_iload_n 1 dX8_moved_66 rfl ?_
    refine r_iload_n 2 dX8_moved_67 rfl ?_
    refine r_callV (K' := Y_X8_movedBy) (R' := R_X8_movedBy) (idx := 200) (n := 2) (b := a0) (as := [(0, a1), (0, a2)]) (rest := [(0, a2), (0, a1), (4, a0)]) (C' := 0) (D' := 0) (cn := 8) rfl k0_X8_movedBy kV_X8_movedBy kl_X8_200 ⟨by decide, by decide⟩ dX8_moved_68 rfl rfl (Nat.le_of_ble_eq_true rfl) (by decide) (by decide) rfl h (fun r hr => m_X8_movedBy hl0 ⟨r, hr, hr⟩) (fun x1 τ2 _ h => ?_)
    refine r_callV (K' := Y_X8_topBy) (R' := R_X8_topBy) (idx := 128) (n := 3) (b := a0) (as := [(0, a1), (0, a2), (0, x1)]) (rest := []) (C' := 0) (D' := 0) (cn := 8) rfl k0_X8_topBy kV_X8_topBy kl_X8_128 ⟨by decide, by decide⟩ dX8_moved_71 rfl rfl (Nat.le_of_ble_eq_true rfl) (by decide) (by decide) rfl h (fun r hr => m_X8_topBy hl0 ⟨r, hr, hr⟩) (fun x3 τ4 _ h => ?_)
    exact r_iret rfl dX8_moved_74 h
  · refine r_aload_n 0 dX8_moved_47 rfl ?_
    refine r_iload_n 1 dX8_moved_48 rfl ?_
    refine r_iload_n 2 dX8_moved_49 rfl ?_
    refine r_aload_n 0 dX8_moved_50 rfl ?_
    refine r_iload_n 1 dX8_moved_51 rfl ?_
    refine r_iload_n 2 dX8_moved_52 rfl ?_
    refine r_callV (K' := Y_X8_movedBy) (R' := R_X8_movedBy) (idx := 200) (n := 2) (b := a0) (as := [(0, a1), (0, a2)]) (rest := [(0, a2), (0, a1), (4, a0)]) (C' := 0) (D' := 0) (cn := 8) rfl k0_X8_movedBy kV_X8_movedBy kl_X8_200 ⟨by decide, by decide⟩ dX8_moved_53 rfl rfl (Nat.le_of_ble_eq_true rfl) (by decide) (by decide) rfl h (fun r hr => m_X8_movedBy hl0 ⟨r, hr, hr⟩) (fun x5 τ6 _ h => ?_)
    refine r_callV (K' := Y_X8_lowBy) (R' := R_X8_lowBy) (idx := 125) (n := 3) (b := a0) (as := [(0, a1), (0, a2), (0, x5)]) (rest := []) (C' := 0) (D' := 0) (cn := 8) rfl k0_X8_lowBy kV_X8_lowBy kl_X8_125 ⟨by decide, by decide⟩ dX8_moved_56 rfl rfl (Nat.le_of_ble_eq_true rfl) (by decide) (by decide) rfl h (fun r hr => m_X8_lowBy hl0 ⟨r, hr, hr⟩) (fun x7 τ8 _ h => ?_)
    refine r_goto 74 dX8_moved_59 (by decide) ?_
    exact r_iret rfl dX8_moved_74 h

set_option maxRecDepth 100000 in
set_option maxHeartbeats 4000000 in
theorem t_X8_moved {g : zF} (hl0 : g.2.2.2.1.stackTraces = false) {Q : zR × zS → Prop}   {a0 a1 a2 a3 : Int} {σ : zS} (h : zo (f_X8_moved  a0 a1 a2 a3 σ) Q) : zw g Y_X8_moved R_X8_moved 0 [(0, (4, a0)), (1, (0, a1)), (2, (0, a2)), (3, (0, a3))] [] σ 0 0 Q := by
  unfold f_X8_moved at h
  refine r_aload_n 0 dX8_moved_0 rfl ?_
  refine r_aload_n 0 dX8_moved_1 rfl ?_
  refine r_iload_n 1 dX8_moved_2 rfl ?_
  refine r_iload_n 2 dX8_moved_3 rfl ?_
  refine r_callV (K' := Y_X8_isReport) (R' := R_X8_isReport) (idx := 372) (n := 2) (b := a0) (as := [(0, a1), (0, a2)]) (rest := [(4, a0)]) (C' := 0) (D' := 0) (cn := 8) rfl k0_X8_isReport kV_X8_isReport kl_X8_372 ⟨by decide, by decide⟩ dX8_moved_4 rfl rfl (Nat.le_of_ble_eq_true rfl) (by decide) (by decide) rfl h (fun r hr => m_X8_isReport hl0 ⟨r, hr, hr⟩) (fun x1 τ2 _ h => ?_)
  refine r_iload_n 3 dX8_moved_7 rfl ?_
  refine r_i2l dX8_moved_8 ?_
  refine r_lconst dX8_moved_9 ?_
  refine r_lconst dX8_moved_10 ?_
  refine r_callS (K' := Y_X8_in) (R' := R_X8_in) (idx := 70) (n := 3) (as := [(1, a3), (1, 0), (1, 1)]) (rest := [(0, x1), (4, a0)]) (C' := 0) (D' := 0) rfl k0_X8_in wd_1562 kl_X8_70 ⟨by decide, by decide⟩ dX8_moved_11 rfl rfl (Nat.le_of_ble_eq_true rfl) (by decide) (by decide) h (fun r hr => m_X8_in hl0 ⟨r, hr, hr⟩) (fun x3 τ4 _ h => ?_)
  refine r_callV (K' := Y_X8_passes2) (R' := R_X8_passes2) (idx := 368) (n := 2) (b := a0) (as := [(0, x1), (0, x3)]) (rest := []) (C' := 0) (D' := 0) (cn := 8) rfl k0_X8_passes2 kV_X8_passes2 kl_X8_368 ⟨by decide, by decide⟩ dX8_moved_14 rfl rfl (Nat.le_of_ble_eq_true rfl) (by decide) (by decide) rfl h (fun r hr => m_X8_passes2 hl0 ⟨r, hr, hr⟩) (fun x5 τ6 _ h => ?_)
  refine r_if_ne 22 dX8_moved_17 (by decide) h (fun h => ?_) (fun h => ?_)
  · refine r_aload_n 0 dX8_moved_22 rfl ?_
    refine r_iload_n 1 dX8_moved_23 rfl ?_
    refine r_iload_n 2 dX8_moved_24 rfl ?_
    refine r_callV (K' := Y_X8_isOwn) (R' := R_X8_isOwn) (idx := 179) (n := 2) (b := a0) (as := [(0, a1), (0, a2)]) (rest := []) (C' := 0) (D' := 0) (cn := 8) rfl k0_X8_isOwn kV_X8_isOwn kl_X8_179 ⟨by decide, by decide⟩ dX8_moved_25 rfl rfl (Nat.le_of_ble_eq_true rfl) (by decide) (by decide) rfl h (fun r hr => m_X8_isOwn hl0 ⟨r, hr, hr⟩) (fun x7 τ8 _ h => ?_)
    refine r_if_ne 43 dX8_moved_28 (by decide) h (fun h => ?_) (fun h => ?_)
    · exact t_X8_moved_43 hl0   h
    · refine r_aload_n 0 dX8_moved_31 rfl ?_
      refine r_iload_n 1 dX8_moved_32 rfl ?_
      refine r_iload_n 2 dX8_moved_33 rfl ?_
      refine r_callV (K' := Y_X8_trustInVia) (R' := R_X8_trustInVia) (idx := 182) (n := 2) (b := a0) (as := [(0, a1), (0, a2)]) (rest := []) (C' := 0) (D' := 0) (cn := 8) rfl k0_X8_trustInVia kV_X8_trustInVia kl_X8_182 ⟨by decide, by decide⟩ dX8_moved_34 rfl rfl (Nat.le_of_ble_eq_true rfl) (by decide) (by decide) rfl h (fun r hr => m_X8_trustInVia hl0 ⟨r, hr, hr⟩) (fun x9 τ10 _ h => ?_)
      refine r_iconst (v := (-1)) dX8_moved_37 rfl rfl ?_
      refine r_icmp_ne 43 dX8_moved_38 (by decide) h (fun h => ?_) (fun h => ?_)
      · exact t_X8_moved_43 hl0   h
      · refine r_iconst (v := (-1)) dX8_moved_41 rfl rfl ?_
        exact r_iret rfl dX8_moved_42 h
  · refine r_iconst (v := 0) dX8_moved_20 rfl rfl ?_
    exact r_iret rfl dX8_moved_21 h
theorem m_X8_moved {g : zF} (hl0 : g.2.2.2.1.stackTraces = false) {Q : zR × zS → Prop} {a0 a1 a2 a3 : Int} {σ : zS} (h : zo (f_X8_moved a0 a1 a2 a3 σ) Q) : zm g Y_X8_moved R_X8_moved [(4, a0), (0, a1), (0, a2), (0, a3)] σ Q := zm_of (by decide) rfl (Nat.le_of_ble_eq_true rfl) (t_X8_moved hl0 h)


/- X8_areThere -/

set_option maxRecDepth 100000 in
set_option maxHeartbeats 4000000 in
theorem t_X8_areThere {g : zF} (hl0 : g.2.2.2.1.stackTraces = false) {Q : zR × zS → Prop}   {a0 a1 a2 : Int} {σ : zS} (h : zo (f_X8_areThere  a0 a1 a2 σ) Q) : zw g Y_X8_areThere R_X8_areThere 0 [(0, (4, a0)), (1, (0, a1)), (2, (0, a2))] [] σ 0 0 Q := by
  unfold f_X8_areThere at h
  refine r_aload_n 0 dX8_areThere_0 rfl ?_
  refine r_iload_n 1 dX8_areThere_1 rfl ?_
  refine r_callV (K' := Y_X8_isAgent) (R' := R_X8_isAgent) (idx := 88) (n := 1) (b := a0) (as := [(0, a1)]) (rest := []) (C' := 0) (D' := 0) (cn := 8) rfl k0_X8_isAgent kV_X8_isAgent kl_X8_88 ⟨by decide, by decide⟩ dX8_areThere_2 rfl rfl (Nat.le_of_ble_eq_true rfl) (by decide) (by decide) rfl h (fun r hr => m_X8_isAgent hl0 ⟨r, hr, hr⟩) (fun x1 τ2 _ h => ?_)
  refine r_if_eq 20 dX8_areThere_5 (by decide) h (fun h => ?_) (fun h => ?_)
  · refine r_iconst (v := 0) dX8_areThere_20 rfl rfl ?_
    exact r_zretc (by decide) rfl dX8_areThere_21 h
  · refine r_aload_n 0 dX8_areThere_8 rfl ?_
    refine r_iload_n 2 dX8_areThere_9 rfl ?_
    refine r_callV (K' := Y_X8_isWay) (R' := R_X8_isWay) (idx := 378) (n := 1) (b := a0) (as := [(0, a2)]) (rest := []) (C' := 0) (D' := 0) (cn := 8) rfl k0_X8_isWay kV_X8_isWay kl_X8_378 ⟨by decide, by decide⟩ dX8_areThere_10 rfl rfl (Nat.le_of_ble_eq_true rfl) (by decide) (by decide) rfl h (fun r hr => m_X8_isWay hl0 ⟨r, hr, hr⟩) (fun x3 τ4 _ h => ?_)
    refine r_if_eq 20 dX8_areThere_13 (by decide) h (fun h => ?_) (fun h => ?_)
    · refine r_iconst (v := 0) dX8_areThere_20 rfl rfl ?_
      exact r_zretc (by decide) rfl dX8_areThere_21 h
    · refine r_iconst (v := 1) dX8_areThere_16 rfl rfl ?_
      refine r_goto 21 dX8_areThere_17 (by decide) ?_
      exact r_zretc (by decide) rfl dX8_areThere_21 h
theorem m_X8_areThere {g : zF} (hl0 : g.2.2.2.1.stackTraces = false) {Q : zR × zS → Prop} {a0 a1 a2 : Int} {σ : zS} (h : zo (f_X8_areThere a0 a1 a2 σ) Q) : zm g Y_X8_areThere R_X8_areThere [(4, a0), (0, a1), (0, a2)] σ Q := zm_of (by decide) rfl (Nat.le_of_ble_eq_true rfl) (t_X8_areThere hl0 h)


/- X8_own -/

set_option maxRecDepth 100000 in
set_option maxHeartbeats 4000000 in
theorem t_X8_own {g : zF} (hl0 : g.2.2.2.1.stackTraces = false) {Q : zR × zS → Prop}   {a0 a1 a2 : Int} {σ : zS} (h : zo (f_X8_own  a0 a1 a2 σ) Q) : zw g Y_X8_own R_X8_own 0 [(0, (4, a0)), (1, (0, a1)), (2, (0, a2))] [] σ 0 0 Q := by
  unfold f_X8_own at h
  refine r_aload_n 0 dX8_own_0 rfl ?_
  refine r_aload_n 0 dX8_own_1 rfl ?_
  refine r_iload_n 1 dX8_own_2 rfl ?_
  refine r_iload_n 2 dX8_own_3 rfl ?_
  refine r_callV (K' := Y_X8_areThere) (R' := R_X8_areThere) (idx := 381) (n := 2) (b := a0) (as := [(0, a1), (0, a2)]) (rest := [(4, a0)]) (C' := 0) (D' := 0) (cn := 8) rfl k0_X8_areThere kV_X8_areThere kl_X8_381 ⟨by decide, by decide⟩ dX8_own_4 rfl rfl (Nat.le_of_ble_eq_true rfl) (by decide) (by decide) rfl h (fun r hr => m_X8_areThere hl0 ⟨r, hr, hr⟩) (fun x1 τ2 _ h => ?_)
  refine r_callV (K' := Y_X8_passes) (R' := R_X8_passes) (idx := 215) (n := 1) (b := a0) (as := [(0, x1)]) (rest := []) (C' := 0) (D' := 0) (cn := 8) rfl k0_X8_passes kV_X8_passes kl_X8_215 ⟨by decide, by decide⟩ dX8_own_7 rfl rfl (Nat.le_of_ble_eq_true rfl) (by decide) (by decide) rfl h (fun r hr => m_X8_passes hl0 ⟨r, hr, hr⟩) (fun x3 τ4 _ h => ?_)
  refine r_if_eq 22 dX8_own_10 (by decide) h (fun h => ?_) (fun h => ?_)
  · refine r_iconst (v := 0) dX8_own_22 rfl rfl ?_
    exact r_iret rfl dX8_own_23 h
  · refine r_aload_n 0 dX8_own_13 rfl ?_
    refine r_iload_n 1 dX8_own_14 rfl ?_
    refine r_iload_n 2 dX8_own_15 rfl ?_
    refine r_callV (K' := Y_X8_ownOf) (R' := R_X8_ownOf) (idx := 169) (n := 2) (b := a0) (as := [(0, a1), (0, a2)]) (rest := []) (C' := 0) (D' := 0) (cn := 8) rfl k0_X8_ownOf kV_X8_ownOf kl_X8_169 ⟨by decide, by decide⟩ dX8_own_16 rfl rfl (Nat.le_of_ble_eq_true rfl) (by decide) (by decide) rfl h (fun r hr => m_X8_ownOf hl0 ⟨r, hr, hr⟩) (fun x5 τ6 _ h => ?_)
    refine r_goto 23 dX8_own_19 (by decide) ?_
    exact r_iret rfl dX8_own_23 h
theorem m_X8_own {g : zF} (hl0 : g.2.2.2.1.stackTraces = false) {Q : zR × zS → Prop} {a0 a1 a2 : Int} {σ : zS} (h : zo (f_X8_own a0 a1 a2 σ) Q) : zm g Y_X8_own R_X8_own [(4, a0), (0, a1), (0, a2)] σ Q := zm_of (by decide) rfl (Nat.le_of_ble_eq_true rfl) (t_X8_own hl0 h)


/- X8_boundOf -/

set_option maxRecDepth 100000 in
set_option maxHeartbeats 4000000 in
theorem t_X8_boundOf {g : zF} (hl0 : g.2.2.2.1.stackTraces = false) {Q : zR × zS → Prop}   {a0 a1 a2 a3 : Int} {σ : zS} (h : zo (f_X8_boundOf  a0 a1 a2 a3 σ) Q) : zw g Y_X8_boundOf R_X8_boundOf 0 [(0, (4, a0)), (1, (0, a1)), (2, (0, a2)), (3, (0, a3))] [] σ 0 0 Q := by
  unfold f_X8_boundOf at h
  refine r_aload_n 0 dX8_boundOf_0 rfl ?_
  refine r_iload_n 1 dX8_boundOf_1 rfl ?_
  refine r_iload_n 2 dX8_boundOf_2 rfl ?_
  refine r_callV (K' := Y_X8_layBelief) (R' := R_X8_layBelief) (idx := 203) (n := 2) (b := a0) (as := [(0, a1), (0, a2)]) (rest := []) (C' := 0) (D' := 0) (cn := 8) rfl k0_X8_layBelief kV_X8_layBelief kl_X8_203 ⟨by decide, by decide⟩ dX8_boundOf_3 rfl rfl (Nat.le_of_ble_eq_true rfl) (by decide) (by decide) rfl h (fun r hr => m_X8_layBelief hl0 ⟨r, hr, hr⟩) (fun _ τ2 _ h => ?_)
  refine r_iload_n 3 dX8_boundOf_6 rfl ?_
  refine r_if_ne 17 dX8_boundOf_7 (by decide) h (fun h => ?_) (fun h => ?_)
  · refine r_aload_n 0 dX8_boundOf_17 rfl ?_
    refine r_getf fd_X8_191 rfl dX8_boundOf_18 h (fun x3 h => ?_)
    exact r_iret rfl dX8_boundOf_21 h
  · refine r_aload_n 0 dX8_boundOf_10 rfl ?_
    refine r_getf fd_X8_188 rfl dX8_boundOf_11 h (fun x4 h => ?_)
    refine r_goto 21 dX8_boundOf_14 (by decide) ?_
    exact r_iret rfl dX8_boundOf_21 h
theorem m_X8_boundOf {g : zF} (hl0 : g.2.2.2.1.stackTraces = false) {Q : zR × zS → Prop} {a0 a1 a2 a3 : Int} {σ : zS} (h : zo (f_X8_boundOf a0 a1 a2 a3 σ) Q) : zm g Y_X8_boundOf R_X8_boundOf [(4, a0), (0, a1), (0, a2), (0, a3)] σ Q := zm_of (by decide) rfl (Nat.le_of_ble_eq_true rfl) (t_X8_boundOf hl0 h)


/- X8_belief -/

set_option maxRecDepth 100000 in
set_option maxHeartbeats 4000000 in
theorem t_X8_belief {g : zF} (hl0 : g.2.2.2.1.stackTraces = false) {Q : zR × zS → Prop}   {a0 a1 a2 a3 : Int} {σ : zS} (h : zo (f_X8_belief  a0 a1 a2 a3 σ) Q) : zw g Y_X8_belief R_X8_belief 0 [(0, (4, a0)), (1, (0, a1)), (2, (0, a2)), (3, (0, a3))] [] σ 0 0 Q := by
  unfold f_X8_belief at h
  refine r_aload_n 0 dX8_belief_0 rfl ?_
  refine r_aload_n 0 dX8_belief_1 rfl ?_
  refine r_iload_n 1 dX8_belief_2 rfl ?_
  refine r_iload_n 2 dX8_belief_3 rfl ?_
  refine r_callV (K' := Y_X8_areThere) (R' := R_X8_areThere) (idx := 381) (n := 2) (b := a0) (as := [(0, a1), (0, a2)]) (rest := [(4, a0)]) (C' := 0) (D' := 0) (cn := 8) rfl k0_X8_areThere kV_X8_areThere kl_X8_381 ⟨by decide, by decide⟩ dX8_belief_4 rfl rfl (Nat.le_of_ble_eq_true rfl) (by decide) (by decide) rfl h (fun r hr => m_X8_areThere hl0 ⟨r, hr, hr⟩) (fun x1 τ2 _ h => ?_)
  refine r_iload_n 3 dX8_belief_7 rfl ?_
  refine r_i2l dX8_belief_8 ?_
  refine r_lconst dX8_belief_9 ?_
  refine r_lconst dX8_belief_10 ?_
  refine r_callS (K' := Y_X8_in) (R' := R_X8_in) (idx := 70) (n := 3) (as := [(1, a3), (1, 0), (1, 1)]) (rest := [(0, x1), (4, a0)]) (C' := 0) (D' := 0) rfl k0_X8_in wd_1562 kl_X8_70 ⟨by decide, by decide⟩ dX8_belief_11 rfl rfl (Nat.le_of_ble_eq_true rfl) (by decide) (by decide) h (fun r hr => m_X8_in hl0 ⟨r, hr, hr⟩) (fun x3 τ4 _ h => ?_)
  refine r_callV (K' := Y_X8_passes2) (R' := R_X8_passes2) (idx := 368) (n := 2) (b := a0) (as := [(0, x1), (0, x3)]) (rest := []) (C' := 0) (D' := 0) (cn := 8) rfl k0_X8_passes2 kV_X8_passes2 kl_X8_368 ⟨by decide, by decide⟩ dX8_belief_14 rfl rfl (Nat.le_of_ble_eq_true rfl) (by decide) (by decide) rfl h (fun r hr => m_X8_passes2 hl0 ⟨r, hr, hr⟩) (fun x5 τ6 _ h => ?_)
  refine r_if_eq 30 dX8_belief_17 (by decide) h (fun h => ?_) (fun h => ?_)
  · refine r_iconst (v := 0) dX8_belief_30 rfl rfl ?_
    exact r_iret rfl dX8_belief_31 h
  · refine r_aload_n 0 dX8_belief_20 rfl ?_
    refine r_iload_n 1 dX8_belief_21 rfl ?_
    refine r_iload_n 2 dX8_belief_22 rfl ?_
    refine r_iload_n 3 dX8_belief_23 rfl ?_
    refine r_callV (K' := Y_X8_boundOf) (R' := R_X8_boundOf) (idx := 384) (n := 3) (b := a0) (as := [(0, a1), (0, a2), (0, a3)]) (rest := []) (C' := 0) (D' := 0) (cn := 8) rfl k0_X8_boundOf kV_X8_boundOf kl_X8_384 ⟨by decide, by decide⟩ dX8_belief_24 rfl rfl (Nat.le_of_ble_eq_true rfl) (by decide) (by decide) rfl h (fun r hr => m_X8_boundOf hl0 ⟨r, hr, hr⟩) (fun x7 τ8 _ h => ?_)
    refine r_goto 31 dX8_belief_27 (by decide) ?_
    exact r_iret rfl dX8_belief_31 h
theorem m_X8_belief {g : zF} (hl0 : g.2.2.2.1.stackTraces = false) {Q : zR × zS → Prop} {a0 a1 a2 a3 : Int} {σ : zS} (h : zo (f_X8_belief a0 a1 a2 a3 σ) Q) : zm g Y_X8_belief R_X8_belief [(4, a0), (0, a1), (0, a2), (0, a3)] σ Q := zm_of (by decide) rfl (Nat.le_of_ble_eq_true rfl) (t_X8_belief hl0 h)


/- X8_sources -/

set_option maxRecDepth 100000 in
set_option maxHeartbeats 4000000 in
theorem t_X8_sources {g : zF} (hl0 : g.2.2.2.1.stackTraces = false) {Q : zR × zS → Prop}   {a0 a1 a2 : Int} {σ : zS} (h : zo (f_X8_sources  a0 a1 a2 σ) Q) : zw g Y_X8_sources R_X8_sources 0 [(0, (4, a0)), (1, (0, a1)), (2, (0, a2))] [] σ 0 0 Q := by
  unfold f_X8_sources at h
  refine r_aload_n 0 dX8_sources_0 rfl ?_
  refine r_aload_n 0 dX8_sources_1 rfl ?_
  refine r_iload_n 1 dX8_sources_2 rfl ?_
  refine r_iload_n 2 dX8_sources_3 rfl ?_
  refine r_callV (K' := Y_X8_areThere) (R' := R_X8_areThere) (idx := 381) (n := 2) (b := a0) (as := [(0, a1), (0, a2)]) (rest := [(4, a0)]) (C' := 0) (D' := 0) (cn := 8) rfl k0_X8_areThere kV_X8_areThere kl_X8_381 ⟨by decide, by decide⟩ dX8_sources_4 rfl rfl (Nat.le_of_ble_eq_true rfl) (by decide) (by decide) rfl h (fun r hr => m_X8_areThere hl0 ⟨r, hr, hr⟩) (fun x1 τ2 _ h => ?_)
  refine r_callV (K' := Y_X8_passes) (R' := R_X8_passes) (idx := 215) (n := 1) (b := a0) (as := [(0, x1)]) (rest := []) (C' := 0) (D' := 0) (cn := 8) rfl k0_X8_passes kV_X8_passes kl_X8_215 ⟨by decide, by decide⟩ dX8_sources_7 rfl rfl (Nat.le_of_ble_eq_true rfl) (by decide) (by decide) rfl h (fun r hr => m_X8_passes hl0 ⟨r, hr, hr⟩) (fun x3 τ4 _ h => ?_)
  refine r_if_eq 23 dX8_sources_10 (by decide) h (fun h => ?_) (fun h => ?_)
  · refine r_iconst (v := 0) dX8_sources_23 rfl rfl ?_
    exact r_iret rfl dX8_sources_24 h
  · refine r_aload_n 0 dX8_sources_13 rfl ?_
    refine r_iload_n 1 dX8_sources_14 rfl ?_
    refine r_iload_n 2 dX8_sources_15 rfl ?_
    refine r_iconst (v := 0) dX8_sources_16 rfl rfl ?_
    refine r_callV (K' := Y_X8_originsWith) (R' := R_X8_originsWith) (idx := 387) (n := 3) (b := a0) (as := [(0, a1), (0, a2), (0, 0)]) (rest := []) (C' := 0) (D' := 0) (cn := 8) rfl k0_X8_originsWith kV_X8_originsWith kl_X8_387 ⟨by decide, by decide⟩ dX8_sources_17 rfl rfl (Nat.le_of_ble_eq_true rfl) (by decide) (by decide) rfl h (fun r hr => m_X8_originsWith hl0 ⟨r, hr, hr⟩) (fun x5 τ6 _ h => ?_)
    refine r_goto 24 dX8_sources_20 (by decide) ?_
    exact r_iret rfl dX8_sources_24 h
theorem m_X8_sources {g : zF} (hl0 : g.2.2.2.1.stackTraces = false) {Q : zR × zS → Prop} {a0 a1 a2 : Int} {σ : zS} (h : zo (f_X8_sources a0 a1 a2 σ) Q) : zm g Y_X8_sources R_X8_sources [(4, a0), (0, a1), (0, a2)] σ Q := zm_of (by decide) rfl (Nat.le_of_ble_eq_true rfl) (t_X8_sources hl0 h)


/- X8_contradicted -/

set_option maxRecDepth 100000 in
set_option maxHeartbeats 4000000 in
theorem t_X8_contradicted {g : zF} (hl0 : g.2.2.2.1.stackTraces = false) {Q : zR × zS → Prop}   {a0 a1 a2 : Int} {σ : zS} (h : zo (f_X8_contradicted  a0 a1 a2 σ) Q) : zw g Y_X8_contradicted R_X8_contradicted 0 [(0, (4, a0)), (1, (0, a1)), (2, (0, a2))] [] σ 0 0 Q := by
  unfold f_X8_contradicted at h
  refine r_aload_n 0 dX8_contradicted_0 rfl ?_
  refine r_aload_n 0 dX8_contradicted_1 rfl ?_
  refine r_iload_n 1 dX8_contradicted_2 rfl ?_
  refine r_iload_n 2 dX8_contradicted_3 rfl ?_
  refine r_callV (K' := Y_X8_areThere) (R' := R_X8_areThere) (idx := 381) (n := 2) (b := a0) (as := [(0, a1), (0, a2)]) (rest := [(4, a0)]) (C' := 0) (D' := 0) (cn := 8) rfl k0_X8_areThere kV_X8_areThere kl_X8_381 ⟨by decide, by decide⟩ dX8_contradicted_4 rfl rfl (Nat.le_of_ble_eq_true rfl) (by decide) (by decide) rfl h (fun r hr => m_X8_areThere hl0 ⟨r, hr, hr⟩) (fun x1 τ2 _ h => ?_)
  refine r_callV (K' := Y_X8_passes) (R' := R_X8_passes) (idx := 215) (n := 1) (b := a0) (as := [(0, x1)]) (rest := []) (C' := 0) (D' := 0) (cn := 8) rfl k0_X8_passes kV_X8_passes kl_X8_215 ⟨by decide, by decide⟩ dX8_contradicted_7 rfl rfl (Nat.le_of_ble_eq_true rfl) (by decide) (by decide) rfl h (fun r hr => m_X8_passes hl0 ⟨r, hr, hr⟩) (fun x3 τ4 _ h => ?_)
  refine r_if_eq 23 dX8_contradicted_10 (by decide) h (fun h => ?_) (fun h => ?_)
  · refine r_iconst (v := 0) dX8_contradicted_23 rfl rfl ?_
    exact r_iret rfl dX8_contradicted_24 h
  · refine r_aload_n 0 dX8_contradicted_13 rfl ?_
    refine r_iload_n 1 dX8_contradicted_14 rfl ?_
    refine r_iload_n 2 dX8_contradicted_15 rfl ?_
    refine r_iconst (v := 1) dX8_contradicted_16 rfl rfl ?_
    refine r_callV (K' := Y_X8_originsWith) (R' := R_X8_originsWith) (idx := 387) (n := 3) (b := a0) (as := [(0, a1), (0, a2), (0, 1)]) (rest := []) (C' := 0) (D' := 0) (cn := 8) rfl k0_X8_originsWith kV_X8_originsWith kl_X8_387 ⟨by decide, by decide⟩ dX8_contradicted_17 rfl rfl (Nat.le_of_ble_eq_true rfl) (by decide) (by decide) rfl h (fun r hr => m_X8_originsWith hl0 ⟨r, hr, hr⟩) (fun x5 τ6 _ h => ?_)
    refine r_goto 24 dX8_contradicted_20 (by decide) ?_
    exact r_iret rfl dX8_contradicted_24 h
theorem m_X8_contradicted {g : zF} (hl0 : g.2.2.2.1.stackTraces = false) {Q : zR × zS → Prop} {a0 a1 a2 : Int} {σ : zS} (h : zo (f_X8_contradicted a0 a1 a2 σ) Q) : zm g Y_X8_contradicted R_X8_contradicted [(4, a0), (0, a1), (0, a2)] σ Q := zm_of (by decide) rfl (Nat.le_of_ble_eq_true rfl) (t_X8_contradicted hl0 h)


/- X8_best -/

set_option maxRecDepth 100000 in
set_option maxHeartbeats 4000000 in
theorem t_X8_best {g : zF} (hl0 : g.2.2.2.1.stackTraces = false) {Q : zR × zS → Prop}   {a0 a1 a2 : Int} {σ : zS} (h : zo (f_X8_best  a0 a1 a2 σ) Q) : zw g Y_X8_best R_X8_best 0 [(0, (4, a0)), (1, (0, a1)), (2, (0, a2))] [] σ 0 0 Q := by
  unfold f_X8_best at h
  refine r_aload_n 0 dX8_best_0 rfl ?_
  refine r_aload_n 0 dX8_best_1 rfl ?_
  refine r_iload_n 1 dX8_best_2 rfl ?_
  refine r_callV (K' := Y_X8_isAgent) (R' := R_X8_isAgent) (idx := 88) (n := 1) (b := a0) (as := [(0, a1)]) (rest := [(4, a0)]) (C' := 0) (D' := 0) (cn := 8) rfl k0_X8_isAgent kV_X8_isAgent kl_X8_88 ⟨by decide, by decide⟩ dX8_best_3 rfl rfl (Nat.le_of_ble_eq_true rfl) (by decide) (by decide) rfl h (fun r hr => m_X8_isAgent hl0 ⟨r, hr, hr⟩) (fun x1 τ2 _ h => ?_)
  refine r_iload_n 2 dX8_best_6 rfl ?_
  refine r_i2l dX8_best_7 ?_
  refine r_lconst dX8_best_8 ?_
  refine r_ldcL (z := 2) wd_1924 (by decide +kernel) dX8_best_9 ?_
  refine r_callS (K' := Y_X8_in) (R' := R_X8_in) (idx := 70) (n := 3) (as := [(1, a2), (1, 0), (1, 2)]) (rest := [(0, x1), (4, a0)]) (C' := 0) (D' := 0) rfl k0_X8_in wd_1562 kl_X8_70 ⟨by decide, by decide⟩ dX8_best_12 rfl rfl (Nat.le_of_ble_eq_true rfl) (by decide) (by decide) h (fun r hr => m_X8_in hl0 ⟨r, hr, hr⟩) (fun x3 τ4 _ h => ?_)
  refine r_callV (K' := Y_X8_passes2) (R' := R_X8_passes2) (idx := 368) (n := 2) (b := a0) (as := [(0, x1), (0, x3)]) (rest := []) (C' := 0) (D' := 0) (cn := 8) rfl k0_X8_passes2 kV_X8_passes2 kl_X8_368 ⟨by decide, by decide⟩ dX8_best_15 rfl rfl (Nat.le_of_ble_eq_true rfl) (by decide) (by decide) rfl h (fun r hr => m_X8_passes2 hl0 ⟨r, hr, hr⟩) (fun x5 τ6 _ h => ?_)
  refine r_if_eq 30 dX8_best_18 (by decide) h (fun h => ?_) (fun h => ?_)
  · refine r_iconst (v := 0) dX8_best_30 rfl rfl ?_
    exact r_iret rfl dX8_best_31 h
  · refine r_aload_n 0 dX8_best_21 rfl ?_
    refine r_iload_n 1 dX8_best_22 rfl ?_
    refine r_iload_n 2 dX8_best_23 rfl ?_
    refine r_callV (K' := Y_X8_bestOf) (R' := R_X8_bestOf) (idx := 209) (n := 2) (b := a0) (as := [(0, a1), (0, a2)]) (rest := []) (C' := 0) (D' := 0) (cn := 8) rfl k0_X8_bestOf kV_X8_bestOf kl_X8_209 ⟨by decide, by decide⟩ dX8_best_24 rfl rfl (Nat.le_of_ble_eq_true rfl) (by decide) (by decide) rfl h (fun r hr => m_X8_bestOf hl0 ⟨r, hr, hr⟩) (fun x7 τ8 _ h => ?_)
    refine r_goto 31 dX8_best_27 (by decide) ?_
    exact r_iret rfl dX8_best_31 h
theorem m_X8_best {g : zF} (hl0 : g.2.2.2.1.stackTraces = false) {Q : zR × zS → Prop} {a0 a1 a2 : Int} {σ : zS} (h : zo (f_X8_best a0 a1 a2 σ) Q) : zm g Y_X8_best R_X8_best [(4, a0), (0, a1), (0, a2)] σ Q := zm_of (by decide) rfl (Nat.le_of_ble_eq_true rfl) (t_X8_best hl0 h)


/- X8_rivals -/

set_option maxRecDepth 100000 in
set_option maxHeartbeats 4000000 in
theorem t_X8_rivals {g : zF} (hl0 : g.2.2.2.1.stackTraces = false) {Q : zR × zS → Prop}   {a0 a1 : Int} {σ : zS} (h : zo (f_X8_rivals  a0 a1 σ) Q) : zw g Y_X8_rivals R_X8_rivals 0 [(0, (4, a0)), (1, (0, a1))] [] σ 0 0 Q := by
  unfold f_X8_rivals at h
  refine r_aload_n 0 dX8_rivals_0 rfl ?_
  refine r_aload_n 0 dX8_rivals_1 rfl ?_
  refine r_iload_n 1 dX8_rivals_2 rfl ?_
  refine r_callV (K' := Y_X8_isAgent) (R' := R_X8_isAgent) (idx := 88) (n := 1) (b := a0) (as := [(0, a1)]) (rest := [(4, a0)]) (C' := 0) (D' := 0) (cn := 8) rfl k0_X8_isAgent kV_X8_isAgent kl_X8_88 ⟨by decide, by decide⟩ dX8_rivals_3 rfl rfl (Nat.le_of_ble_eq_true rfl) (by decide) (by decide) rfl h (fun r hr => m_X8_isAgent hl0 ⟨r, hr, hr⟩) (fun x1 τ2 _ h => ?_)
  refine r_callV (K' := Y_X8_passes) (R' := R_X8_passes) (idx := 215) (n := 1) (b := a0) (as := [(0, x1)]) (rest := []) (C' := 0) (D' := 0) (cn := 8) rfl k0_X8_passes kV_X8_passes kl_X8_215 ⟨by decide, by decide⟩ dX8_rivals_6 rfl rfl (Nat.le_of_ble_eq_true rfl) (by decide) (by decide) rfl h (fun r hr => m_X8_passes hl0 ⟨r, hr, hr⟩) (fun x3 τ4 _ h => ?_)
  refine r_if_eq 20 dX8_rivals_9 (by decide) h (fun h => ?_) (fun h => ?_)
  · refine r_iconst (v := 0) dX8_rivals_20 rfl rfl ?_
    exact r_iret rfl dX8_rivals_21 h
  · refine r_aload_n 0 dX8_rivals_12 rfl ?_
    refine r_iload_n 1 dX8_rivals_13 rfl ?_
    refine r_callV (K' := Y_X8_rivalsOf) (R' := R_X8_rivalsOf) (idx := 392) (n := 1) (b := a0) (as := [(0, a1)]) (rest := []) (C' := 0) (D' := 0) (cn := 8) rfl k0_X8_rivalsOf kV_X8_rivalsOf kl_X8_392 ⟨by decide, by decide⟩ dX8_rivals_14 rfl rfl (Nat.le_of_ble_eq_true rfl) (by decide) (by decide) rfl h (fun r hr => m_X8_rivalsOf hl0 ⟨r, hr, hr⟩) (fun x5 τ6 _ h => ?_)
    refine r_goto 21 dX8_rivals_17 (by decide) ?_
    exact r_iret rfl dX8_rivals_21 h
theorem m_X8_rivals {g : zF} (hl0 : g.2.2.2.1.stackTraces = false) {Q : zR × zS → Prop} {a0 a1 : Int} {σ : zS} (h : zo (f_X8_rivals a0 a1 σ) Q) : zm g Y_X8_rivals R_X8_rivals [(4, a0), (0, a1)] σ Q := zm_of (by decide) rfl (Nat.le_of_ble_eq_true rfl) (t_X8_rivals hl0 h)


/- X8_nextProbe -/

set_option maxRecDepth 100000 in
set_option maxHeartbeats 4000000 in
theorem t_X8_nextProbe_89 {g : zF} (hl0 : g.2.2.2.1.stackTraces = false) {Q : zR × zS → Prop} (r45 : Int → Int → Int → Int → Int → Int → zS → zFn) (hr45 : ∀ b0 b1 b2 b3 b4 b5 τ, zo (r45 b0 b1 b2 b3 b4 b5 τ) Q → zw g Y_X8_nextProbe R_X8_nextProbe 45 [(0, (4, b0)), (1, (0, b1)), (2, (0, b2)), (3, (0, b3)), (4, (0, b4)), (5, (0, b5))] [] τ 0 0 Q) {a0 a1 a2 a3 a4 a5 : Int} {σ : zS} (h : zo (f_X8_nextProbe_89 r45 a0 a1 a2 a3 a4 a5 σ) Q) : zw g Y_X8_nextProbe R_X8_nextProbe 89 [(0, (4, a0)), (1, (0, a1)), (2, (0, a2)), (3, (0, a3)), (4, (0, a4)), (5, (0, a5))] [] σ 0 0 Q := by
  unfold f_X8_nextProbe_89 at h
  refine r_iinc (L' := [(5, (0, (w32 (a5 + 1)))), (0, (4, a0)), (1, (0, a1)), (2, (0, a2)), (3, (0, a3)), (4, (0, a4))]) 5 dX8_nextProbe_89 rfl (by decide) rfl ?_
  refine r_goto 45 dX8_nextProbe_92 (by decide) ?_
  refine r_weak (L' := [(0, (4, a0)), (1, (0, a1)), (2, (0, a2)), (3, (0, a3)), (4, (0, a4)), (5, (0, (w32 (a5 + 1))))]) [1, 2, 3, 4, 5, 0] rfl ?_
  exact hr45 _ _ _ _ _ _ _ h

set_option maxRecDepth 100000 in
set_option maxHeartbeats 4000000 in
theorem t_X8_nextProbe_45 {g : zF} (hl0 : g.2.2.2.1.stackTraces = false) {Q : zR × zS → Prop}   : ∀ (n : Nat) (a0 a1 a2 a3 a4 a5 : Int) (σ : zS), zo (f_X8_nextProbe_45  n a0 a1 a2 a3 a4 a5 σ) Q → zw g Y_X8_nextProbe R_X8_nextProbe 45 [(0, (4, a0)), (1, (0, a1)), (2, (0, a2)), (3, (0, a3)), (4, (0, a4)), (5, (0, a5))] [] σ 0 0 Q := by
  intro n
  induction n with
  | zero => intro a0 a1 a2 a3 a4 a5 σ h; obtain ⟨r, h, -⟩ := h; cases h
  | succ n ih =>
    intro a0 a1 a2 a3 a4 a5 σ h
    unfold f_X8_nextProbe_45 at h
    refine r_iload 5 dX8_nextProbe_45 rfl ?_
    refine r_aload_n 0 dX8_nextProbe_47 rfl ?_
    refine r_callV (K' := Y_X8_ways) (R' := R_X8_ways) (idx := 74) (n := 0) (b := a0) (as := []) (rest := [(0, a5)]) (C' := 0) (D' := 0) (cn := 8) rfl k0_X8_ways kV_X8_ways kl_X8_74 ⟨by decide, by decide⟩ dX8_nextProbe_48 rfl rfl (Nat.le_of_ble_eq_true rfl) (by decide) (by decide) rfl h (fun r hr => m_X8_ways hl0 ⟨r, hr, hr⟩) (fun x1 τ2 _ h => ?_)
    refine r_icmp_ge 95 dX8_nextProbe_51 (by decide) h (fun h => ?_) (fun h => ?_)
    · refine r_iload_n 3 dX8_nextProbe_95 rfl ?_
      exact r_iret rfl dX8_nextProbe_96 h
    · refine r_aload_n 0 dX8_nextProbe_54 rfl ?_
      refine r_iload_n 1 dX8_nextProbe_55 rfl ?_
      refine r_iload 5 dX8_nextProbe_56 rfl ?_
      refine r_callV (K' := Y_X8_widthOf) (R' := R_X8_widthOf) (idx := 395) (n := 2) (b := a0) (as := [(0, a1), (0, a5)]) (rest := []) (C' := 0) (D' := 0) (cn := 8) rfl k0_X8_widthOf kV_X8_widthOf kl_X8_395 ⟨by decide, by decide⟩ dX8_nextProbe_58 rfl rfl (Nat.le_of_ble_eq_true rfl) (by decide) (by decide) rfl h (fun r hr => m_X8_widthOf hl0 ⟨r, hr, hr⟩) (fun x3 τ4 _ h => ?_)
      refine r_istore (L' := [(6, (0, x3)), (0, (4, a0)), (1, (0, a1)), (2, (0, a2)), (3, (0, a3)), (4, (0, a4)), (5, (0, a5))]) dX8_nextProbe_61 (by decide) rfl ?_
      refine r_iload_n 3 dX8_nextProbe_63 rfl ?_
      refine r_iload 6 dX8_nextProbe_64 rfl ?_
      refine r_ishr dX8_nextProbe_66 ?_
      refine r_iconst (v := 1) dX8_nextProbe_67 rfl rfl ?_
      refine r_iand dX8_nextProbe_68 ?_
      refine r_if_eq 89 dX8_nextProbe_69 (by decide) h (fun h => ?_) (fun h => ?_)
      · refine r_weak (L' := [(0, (4, a0)), (1, (0, a1)), (2, (0, a2)), (3, (0, a3)), (4, (0, a4)), (5, (0, a5))]) [1, 2, 3, 4, 5, 6] rfl ?_
        exact t_X8_nextProbe_89 hl0 (f_X8_nextProbe_45  n) (fun b0 b1 b2 b3 b4 b5 τ h => ih b0 b1 b2 b3 b4 b5 τ h) h
      · refine r_iload 0 dX8_nextProbe_72 rfl ?_
        refine r_iload 5 dX8_nextProbe_74 rfl ?_
        refine r_icmp_gt 82 dX8_nextProbe_76 (by decide) h (fun h => ?_) (fun h => ?_)
        · refine r_iload 6 dX8_nextProbe_82 rfl ?_
          refine r_istore_n (L' := [(3, (0, a5)), (6, (0, x3)), (0, (4, a0)), (1, (0, a1)), (2, (0, a2)), (4, (0, a4)), (5, (0, a5))]) dX8_nextProbe_84 (by decide) rfl ?_
          refine r_iload 1 dX8_nextProbe_85 rfl ?_
          refine r_istore (L' := [(4, (0, x3)), (3, (0, a5)), (6, (0, x3)), (0, (4, a0)), (1, (0, a1)), (2, (0, a2)), (5, (0, a5))]) dX8_nextProbe_87 (by decide) rfl ?_
          refine r_weak (L' := [(0, (4, a0)), (1, (0, a1)), (2, (0, a2)), (3, (0, a5)), (4, (0, x3)), (5, (0, a5))]) [3, 4, 5, 1, 0, 6] rfl ?_
          exact t_X8_nextProbe_89 hl0 (f_X8_nextProbe_45  n) (fun b0 b1 b2 b3 b4 b5 τ h => ih b0 b1 b2 b3 b4 b5 τ h) h
        · refine r_goto 89 dX8_nextProbe_79 (by decide) ?_
          refine r_weak (L' := [(0, (4, a0)), (1, (0, a1)), (2, (0, a2)), (3, (0, a3)), (4, (0, a4)), (5, (0, a5))]) [1, 2, 3, 4, 5, 6] rfl ?_
          exact t_X8_nextProbe_89 hl0 (f_X8_nextProbe_45  n) (fun b0 b1 b2 b3 b4 b5 τ h => ih b0 b1 b2 b3 b4 b5 τ h) h

set_option maxRecDepth 100000 in
set_option maxHeartbeats 4000000 in
theorem t_X8_nextProbe {g : zF} (hl0 : g.2.2.2.1.stackTraces = false) {Q : zR × zS → Prop}   {a0 a1 : Int} {σ : zS} (h : zo (f_X8_nextProbe  a0 a1 σ) Q) : zw g Y_X8_nextProbe R_X8_nextProbe 0 [(0, (4, a0)), (1, (0, a1))] [] σ 0 0 Q := by
  unfold f_X8_nextProbe at h
  refine r_aload_n 0 dX8_nextProbe_0 rfl ?_
  refine r_aload_n 0 dX8_nextProbe_1 rfl ?_
  refine r_iload_n 1 dX8_nextProbe_2 rfl ?_
  refine r_callV (K' := Y_X8_isAgent) (R' := R_X8_isAgent) (idx := 88) (n := 1) (b := a0) (as := [(0, a1)]) (rest := [(4, a0)]) (C' := 0) (D' := 0) (cn := 8) rfl k0_X8_isAgent kV_X8_isAgent kl_X8_88 ⟨by decide, by decide⟩ dX8_nextProbe_3 rfl rfl (Nat.le_of_ble_eq_true rfl) (by decide) (by decide) rfl h (fun r hr => m_X8_isAgent hl0 ⟨r, hr, hr⟩) (fun x1 τ2 _ h => ?_)
  refine r_callV (K' := Y_X8_passes) (R' := R_X8_passes) (idx := 215) (n := 1) (b := a0) (as := [(0, x1)]) (rest := []) (C' := 0) (D' := 0) (cn := 8) rfl k0_X8_passes kV_X8_passes kl_X8_215 ⟨by decide, by decide⟩ dX8_nextProbe_6 rfl rfl (Nat.le_of_ble_eq_true rfl) (by decide) (by decide) rfl h (fun r hr => m_X8_passes hl0 ⟨r, hr, hr⟩) (fun x3 τ4 _ h => ?_)
  refine r_if_ne 14 dX8_nextProbe_9 (by decide) h (fun h => ?_) (fun h => ?_)
  · refine r_aload_n 0 dX8_nextProbe_14 rfl ?_
    refine r_iload_n 1 dX8_nextProbe_15 rfl ?_
    refine r_callV (K' := Y_X8_rivalsOf) (R' := R_X8_rivalsOf) (idx := 392) (n := 1) (b := a0) (as := [(0, a1)]) (rest := []) (C' := 0) (D' := 0) (cn := 8) rfl k0_X8_rivalsOf kV_X8_rivalsOf kl_X8_392 ⟨by decide, by decide⟩ dX8_nextProbe_16 rfl rfl (Nat.le_of_ble_eq_true rfl) (by decide) (by decide) rfl h (fun r hr => m_X8_rivalsOf hl0 ⟨r, hr, hr⟩) (fun x5 τ6 _ h => ?_)
    refine r_istore_n (L' := [(2, (0, x5)), (0, (4, a0)), (1, (0, a1))]) dX8_nextProbe_19 (by decide) rfl ?_
    refine r_iload_n 0 dX8_nextProbe_20 rfl ?_
    refine r_if_ne 26 dX8_nextProbe_21 (by decide) h (fun h => ?_) (fun h => ?_)
    · refine r_iload_n 0 dX8_nextProbe_26 rfl ?_
      refine r_iconst (v := 1) dX8_nextProbe_27 rfl rfl ?_
      refine r_aload_n 1 dX8_nextProbe_28 rfl ?_
      refine r_iload_n 2 dX8_nextProbe_29 rfl ?_
      refine r_iconst (v := 0) dX8_nextProbe_30 rfl rfl ?_
      refine r_callV (K' := Y_X8_bestOf) (R' := R_X8_bestOf) (idx := 209) (n := 2) (b := a0) (as := [(0, a1), (0, 0)]) (rest := [(0, 1), (0, x5)]) (C' := 0) (D' := 0) (cn := 8) rfl k0_X8_bestOf kV_X8_bestOf kl_X8_209 ⟨by decide, by decide⟩ dX8_nextProbe_31 rfl rfl (Nat.le_of_ble_eq_true rfl) (by decide) (by decide) rfl h (fun r hr => m_X8_bestOf hl0 ⟨r, hr, hr⟩) (fun x7 τ8 _ h => ?_)
      refine r_ishl dX8_nextProbe_34 ?_
      refine r_ior dX8_nextProbe_35 ?_
      refine r_istore_n (L' := [(2, (0, (zor x5 (zshl 1 x7)))), (0, (4, a0)), (1, (0, a1))]) dX8_nextProbe_36 (by decide) rfl ?_
      refine r_iconst (v := (-1)) dX8_nextProbe_37 rfl rfl ?_
      refine r_istore_n (L' := [(3, (0, (-1))), (2, (0, (zor x5 (zshl 1 x7)))), (0, (4, a0)), (1, (0, a1))]) dX8_nextProbe_38 (by decide) rfl ?_
      refine r_iconst (v := (-1)) dX8_nextProbe_39 rfl rfl ?_
      refine r_istore (L' := [(4, (0, (-1))), (3, (0, (-1))), (2, (0, (zor x5 (zshl 1 x7)))), (0, (4, a0)), (1, (0, a1))]) dX8_nextProbe_40 (by decide) rfl ?_
      refine r_iconst (v := 0) dX8_nextProbe_42 rfl rfl ?_
      refine r_istore (L' := [(5, (0, 0)), (4, (0, (-1))), (3, (0, (-1))), (2, (0, (zor x5 (zshl 1 x7)))), (0, (4, a0)), (1, (0, a1))]) dX8_nextProbe_43 (by decide) rfl ?_
      refine r_weak (L' := [(0, (4, a0)), (1, (0, a1)), (2, (0, (zor x5 (zshl 1 x7)))), (3, (0, (-1))), (4, (0, (-1))), (5, (0, 0))]) [4, 5, 3, 2, 1, 0] rfl ?_
      exact t_X8_nextProbe_45 hl0   zFU _ _ _ _ _ _ _ h
    · refine r_iconst (v := (-1)) dX8_nextProbe_24 rfl rfl ?_
      exact r_iret rfl dX8_nextProbe_25 h
  · refine r_iconst (v := 0) dX8_nextProbe_12 rfl rfl ?_
    exact r_iret rfl dX8_nextProbe_13 h
theorem m_X8_nextProbe {g : zF} (hl0 : g.2.2.2.1.stackTraces = false) {Q : zR × zS → Prop} {a0 a1 : Int} {σ : zS} (h : zo (f_X8_nextProbe a0 a1 σ) Q) : zm g Y_X8_nextProbe R_X8_nextProbe [(4, a0), (0, a1)] σ Q := zm_of (by decide) rfl (Nat.le_of_ble_eq_true rfl) (t_X8_nextProbe hl0 h)

