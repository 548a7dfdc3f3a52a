/- X7_checkAgent -/

set_option maxRecDepth 100000 in
set_option maxHeartbeats 4000000 in
theorem t_X7_checkAgent {g : zF} (hl0 : g.2.2.2.1.stackTraces = false) {Q : zR × zS → Prop}   {a0 a1 : Int} {σ : zS} (h : zo (f_X7_checkAgent  a0 a1 σ) Q) : zw g Y_X7_checkAgent R_X7_checkAgent 0 [(0, (4, a0)), (1, (0, a1))] [] σ 0 0 Q := by
  unfold f_X7_checkAgent at h
  refine r_iload_n 1 dX7_checkAgent_0 rfl ?_
  refine r_if_lt 18 dX7_checkAgent_1 (by decide) h (fun h => ?_) (fun h => ?_)
  · obtain ⟨r, h, -⟩ := h
    cases h
  · refine r_iload_n 1 dX7_checkAgent_4 rfl ?_
    refine r_aload_n 0 dX7_checkAgent_5 rfl ?_
    refine r_getr fd_X7_31 rfl dX7_checkAgent_6 h (fun x1 h => ?_)
    refine r_getr fd_X7_87 rfl dX7_checkAgent_9 h (fun x2 h => ?_)
    refine r_getf fd_X7_91 rfl dX7_checkAgent_12 h (fun x3 h => ?_)
    refine r_icmp_lt 29 dX7_checkAgent_15 (by decide) h (fun h => ?_) (fun h => ?_)
    · exact r_vret rfl dX7_checkAgent_29 h
    · obtain ⟨r, h, -⟩ := h
      cases h
theorem m_X7_checkAgent {g : zF} (hl0 : g.2.2.2.1.stackTraces = false) {Q : zR × zS → Prop} {a0 a1 : Int} {σ : zS} (h : zo (f_X7_checkAgent a0 a1 σ) Q) : zm g Y_X7_checkAgent R_X7_checkAgent [(4, a0), (0, a1)] σ Q := zm_of (by decide) rfl (Nat.le_of_ble_eq_true rfl) (t_X7_checkAgent hl0 h)


/- X7_trust -/

set_option maxRecDepth 100000 in
set_option maxHeartbeats 4000000 in
theorem t_X7_trust {g : zF} (hl0 : g.2.2.2.1.stackTraces = false) {Q : zR × zS → Prop}   {a0 a1 a2 : Int} {σ : zS} (h : zo (f_X7_trust  a0 a1 a2 σ) Q) : zw g Y_X7_trust R_X7_trust 0 [(0, (4, a0)), (1, (0, a1)), (2, (0, a2))] [] σ 0 0 Q := by
  unfold f_X7_trust at h
  refine r_aload_n 0 dX7_trust_0 rfl ?_
  refine r_iload_n 1 dX7_trust_1 rfl ?_
  refine r_callV (K' := Y_X7_checkAgent) (R' := R_X7_checkAgent) (idx := 127) (n := 1) (b := a0) (as := [(0, a1)]) (rest := []) (C' := 0) (D' := 0) (cn := 7) rfl k0_X7_checkAgent kV_X7_checkAgent kl_X7_127 ⟨by decide, by decide⟩ dX7_trust_2 rfl rfl (Nat.le_of_ble_eq_true rfl) (by decide) (by decide) rfl h (fun r hr => m_X7_checkAgent hl0 ⟨r, hr, hr⟩) (fun _ τ2 _ h => ?_)
  refine r_aload_n 0 dX7_trust_5 rfl ?_
  refine r_iload_n 2 dX7_trust_6 rfl ?_
  refine r_callV (K' := Y_X7_checkAgent) (R' := R_X7_checkAgent) (idx := 127) (n := 1) (b := a0) (as := [(0, a2)]) (rest := []) (C' := 0) (D' := 0) (cn := 7) rfl k0_X7_checkAgent kV_X7_checkAgent kl_X7_127 ⟨by decide, by decide⟩ dX7_trust_7 rfl rfl (Nat.le_of_ble_eq_true rfl) (by decide) (by decide) rfl h (fun r hr => m_X7_checkAgent hl0 ⟨r, hr, hr⟩) (fun _ τ4 _ h => ?_)
  refine r_aload_n 0 dX7_trust_10 rfl ?_
  refine r_getr fd_X7_31 rfl dX7_trust_11 h (fun x5 h => ?_)
  refine r_iload_n 1 dX7_trust_14 rfl ?_
  refine r_iload_n 2 dX7_trust_15 rfl ?_
  refine r_callV (K' := Y_X1_trustIn) (R' := R_X1_trustIn) (idx := 130) (n := 2) (b := x5) (as := [(0, a1), (0, a2)]) (rest := []) (C' := 0) (D' := 0) (cn := 1) rfl k0_X1_trustIn kV_X1_trustIn kl_X7_130 ⟨by decide, by decide⟩ dX7_trust_16 rfl rfl (Nat.le_of_ble_eq_true rfl) (by decide) (by decide) rfl h (fun r hr => m_X1_trustIn hl0 ⟨r, hr, hr⟩) (fun x6 τ7 _ h => ?_)
  exact r_iret rfl dX7_trust_19 h
theorem m_X7_trust {g : zF} (hl0 : g.2.2.2.1.stackTraces = false) {Q : zR × zS → Prop} {a0 a1 a2 : Int} {σ : zS} (h : zo (f_X7_trust a0 a1 a2 σ) Q) : zm g Y_X7_trust R_X7_trust [(4, a0), (0, a1), (0, a2)] σ Q := zm_of (by decide) rfl (Nat.le_of_ble_eq_true rfl) (t_X7_trust hl0 h)


/- X7_reports -/

set_option maxRecDepth 100000 in
set_option maxHeartbeats 4000000 in
theorem t_X7_reports {g : zF} (hl0 : g.2.2.2.1.stackTraces = false) {Q : zR × zS → Prop}   {a0 a1 : Int} {σ : zS} (h : zo (f_X7_reports  a0 a1 σ) Q) : zw g Y_X7_reports R_X7_reports 0 [(0, (4, a0)), (1, (0, a1))] [] σ 0 0 Q := by
  unfold f_X7_reports at h
  refine r_aload_n 0 dX7_reports_0 rfl ?_
  refine r_iload_n 1 dX7_reports_1 rfl ?_
  refine r_callV (K' := Y_X7_checkAgent) (R' := R_X7_checkAgent) (idx := 127) (n := 1) (b := a0) (as := [(0, a1)]) (rest := []) (C' := 0) (D' := 0) (cn := 7) rfl k0_X7_checkAgent kV_X7_checkAgent kl_X7_127 ⟨by decide, by decide⟩ dX7_reports_2 rfl rfl (Nat.le_of_ble_eq_true rfl) (by decide) (by decide) rfl h (fun r hr => m_X7_checkAgent hl0 ⟨r, hr, hr⟩) (fun _ τ2 _ h => ?_)
  refine r_aload_n 0 dX7_reports_5 rfl ?_
  refine r_getr fd_X7_31 rfl dX7_reports_6 h (fun x3 h => ?_)
  refine r_iload_n 1 dX7_reports_9 rfl ?_
  refine r_callV (K' := Y_X1_listOf) (R' := R_X1_listOf) (idx := 144) (n := 1) (b := x3) (as := [(0, a1)]) (rest := []) (C' := 0) (D' := 0) (cn := 1) rfl k0_X1_listOf kV_X1_listOf kl_X7_144 ⟨by decide, by decide⟩ dX7_reports_10 rfl rfl (Nat.le_of_ble_eq_true rfl) (by decide) (by decide) rfl h (fun r hr => m_X1_listOf hl0 ⟨r, hr, hr⟩) (fun x4 τ5 _ h => ?_)
  refine r_getf fd_X7_116 rfl dX7_reports_13 h (fun x6 h => ?_)
  exact r_iret rfl dX7_reports_16 h
theorem m_X7_reports {g : zF} (hl0 : g.2.2.2.1.stackTraces = false) {Q : zR × zS → Prop} {a0 a1 : Int} {σ : zS} (h : zo (f_X7_reports a0 a1 σ) Q) : zm g Y_X7_reports R_X7_reports [(4, a0), (0, a1)] σ Q := zm_of (by decide) rfl (Nat.le_of_ble_eq_true rfl) (t_X7_reports hl0 h)


/- X7_checkReport -/

set_option maxRecDepth 100000 in
set_option maxHeartbeats 4000000 in
theorem t_X7_checkReport {g : zF} (hl0 : g.2.2.2.1.stackTraces = false) {Q : zR × zS → Prop}   {a0 a1 a2 : Int} {σ : zS} (h : zo (f_X7_checkReport  a0 a1 a2 σ) Q) : zw g Y_X7_checkReport R_X7_checkReport 0 [(0, (4, a0)), (1, (0, a1)), (2, (0, a2))] [] σ 0 0 Q := by
  unfold f_X7_checkReport at h
  refine r_aload_n 0 dX7_checkReport_0 rfl ?_
  refine r_iload_n 1 dX7_checkReport_1 rfl ?_
  refine r_callV (K' := Y_X7_checkAgent) (R' := R_X7_checkAgent) (idx := 127) (n := 1) (b := a0) (as := [(0, a1)]) (rest := []) (C' := 0) (D' := 0) (cn := 7) rfl k0_X7_checkAgent kV_X7_checkAgent kl_X7_127 ⟨by decide, by decide⟩ dX7_checkReport_2 rfl rfl (Nat.le_of_ble_eq_true rfl) (by decide) (by decide) rfl h (fun r hr => m_X7_checkAgent hl0 ⟨r, hr, hr⟩) (fun _ τ2 _ h => ?_)
  refine r_iload_n 2 dX7_checkReport_5 rfl ?_
  refine r_if_lt 24 dX7_checkReport_6 (by decide) h (fun h => ?_) (fun h => ?_)
  · obtain ⟨r, h, -⟩ := h
    cases h
  · refine r_iload_n 2 dX7_checkReport_9 rfl ?_
    refine r_aload_n 0 dX7_checkReport_10 rfl ?_
    refine r_getr fd_X7_31 rfl dX7_checkReport_11 h (fun x3 h => ?_)
    refine r_iload_n 1 dX7_checkReport_14 rfl ?_
    refine r_callV (K' := Y_X1_listOf) (R' := R_X1_listOf) (idx := 144) (n := 1) (b := x3) (as := [(0, a1)]) (rest := [(0, a2)]) (C' := 0) (D' := 0) (cn := 1) rfl k0_X1_listOf kV_X1_listOf kl_X7_144 ⟨by decide, by decide⟩ dX7_checkReport_15 rfl rfl (Nat.le_of_ble_eq_true rfl) (by decide) (by decide) rfl h (fun r hr => m_X1_listOf hl0 ⟨r, hr, hr⟩) (fun x4 τ5 _ h => ?_)
    refine r_getf fd_X7_116 rfl dX7_checkReport_18 h (fun x6 h => ?_)
    refine r_icmp_lt 35 dX7_checkReport_21 (by decide) h (fun h => ?_) (fun h => ?_)
    · exact r_vret rfl dX7_checkReport_35 h
    · obtain ⟨r, h, -⟩ := h
      cases h
theorem m_X7_checkReport {g : zF} (hl0 : g.2.2.2.1.stackTraces = false) {Q : zR × zS → Prop} {a0 a1 a2 : Int} {σ : zS} (h : zo (f_X7_checkReport a0 a1 a2 σ) Q) : zm g Y_X7_checkReport R_X7_checkReport [(4, a0), (0, a1), (0, a2)] σ Q := zm_of (by decide) rfl (Nat.le_of_ble_eq_true rfl) (t_X7_checkReport hl0 h)


/- X7_report -/

set_option maxRecDepth 100000 in
set_option maxHeartbeats 4000000 in
theorem t_X7_report {g : zF} (hl0 : g.2.2.2.1.stackTraces = false) {Q : zR × zS → Prop}   {a0 a1 a2 a3 : Int} {σ : zS} (h : zo (f_X7_report  a0 a1 a2 a3 σ) Q) : zw g Y_X7_report R_X7_report 0 [(0, (4, a0)), (1, (0, a1)), (2, (0, a2)), (3, (0, a3))] [] σ 0 0 Q := by
  unfold f_X7_report at h
  refine r_aload_n 0 dX7_report_0 rfl ?_
  refine r_iload_n 1 dX7_report_1 rfl ?_
  refine r_iload_n 2 dX7_report_2 rfl ?_
  refine r_callV (K' := Y_X7_checkReport) (R' := R_X7_checkReport) (idx := 148) (n := 2) (b := a0) (as := [(0, a1), (0, a2)]) (rest := []) (C' := 0) (D' := 0) (cn := 7) rfl k0_X7_checkReport kV_X7_checkReport kl_X7_148 ⟨by decide, by decide⟩ dX7_report_3 rfl rfl (Nat.le_of_ble_eq_true rfl) (by decide) (by decide) rfl h (fun r hr => m_X7_checkReport hl0 ⟨r, hr, hr⟩) (fun _ τ2 _ h => ?_)
  refine r_iload_n 3 dX7_report_6 rfl ?_
  refine r_iconst (v := 0) dX7_report_7 rfl rfl ?_
  refine r_bipush (v := 6) dX7_report_8 rfl rfl ?_
  refine r_callS (K' := Y_X7_checkRange) (R' := R_X7_checkRange) (idx := 72) (n := 3) (as := [(0, a3), (0, 0), (0, 6)]) (rest := []) (C' := 0) (D' := 0) rfl k0_X7_checkRange wd_722 kl_X7_72 ⟨by decide, by decide⟩ dX7_report_10 rfl rfl (Nat.le_of_ble_eq_true rfl) (by decide) (by decide) h (fun r hr => m_X7_checkRange hl0 ⟨r, hr, hr⟩) (fun _ τ4 _ h => ?_)
  refine r_aload_n 0 dX7_report_13 rfl ?_
  refine r_getr fd_X7_31 rfl dX7_report_14 h (fun x5 h => ?_)
  refine r_iload_n 1 dX7_report_17 rfl ?_
  refine r_callV (K' := Y_X1_listOf) (R' := R_X1_listOf) (idx := 144) (n := 1) (b := x5) (as := [(0, a1)]) (rest := []) (C' := 0) (D' := 0) (cn := 1) rfl k0_X1_listOf kV_X1_listOf kl_X7_144 ⟨by decide, by decide⟩ dX7_report_18 rfl rfl (Nat.le_of_ble_eq_true rfl) (by decide) (by decide) rfl h (fun r hr => m_X1_listOf hl0 ⟨r, hr, hr⟩) (fun x6 τ7 _ h => ?_)
  refine r_iload_n 2 dX7_report_21 rfl ?_
  refine r_iload_n 3 dX7_report_22 rfl ?_
  refine r_callV (K' := Y_X5_get) (R' := R_X5_get) (idx := 152) (n := 2) (b := x6) (as := [(0, a2), (0, a3)]) (rest := []) (C' := 0) (D' := 0) (cn := 5) rfl k0_X5_get kV_X5_get kl_X7_152 ⟨by decide, by decide⟩ dX7_report_23 rfl rfl (Nat.le_of_ble_eq_true rfl) (by decide) (by decide) rfl h (fun r hr => m_X5_get hl0 ⟨r, hr, hr⟩) (fun x8 τ9 _ h => ?_)
  exact r_iret rfl dX7_report_26 h
theorem m_X7_report {g : zF} (hl0 : g.2.2.2.1.stackTraces = false) {Q : zR × zS → Prop} {a0 a1 a2 a3 : Int} {σ : zS} (h : zo (f_X7_report a0 a1 a2 a3 σ) Q) : zm g Y_X7_report R_X7_report [(4, a0), (0, a1), (0, a2), (0, a3)] σ Q := zm_of (by decide) rfl (Nat.le_of_ble_eq_true rfl) (t_X7_report hl0 h)


/- X7_statusIn -/

set_option maxRecDepth 100000 in
set_option maxHeartbeats 4000000 in
theorem t_X7_statusIn {g : zF} (hl0 : g.2.2.2.1.stackTraces = false) {Q : zR × zS → Prop}   {a0 a1 a2 : Int} {σ : zS} (h : zo (f_X7_statusIn  a0 a1 a2 σ) Q) : zw g Y_X7_statusIn R_X7_statusIn 0 [(0, (4, a0)), (1, (0, a1)), (2, (0, a2))] [] σ 0 0 Q := by
  unfold f_X7_statusIn at h
  refine r_aload_n 0 dX7_statusIn_0 rfl ?_
  refine r_getr fd_X7_24 rfl dX7_statusIn_1 h (fun x1 h => ?_)
  refine r_aload_n 0 dX7_statusIn_4 rfl ?_
  refine r_getr fd_X7_31 rfl dX7_statusIn_5 h (fun x2 h => ?_)
  refine r_iload_n 1 dX7_statusIn_8 rfl ?_
  refine r_aload_n 0 dX7_statusIn_9 rfl ?_
  refine r_getr fd_X7_31 rfl dX7_statusIn_10 h (fun x3 h => ?_)
  refine r_iload_n 1 dX7_statusIn_13 rfl ?_
  refine r_callV (K' := Y_X1_listOf) (R' := R_X1_listOf) (idx := 144) (n := 1) (b := x3) (as := [(0, a1)]) (rest := [(0, a1), (4, x2), (4, x1)]) (C' := 0) (D' := 0) (cn := 1) rfl k0_X1_listOf kV_X1_listOf kl_X7_144 ⟨by decide, by decide⟩ dX7_statusIn_14 rfl rfl (Nat.le_of_ble_eq_true rfl) (by decide) (by decide) rfl h (fun r hr => m_X1_listOf hl0 ⟨r, hr, hr⟩) (fun x4 τ5 _ h => ?_)
  refine r_iload_n 2 dX7_statusIn_17 rfl ?_
  refine r_iconst (v := 3) dX7_statusIn_18 rfl rfl ?_
  refine r_callV (K' := Y_X5_get) (R' := R_X5_get) (idx := 152) (n := 2) (b := x4) (as := [(0, a2), (0, 3)]) (rest := [(0, a1), (4, x2), (4, x1)]) (C' := 0) (D' := 0) (cn := 5) rfl k0_X5_get kV_X5_get kl_X7_152 ⟨by decide, by decide⟩ dX7_statusIn_19 rfl rfl (Nat.le_of_ble_eq_true rfl) (by decide) (by decide) rfl h (fun r hr => m_X5_get hl0 ⟨r, hr, hr⟩) (fun x6 τ7 _ h => ?_)
  refine r_iconst (v := (-1)) dX7_statusIn_22 rfl rfl ?_
  refine r_callV (K' := Y_X6_form) (R' := R_X6_form) (idx := 181) (n := 4) (b := x1) (as := [(4, x2), (0, a1), (0, x6), (0, (-1))]) (rest := []) (C' := 0) (D' := 0) (cn := 6) rfl k0_X6_form kV_X6_form kl_X7_181 ⟨by decide, by decide⟩ dX7_statusIn_23 rfl rfl (Nat.le_of_ble_eq_true rfl) (by decide) (by decide) rfl h (fun r hr => m_X6_form hl0 ⟨r, hr, hr⟩) (fun _ τ9 _ h => ?_)
  refine r_aload_n 0 dX7_statusIn_26 rfl ?_
  refine r_getr fd_X7_24 rfl dX7_statusIn_27 h (fun x10 h => ?_)
  refine r_iload_n 2 dX7_statusIn_30 rfl ?_
  refine r_callV (K' := Y_X6_statusOf) (R' := R_X6_statusOf) (idx := 340) (n := 1) (b := x10) (as := [(0, a2)]) (rest := []) (C' := 0) (D' := 0) (cn := 6) rfl k0_X6_statusOf kV_X6_statusOf kl_X7_340 ⟨by decide, by decide⟩ dX7_statusIn_31 rfl rfl (Nat.le_of_ble_eq_true rfl) (by decide) (by decide) rfl h (fun r hr => m_X6_statusOf hl0 ⟨r, hr, hr⟩) (fun x11 τ12 _ h => ?_)
  exact r_iret rfl dX7_statusIn_34 h
theorem m_X7_statusIn {g : zF} (hl0 : g.2.2.2.1.stackTraces = false) {Q : zR × zS → Prop} {a0 a1 a2 : Int} {σ : zS} (h : zo (f_X7_statusIn a0 a1 a2 σ) Q) : zm g Y_X7_statusIn R_X7_statusIn [(4, a0), (0, a1), (0, a2)] σ Q := zm_of (by decide) rfl (Nat.le_of_ble_eq_true rfl) (t_X7_statusIn hl0 h)


/- X7_status -/

set_option maxRecDepth 100000 in
set_option maxHeartbeats 4000000 in
theorem t_X7_status {g : zF} (hl0 : g.2.2.2.1.stackTraces = false) {Q : zR × zS → Prop}   {a0 a1 a2 : Int} {σ : zS} (h : zo (f_X7_status  a0 a1 a2 σ) Q) : zw g Y_X7_status R_X7_status 0 [(0, (4, a0)), (1, (0, a1)), (2, (0, a2))] [] σ 0 0 Q := by
  unfold f_X7_status at h
  refine r_aload_n 0 dX7_status_0 rfl ?_
  refine r_iload_n 1 dX7_status_1 rfl ?_
  refine r_iload_n 2 dX7_status_2 rfl ?_
  refine r_callV (K' := Y_X7_checkReport) (R' := R_X7_checkReport) (idx := 148) (n := 2) (b := a0) (as := [(0, a1), (0, a2)]) (rest := []) (C' := 0) (D' := 0) (cn := 7) rfl k0_X7_checkReport kV_X7_checkReport kl_X7_148 ⟨by decide, by decide⟩ dX7_status_3 rfl rfl (Nat.le_of_ble_eq_true rfl) (by decide) (by decide) rfl h (fun r hr => m_X7_checkReport hl0 ⟨r, hr, hr⟩) (fun _ τ2 _ h => ?_)
  refine r_aload_n 0 dX7_status_6 rfl ?_
  refine r_iload_n 1 dX7_status_7 rfl ?_
  refine r_iload_n 2 dX7_status_8 rfl ?_
  refine r_callV (K' := Y_X7_statusIn) (R' := R_X7_statusIn) (idx := 155) (n := 2) (b := a0) (as := [(0, a1), (0, a2)]) (rest := []) (C' := 0) (D' := 0) (cn := 7) rfl k0_X7_statusIn kV_X7_statusIn kl_X7_155 ⟨by decide, by decide⟩ dX7_status_9 rfl rfl (Nat.le_of_ble_eq_true rfl) (by decide) (by decide) rfl h (fun r hr => m_X7_statusIn hl0 ⟨r, hr, hr⟩) (fun x3 τ4 _ h => ?_)
  exact r_iret rfl dX7_status_12 h
theorem m_X7_status {g : zF} (hl0 : g.2.2.2.1.stackTraces = false) {Q : zR × zS → Prop} {a0 a1 a2 : Int} {σ : zS} (h : zo (f_X7_status a0 a1 a2 σ) Q) : zm g Y_X7_status R_X7_status [(4, a0), (0, a1), (0, a2)] σ Q := zm_of (by decide) rfl (Nat.le_of_ble_eq_true rfl) (t_X7_status hl0 h)


/- X7_moved -/

set_option maxRecDepth 100000 in
set_option maxHeartbeats 4000000 in
theorem t_X7_moved_52 {g : zF} (hl0 : g.2.2.2.1.stackTraces = false) {Q : zR × zS → Prop}   {a0 a1 a2 a3 a4 : Int} {σ : zS} (h : zo (f_X7_moved_52  a0 a1 a2 a3 a4 σ) Q) : zw g Y_X7_moved R_X7_moved 52 [(0, (4, a0)), (1, (0, a1)), (2, (0, a2)), (3, (0, a3)), (4, (4, a4))] [] σ 0 0 Q := by
  unfold f_X7_moved_52 at h
  refine r_aload_n 0 dX7_moved_52 rfl ?_
  refine r_getr fd_X7_31 rfl dX7_moved_53 h (fun x1 h => ?_)
  refine r_iload_n 1 dX7_moved_56 rfl ?_
  refine r_iload_n 2 dX7_moved_57 rfl ?_
  refine r_callV (K' := Y_X1_beliefSpread) (R' := R_X1_beliefSpread) (idx := 158) (n := 2) (b := x1) (as := [(0, a1), (0, a2)]) (rest := []) (C' := 0) (D' := 0) (cn := 1) rfl k0_X1_beliefSpread kV_X1_beliefSpread kl_X7_158 ⟨by decide, by decide⟩ dX7_moved_58 rfl rfl (Nat.le_of_ble_eq_true rfl) (by decide) (by decide) rfl h (fun r hr => m_X1_beliefSpread hl0 ⟨r, hr, hr⟩) (fun x2 τ3 _ h => ?_)
  refine r_istore (L' := [(6, (0, x2)), (0, (4, a0)), (1, (0, a1)), (2, (0, a2)), (3, (0, a3)), (4, (4, a4))]) dX7_moved_61 (by decide) rfl ?_
  refine r_iload_n 4 dX7_moved_63 rfl ?_
  refine r_if_ne 78 dX7_moved_64 (by decide) h (fun h => ?_) (fun h => ?_)
  · refine r_aload 5 dX7_moved_78 rfl ?_
    refine r_iload_n 3 dX7_moved_80 rfl ?_
    refine r_iload 0 dX7_moved_81 rfl ?_
    refine r_callV (K' := Y_X5_highMoved) (R' := R_X5_highMoved) (idx := 164) (n := 2) (b := a4) (as := [(0, a2), (0, x2)]) (rest := []) (C' := 0) (D' := 0) (cn := 5) rfl k0_X5_highMoved kV_X5_highMoved kl_X7_164 ⟨by decide, by decide⟩ dX7_moved_83 rfl rfl (Nat.le_of_ble_eq_true rfl) (by decide) (by decide) rfl h (fun r hr => m_X5_highMoved hl0 ⟨r, hr, hr⟩) (fun x4 τ5 _ h => ?_)
    exact r_iret rfl dX7_moved_86 h
  · refine r_aload 5 dX7_moved_67 rfl ?_
    refine r_iload_n 3 dX7_moved_69 rfl ?_
    refine r_iload 0 dX7_moved_70 rfl ?_
    refine r_callV (K' := Y_X5_lowMoved) (R' := R_X5_lowMoved) (idx := 161) (n := 2) (b := a4) (as := [(0, a2), (0, x2)]) (rest := []) (C' := 0) (D' := 0) (cn := 5) rfl k0_X5_lowMoved kV_X5_lowMoved kl_X7_161 ⟨by decide, by decide⟩ dX7_moved_72 rfl rfl (Nat.le_of_ble_eq_true rfl) (by decide) (by decide) rfl h (fun r hr => m_X5_lowMoved hl0 ⟨r, hr, hr⟩) (fun x6 τ7 _ h => ?_)
    refine r_goto 86 dX7_moved_75 (by decide) ?_
    exact r_iret rfl dX7_moved_86 h

set_option maxRecDepth 100000 in
set_option maxHeartbeats 4000000 in
theorem t_X7_moved {g : zF} (hl0 : g.2.2.2.1.stackTraces = false) {Q : zR × zS → Prop}   {a0 a1 a2 a3 : Int} {σ : zS} (h : zo (f_X7_moved  a0 a1 a2 a3 σ) Q) : zw g Y_X7_moved R_X7_moved 0 [(0, (4, a0)), (1, (0, a1)), (2, (0, a2)), (3, (0, a3))] [] σ 0 0 Q := by
  unfold f_X7_moved at h
  refine r_aload_n 0 dX7_moved_0 rfl ?_
  refine r_iload_n 1 dX7_moved_1 rfl ?_
  refine r_iload_n 2 dX7_moved_2 rfl ?_
  refine r_callV (K' := Y_X7_checkReport) (R' := R_X7_checkReport) (idx := 148) (n := 2) (b := a0) (as := [(0, a1), (0, a2)]) (rest := []) (C' := 0) (D' := 0) (cn := 7) rfl k0_X7_checkReport kV_X7_checkReport kl_X7_148 ⟨by decide, by decide⟩ dX7_moved_3 rfl rfl (Nat.le_of_ble_eq_true rfl) (by decide) (by decide) rfl h (fun r hr => m_X7_checkReport hl0 ⟨r, hr, hr⟩) (fun _ τ2 _ h => ?_)
  refine r_iload_n 3 dX7_moved_6 rfl ?_
  refine r_iconst (v := 0) dX7_moved_7 rfl rfl ?_
  refine r_iconst (v := 1) dX7_moved_8 rfl rfl ?_
  refine r_callS (K' := Y_X7_checkRange) (R' := R_X7_checkRange) (idx := 72) (n := 3) (as := [(0, a3), (0, 0), (0, 1)]) (rest := []) (C' := 0) (D' := 0) rfl k0_X7_checkRange wd_722 kl_X7_72 ⟨by decide, by decide⟩ dX7_moved_9 rfl rfl (Nat.le_of_ble_eq_true rfl) (by decide) (by decide) h (fun r hr => m_X7_checkRange hl0 ⟨r, hr, hr⟩) (fun _ τ4 _ h => ?_)
  refine r_aload_n 0 dX7_moved_12 rfl ?_
  refine r_getr fd_X7_31 rfl dX7_moved_13 h (fun x5 h => ?_)
  refine r_iload_n 1 dX7_moved_16 rfl ?_
  refine r_callV (K' := Y_X1_listOf) (R' := R_X1_listOf) (idx := 144) (n := 1) (b := x5) (as := [(0, a1)]) (rest := []) (C' := 0) (D' := 0) (cn := 1) rfl k0_X1_listOf kV_X1_listOf kl_X7_144 ⟨by decide, by decide⟩ dX7_moved_17 rfl rfl (Nat.le_of_ble_eq_true rfl) (by decide) (by decide) rfl h (fun r hr => m_X1_listOf hl0 ⟨r, hr, hr⟩) (fun x6 τ7 _ h => ?_)
  refine r_astore (L' := [(4, (4, x6)), (0, (4, a0)), (1, (0, a1)), (2, (0, a2)), (3, (0, a3))]) dX7_moved_20 (by decide) rfl ?_
  refine r_aload 0 dX7_moved_22 rfl ?_
  refine r_iload_n 3 dX7_moved_24 rfl ?_
  refine r_iconst (v := 1) dX7_moved_25 rfl rfl ?_
  refine r_callV (K' := Y_X5_get) (R' := R_X5_get) (idx := 152) (n := 2) (b := x6) (as := [(0, a2), (0, 1)]) (rest := []) (C' := 0) (D' := 0) (cn := 5) rfl k0_X5_get kV_X5_get kl_X7_152 ⟨by decide, by decide⟩ dX7_moved_26 rfl rfl (Nat.le_of_ble_eq_true rfl) (by decide) (by decide) rfl h (fun r hr => m_X5_get hl0 ⟨r, hr, hr⟩) (fun x8 τ9 _ h => ?_)
  refine r_istore (L' := [(5, (0, x8)), (4, (4, x6)), (0, (4, a0)), (1, (0, a1)), (2, (0, a2)), (3, (0, a3))]) dX7_moved_29 (by decide) rfl ?_
  refine r_iload 0 dX7_moved_31 rfl ?_
  refine r_iload_n 3 dX7_moved_33 rfl ?_
  refine r_icmp_eq 52 dX7_moved_34 (by decide) h (fun h => ?_) (fun h => ?_)
  · refine r_weak (L' := [(0, (4, a0)), (1, (0, a1)), (2, (0, a2)), (3, (0, a3)), (4, (4, x6))]) [2, 3, 4, 5, 1] rfl ?_
    refine r_room (C' := 0) (D' := 0) (by omega) (by omega) ?_
    exact t_X7_moved_52 hl0    h
  · refine r_aload_n 2 dX7_moved_37 rfl ?_
    refine r_getr fd_X7_31 rfl dX7_moved_38 h (fun x10 h => ?_)
    refine r_iload_n 3 dX7_moved_41 rfl ?_
    refine r_iload 0 dX7_moved_42 rfl ?_
    refine r_callV (K' := Y_X1_isLinked) (R' := R_X1_isLinked) (idx := 134) (n := 2) (b := x10) (as := [(0, a1), (0, x8)]) (rest := []) (C' := 0) (D' := 0) (cn := 1) rfl k0_X1_isLinked kV_X1_isLinked kl_X7_134 ⟨by decide, by decide⟩ dX7_moved_44 rfl rfl (Nat.le_of_ble_eq_true rfl) (by decide) (by decide) rfl h (fun r hr => m_X1_isLinked hl0 ⟨r, hr, hr⟩) (fun x11 τ12 _ h => ?_)
    refine r_if_ne 52 dX7_moved_47 (by decide) h (fun h => ?_) (fun h => ?_)
    · refine r_weak (L' := [(0, (4, a0)), (1, (0, a1)), (2, (0, a2)), (3, (0, a3)), (4, (4, x6))]) [2, 3, 4, 5, 1] rfl ?_
      refine r_room (C' := 0) (D' := 0) (by omega) (by omega) ?_
      exact t_X7_moved_52 hl0    h
    · refine r_iconst (v := (-1)) dX7_moved_50 rfl rfl ?_
      exact r_iret rfl dX7_moved_51 h
theorem m_X7_moved {g : zF} (hl0 : g.2.2.2.1.stackTraces = false) {Q : zR × zS → Prop} {a0 a1 a2 a3 : Int} {σ : zS} (h : zo (f_X7_moved a0 a1 a2 a3 σ) Q) : zm g Y_X7_moved R_X7_moved [(4, a0), (0, a1), (0, a2), (0, a3)] σ Q := zm_of (by decide) rfl (Nat.le_of_ble_eq_true rfl) (t_X7_moved hl0 h)


/- X7_checkWay -/

set_option maxRecDepth 100000 in
set_option maxHeartbeats 4000000 in
theorem t_X7_checkWay {g : zF} (hl0 : g.2.2.2.1.stackTraces = false) {Q : zR × zS → Prop}   {a0 a1 : Int} {σ : zS} (h : zo (f_X7_checkWay  a0 a1 σ) Q) : zw g Y_X7_checkWay R_X7_checkWay 0 [(0, (4, a0)), (1, (0, a1))] [] σ 0 0 Q := by
  unfold f_X7_checkWay at h
  refine r_iload_n 1 dX7_checkWay_0 rfl ?_
  refine r_if_lt 18 dX7_checkWay_1 (by decide) h (fun h => ?_) (fun h => ?_)
  · obtain ⟨r, h, -⟩ := h
    cases h
  · refine r_iload_n 1 dX7_checkWay_4 rfl ?_
    refine r_aload_n 0 dX7_checkWay_5 rfl ?_
    refine r_getr fd_X7_31 rfl dX7_checkWay_6 h (fun x1 h => ?_)
    refine r_getr fd_X7_106 rfl dX7_checkWay_9 h (fun x2 h => ?_)
    refine r_getf fd_X7_91 rfl dX7_checkWay_12 h (fun x3 h => ?_)
    refine r_icmp_lt 29 dX7_checkWay_15 (by decide) h (fun h => ?_) (fun h => ?_)
    · exact r_vret rfl dX7_checkWay_29 h
    · obtain ⟨r, h, -⟩ := h
      cases h
theorem m_X7_checkWay {g : zF} (hl0 : g.2.2.2.1.stackTraces = false) {Q : zR × zS → Prop} {a0 a1 : Int} {σ : zS} (h : zo (f_X7_checkWay a0 a1 σ) Q) : zm g Y_X7_checkWay R_X7_checkWay [(4, a0), (0, a1)] σ Q := zm_of (by decide) rfl (Nat.le_of_ble_eq_true rfl) (t_X7_checkWay hl0 h)


/- X7_own -/

set_option maxRecDepth 100000 in
set_option maxHeartbeats 4000000 in
theorem t_X7_own {g : zF} (hl0 : g.2.2.2.1.stackTraces = false) {Q : zR × zS → Prop}   {a0 a1 a2 : Int} {σ : zS} (h : zo (f_X7_own  a0 a1 a2 σ) Q) : zw g Y_X7_own R_X7_own 0 [(0, (4, a0)), (1, (0, a1)), (2, (0, a2))] [] σ 0 0 Q := by
  unfold f_X7_own at h
  refine r_aload_n 0 dX7_own_0 rfl ?_
  refine r_iload_n 1 dX7_own_1 rfl ?_
  refine r_callV (K' := Y_X7_checkAgent) (R' := R_X7_checkAgent) (idx := 127) (n := 1) (b := a0) (as := [(0, a1)]) (rest := []) (C' := 0) (D' := 0) (cn := 7) rfl k0_X7_checkAgent kV_X7_checkAgent kl_X7_127 ⟨by decide, by decide⟩ dX7_own_2 rfl rfl (Nat.le_of_ble_eq_true rfl) (by decide) (by decide) rfl h (fun r hr => m_X7_checkAgent hl0 ⟨r, hr, hr⟩) (fun _ τ2 _ h => ?_)
  refine r_aload_n 0 dX7_own_5 rfl ?_
  refine r_iload_n 2 dX7_own_6 rfl ?_
  refine r_callV (K' := Y_X7_checkWay) (R' := R_X7_checkWay) (idx := 167) (n := 1) (b := a0) (as := [(0, a2)]) (rest := []) (C' := 0) (D' := 0) (cn := 7) rfl k0_X7_checkWay kV_X7_checkWay kl_X7_167 ⟨by decide, by decide⟩ dX7_own_7 rfl rfl (Nat.le_of_ble_eq_true rfl) (by decide) (by decide) rfl h (fun r hr => m_X7_checkWay hl0 ⟨r, hr, hr⟩) (fun _ τ4 _ h => ?_)
  refine r_aload_n 0 dX7_own_10 rfl ?_
  refine r_getr fd_X7_31 rfl dX7_own_11 h (fun x5 h => ?_)
  refine r_iload_n 1 dX7_own_14 rfl ?_
  refine r_callV (K' := Y_X1_listOf) (R' := R_X1_listOf) (idx := 144) (n := 1) (b := x5) (as := [(0, a1)]) (rest := []) (C' := 0) (D' := 0) (cn := 1) rfl k0_X1_listOf kV_X1_listOf kl_X7_144 ⟨by decide, by decide⟩ dX7_own_15 rfl rfl (Nat.le_of_ble_eq_true rfl) (by decide) (by decide) rfl h (fun r hr => m_X1_listOf hl0 ⟨r, hr, hr⟩) (fun x6 τ7 _ h => ?_)
  refine r_iload_n 1 dX7_own_18 rfl ?_
  refine r_iload_n 2 dX7_own_19 rfl ?_
  refine r_callV (K' := Y_X5_rowOf) (R' := R_X5_rowOf) (idx := 170) (n := 2) (b := x6) (as := [(0, a1), (0, a2)]) (rest := []) (C' := 0) (D' := 0) (cn := 5) rfl k0_X5_rowOf kV_X5_rowOf kl_X7_170 ⟨by decide, by decide⟩ dX7_own_20 rfl rfl (Nat.le_of_ble_eq_true rfl) (by decide) (by decide) rfl h (fun r hr => m_X5_rowOf hl0 ⟨r, hr, hr⟩) (fun x8 τ9 _ h => ?_)
  exact r_iret rfl dX7_own_23 h
theorem m_X7_own {g : zF} (hl0 : g.2.2.2.1.stackTraces = false) {Q : zR × zS → Prop} {a0 a1 a2 : Int} {σ : zS} (h : zo (f_X7_own a0 a1 a2 σ) Q) : zm g Y_X7_own R_X7_own [(4, a0), (0, a1), (0, a2)] σ Q := zm_of (by decide) rfl (Nat.le_of_ble_eq_true rfl) (t_X7_own hl0 h)


/- X7_believed -/

set_option maxRecDepth 100000 in
set_option maxHeartbeats 4000000 in
theorem t_X7_believed {g : zF} (hl0 : g.2.2.2.1.stackTraces = false) {Q : zR × zS → Prop}   {a0 a1 a2 a3 a4 : Int} {σ : zS} (h : zo (f_X7_believed  a0 a1 a2 a3 a4 σ) Q) : zw g Y_X7_believed R_X7_believed 0 [(0, (4, a0)), (1, (4, a1)), (2, (0, a2)), (3, (0, a3)), (4, (0, a4))] [] σ 0 0 Q := by
  unfold f_X7_believed at h
  refine r_aload_n 0 dX7_believed_0 rfl ?_
  refine r_getr fd_X7_24 rfl dX7_believed_1 h (fun x1 h => ?_)
  refine r_aload_n 1 dX7_believed_4 rfl ?_
  refine r_iload_n 2 dX7_believed_5 rfl ?_
  refine r_iload_n 3 dX7_believed_6 rfl ?_
  refine r_iconst (v := (-1)) dX7_believed_7 rfl rfl ?_
  refine r_callV (K' := Y_X6_form) (R' := R_X6_form) (idx := 181) (n := 4) (b := x1) (as := [(4, a1), (0, a2), (0, a3), (0, (-1))]) (rest := []) (C' := 0) (D' := 0) (cn := 6) rfl k0_X6_form kV_X6_form kl_X7_181 ⟨by decide, by decide⟩ dX7_believed_8 rfl rfl (Nat.le_of_ble_eq_true rfl) (by decide) (by decide) rfl h (fun r hr => m_X6_form hl0 ⟨r, hr, hr⟩) (fun _ τ3 _ h => ?_)
  refine r_iload 4 dX7_believed_11 rfl ?_
  refine r_if_ne 26 dX7_believed_13 (by decide) h (fun h => ?_) (fun h => ?_)
  · refine r_aload_n 0 dX7_believed_26 rfl ?_
    refine r_getr fd_X7_24 rfl dX7_believed_27 h (fun x4 h => ?_)
    refine r_getf fd_X7_297 rfl dX7_believed_30 h (fun x5 h => ?_)
    exact r_iret rfl dX7_believed_33 h
  · refine r_aload_n 0 dX7_believed_16 rfl ?_
    refine r_getr fd_X7_24 rfl dX7_believed_17 h (fun x6 h => ?_)
    refine r_getf fd_X7_294 rfl dX7_believed_20 h (fun x7 h => ?_)
    refine r_goto 33 dX7_believed_23 (by decide) ?_
    exact r_iret rfl dX7_believed_33 h
theorem m_X7_believed {g : zF} (hl0 : g.2.2.2.1.stackTraces = false) {Q : zR × zS → Prop} {a0 a1 a2 a3 a4 : Int} {σ : zS} (h : zo (f_X7_believed a0 a1 a2 a3 a4 σ) Q) : zm g Y_X7_believed R_X7_believed [(4, a0), (4, a1), (0, a2), (0, a3), (0, a4)] σ Q := zm_of (by decide) rfl (Nat.le_of_ble_eq_true rfl) (t_X7_believed hl0 h)


/- X7_belief -/

set_option maxRecDepth 100000 in
set_option maxHeartbeats 4000000 in
theorem t_X7_belief {g : zF} (hl0 : g.2.2.2.1.stackTraces = false) {Q : zR × zS → Prop}   {a0 a1 a2 a3 : Int} {σ : zS} (h : zo (f_X7_belief  a0 a1 a2 a3 σ) Q) : zw g Y_X7_belief R_X7_belief 0 [(0, (4, a0)), (1, (0, a1)), (2, (0, a2)), (3, (0, a3))] [] σ 0 0 Q := by
  unfold f_X7_belief at h
  refine r_aload_n 0 dX7_belief_0 rfl ?_
  refine r_iload_n 1 dX7_belief_1 rfl ?_
  refine r_callV (K' := Y_X7_checkAgent) (R' := R_X7_checkAgent) (idx := 127) (n := 1) (b := a0) (as := [(0, a1)]) (rest := []) (C' := 0) (D' := 0) (cn := 7) rfl k0_X7_checkAgent kV_X7_checkAgent kl_X7_127 ⟨by decide, by decide⟩ dX7_belief_2 rfl rfl (Nat.le_of_ble_eq_true rfl) (by decide) (by decide) rfl h (fun r hr => m_X7_checkAgent hl0 ⟨r, hr, hr⟩) (fun _ τ2 _ h => ?_)
  refine r_aload_n 0 dX7_belief_5 rfl ?_
  refine r_iload_n 2 dX7_belief_6 rfl ?_
  refine r_callV (K' := Y_X7_checkWay) (R' := R_X7_checkWay) (idx := 167) (n := 1) (b := a0) (as := [(0, a2)]) (rest := []) (C' := 0) (D' := 0) (cn := 7) rfl k0_X7_checkWay kV_X7_checkWay kl_X7_167 ⟨by decide, by decide⟩ dX7_belief_7 rfl rfl (Nat.le_of_ble_eq_true rfl) (by decide) (by decide) rfl h (fun r hr => m_X7_checkWay hl0 ⟨r, hr, hr⟩) (fun _ τ4 _ h => ?_)
  refine r_iload_n 3 dX7_belief_10 rfl ?_
  refine r_iconst (v := 0) dX7_belief_11 rfl rfl ?_
  refine r_iconst (v := 1) dX7_belief_12 rfl rfl ?_
  refine r_callS (K' := Y_X7_checkRange) (R' := R_X7_checkRange) (idx := 72) (n := 3) (as := [(0, a3), (0, 0), (0, 1)]) (rest := []) (C' := 0) (D' := 0) rfl k0_X7_checkRange wd_722 kl_X7_72 ⟨by decide, by decide⟩ dX7_belief_13 rfl rfl (Nat.le_of_ble_eq_true rfl) (by decide) (by decide) h (fun r hr => m_X7_checkRange hl0 ⟨r, hr, hr⟩) (fun _ τ6 _ h => ?_)
  refine r_aload_n 0 dX7_belief_16 rfl ?_
  refine r_aload_n 0 dX7_belief_17 rfl ?_
  refine r_getr fd_X7_31 rfl dX7_belief_18 h (fun x7 h => ?_)
  refine r_iload_n 1 dX7_belief_21 rfl ?_
  refine r_iload_n 2 dX7_belief_22 rfl ?_
  refine r_iload_n 3 dX7_belief_23 rfl ?_
  refine r_callV (K' := Y_X7_believed) (R' := R_X7_believed) (idx := 173) (n := 4) (b := a0) (as := [(4, x7), (0, a1), (0, a2), (0, a3)]) (rest := []) (C' := 0) (D' := 0) (cn := 7) rfl k0_X7_believed kV_X7_believed kl_X7_173 ⟨by decide, by decide⟩ dX7_belief_24 rfl rfl (Nat.le_of_ble_eq_true rfl) (by decide) (by decide) rfl h (fun r hr => m_X7_believed hl0 ⟨r, hr, hr⟩) (fun x8 τ9 _ h => ?_)
  exact r_iret rfl dX7_belief_27 h
theorem m_X7_belief {g : zF} (hl0 : g.2.2.2.1.stackTraces = false) {Q : zR × zS → Prop} {a0 a1 a2 a3 : Int} {σ : zS} (h : zo (f_X7_belief a0 a1 a2 a3 σ) Q) : zm g Y_X7_belief R_X7_belief [(4, a0), (0, a1), (0, a2), (0, a3)] σ Q := zm_of (by decide) rfl (Nat.le_of_ble_eq_true rfl) (t_X7_belief hl0 h)


/- X7_originsOf -/

set_option maxRecDepth 100000 in
set_option maxHeartbeats 4000000 in
theorem t_X7_originsOf {g : zF} (hl0 : g.2.2.2.1.stackTraces = false) {Q : zR × zS → Prop}   {a0 a1 a2 a3 : Int} {σ : zS} (h : zo (f_X7_originsOf  a0 a1 a2 a3 σ) Q) : zw g Y_X7_originsOf R_X7_originsOf 0 [(0, (4, a0)), (1, (0, a1)), (2, (0, a2)), (3, (0, a3))] [] σ 0 0 Q := by
  unfold f_X7_originsOf at h
  refine r_aload_n 0 dX7_originsOf_0 rfl ?_
  refine r_getr fd_X7_24 rfl dX7_originsOf_1 h (fun x1 h => ?_)
  refine r_aload_n 0 dX7_originsOf_4 rfl ?_
  refine r_getr fd_X7_31 rfl dX7_originsOf_5 h (fun x2 h => ?_)
  refine r_iload_n 1 dX7_originsOf_8 rfl ?_
  refine r_iload_n 2 dX7_originsOf_9 rfl ?_
  refine r_iconst (v := (-1)) dX7_originsOf_10 rfl rfl ?_
  refine r_callV (K' := Y_X6_form) (R' := R_X6_form) (idx := 181) (n := 4) (b := x1) (as := [(4, x2), (0, a1), (0, a2), (0, (-1))]) (rest := []) (C' := 0) (D' := 0) (cn := 6) rfl k0_X6_form kV_X6_form kl_X7_181 ⟨by decide, by decide⟩ dX7_originsOf_11 rfl rfl (Nat.le_of_ble_eq_true rfl) (by decide) (by decide) rfl h (fun r hr => m_X6_form hl0 ⟨r, hr, hr⟩) (fun _ τ4 _ h => ?_)
  refine r_aload_n 0 dX7_originsOf_14 rfl ?_
  refine r_getr fd_X7_24 rfl dX7_originsOf_15 h (fun x5 h => ?_)
  refine r_iload_n 3 dX7_originsOf_18 rfl ?_
  refine r_callV (K' := Y_X6_originsWith) (R' := R_X6_originsWith) (idx := 343) (n := 1) (b := x5) (as := [(0, a3)]) (rest := []) (C' := 0) (D' := 0) (cn := 6) rfl k0_X6_originsWith kV_X6_originsWith kl_X7_343 ⟨by decide, by decide⟩ dX7_originsOf_19 rfl rfl (Nat.le_of_ble_eq_true rfl) (by decide) (by decide) rfl h (fun r hr => m_X6_originsWith hl0 ⟨r, hr, hr⟩) (fun x6 τ7 _ h => ?_)
  exact r_iret rfl dX7_originsOf_22 h
theorem m_X7_originsOf {g : zF} (hl0 : g.2.2.2.1.stackTraces = false) {Q : zR × zS → Prop} {a0 a1 a2 a3 : Int} {σ : zS} (h : zo (f_X7_originsOf a0 a1 a2 a3 σ) Q) : zm g Y_X7_originsOf R_X7_originsOf [(4, a0), (0, a1), (0, a2), (0, a3)] σ Q := zm_of (by decide) rfl (Nat.le_of_ble_eq_true rfl) (t_X7_originsOf hl0 h)


/- X7_sources -/

set_option maxRecDepth 100000 in
set_option maxHeartbeats 4000000 in
theorem t_X7_sources {g : zF} (hl0 : g.2.2.2.1.stackTraces = false) {Q : zR × zS → Prop}   {a0 a1 a2 : Int} {σ : zS} (h : zo (f_X7_sources  a0 a1 a2 σ) Q) : zw g Y_X7_sources R_X7_sources 0 [(0, (4, a0)), (1, (0, a1)), (2, (0, a2))] [] σ 0 0 Q := by
  unfold f_X7_sources at h
  refine r_aload_n 0 dX7_sources_0 rfl ?_
  refine r_iload_n 1 dX7_sources_1 rfl ?_
  refine r_callV (K' := Y_X7_checkAgent) (R' := R_X7_checkAgent) (idx := 127) (n := 1) (b := a0) (as := [(0, a1)]) (rest := []) (C' := 0) (D' := 0) (cn := 7) rfl k0_X7_checkAgent kV_X7_checkAgent kl_X7_127 ⟨by decide, by decide⟩ dX7_sources_2 rfl rfl (Nat.le_of_ble_eq_true rfl) (by decide) (by decide) rfl h (fun r hr => m_X7_checkAgent hl0 ⟨r, hr, hr⟩) (fun _ τ2 _ h => ?_)
  refine r_aload_n 0 dX7_sources_5 rfl ?_
  refine r_iload_n 2 dX7_sources_6 rfl ?_
  refine r_callV (K' := Y_X7_checkWay) (R' := R_X7_checkWay) (idx := 167) (n := 1) (b := a0) (as := [(0, a2)]) (rest := []) (C' := 0) (D' := 0) (cn := 7) rfl k0_X7_checkWay kV_X7_checkWay kl_X7_167 ⟨by decide, by decide⟩ dX7_sources_7 rfl rfl (Nat.le_of_ble_eq_true rfl) (by decide) (by decide) rfl h (fun r hr => m_X7_checkWay hl0 ⟨r, hr, hr⟩) (fun _ τ4 _ h => ?_)
  refine r_aload_n 0 dX7_sources_10 rfl ?_
  refine r_iload_n 1 dX7_sources_11 rfl ?_
  refine r_iload_n 2 dX7_sources_12 rfl ?_
  refine r_iconst (v := 0) dX7_sources_13 rfl rfl ?_
  refine r_callV (K' := Y_X7_originsOf) (R' := R_X7_originsOf) (idx := 177) (n := 3) (b := a0) (as := [(0, a1), (0, a2), (0, 0)]) (rest := []) (C' := 0) (D' := 0) (cn := 7) rfl k0_X7_originsOf kV_X7_originsOf kl_X7_177 ⟨by decide, by decide⟩ dX7_sources_14 rfl rfl (Nat.le_of_ble_eq_true rfl) (by decide) (by decide) rfl h (fun r hr => m_X7_originsOf hl0 ⟨r, hr, hr⟩) (fun x5 τ6 _ h => ?_)
  exact r_iret rfl dX7_sources_17 h
theorem m_X7_sources {g : zF} (hl0 : g.2.2.2.1.stackTraces = false) {Q : zR × zS → Prop} {a0 a1 a2 : Int} {σ : zS} (h : zo (f_X7_sources a0 a1 a2 σ) Q) : zm g Y_X7_sources R_X7_sources [(4, a0), (0, a1), (0, a2)] σ Q := zm_of (by decide) rfl (Nat.le_of_ble_eq_true rfl) (t_X7_sources hl0 h)


/- X7_contradicted -/

set_option maxRecDepth 100000 in
set_option maxHeartbeats 4000000 in
theorem t_X7_contradicted {g : zF} (hl0 : g.2.2.2.1.stackTraces = false) {Q : zR × zS → Prop}   {a0 a1 a2 : Int} {σ : zS} (h : zo (f_X7_contradicted  a0 a1 a2 σ) Q) : zw g Y_X7_contradicted R_X7_contradicted 0 [(0, (4, a0)), (1, (0, a1)), (2, (0, a2))] [] σ 0 0 Q := by
  unfold f_X7_contradicted at h
  refine r_aload_n 0 dX7_contradicted_0 rfl ?_
  refine r_iload_n 1 dX7_contradicted_1 rfl ?_
  refine r_callV (K' := Y_X7_checkAgent) (R' := R_X7_checkAgent) (idx := 127) (n := 1) (b := a0) (as := [(0, a1)]) (rest := []) (C' := 0) (D' := 0) (cn := 7) rfl k0_X7_checkAgent kV_X7_checkAgent kl_X7_127 ⟨by decide, by decide⟩ dX7_contradicted_2 rfl rfl (Nat.le_of_ble_eq_true rfl) (by decide) (by decide) rfl h (fun r hr => m_X7_checkAgent hl0 ⟨r, hr, hr⟩) (fun _ τ2 _ h => ?_)
  refine r_aload_n 0 dX7_contradicted_5 rfl ?_
  refine r_iload_n 2 dX7_contradicted_6 rfl ?_
  refine r_callV (K' := Y_X7_checkWay) (R' := R_X7_checkWay) (idx := 167) (n := 1) (b := a0) (as := [(0, a2)]) (rest := []) (C' := 0) (D' := 0) (cn := 7) rfl k0_X7_checkWay kV_X7_checkWay kl_X7_167 ⟨by decide, by decide⟩ dX7_contradicted_7 rfl rfl (Nat.le_of_ble_eq_true rfl) (by decide) (by decide) rfl h (fun r hr => m_X7_checkWay hl0 ⟨r, hr, hr⟩) (fun _ τ4 _ h => ?_)
  refine r_aload_n 0 dX7_contradicted_10 rfl ?_
  refine r_iload_n 1 dX7_contradicted_11 rfl ?_
  refine r_iload_n 2 dX7_contradicted_12 rfl ?_
  refine r_iconst (v := 1) dX7_contradicted_13 rfl rfl ?_
  refine r_callV (K' := Y_X7_originsOf) (R' := R_X7_originsOf) (idx := 177) (n := 3) (b := a0) (as := [(0, a1), (0, a2), (0, 1)]) (rest := []) (C' := 0) (D' := 0) (cn := 7) rfl k0_X7_originsOf kV_X7_originsOf kl_X7_177 ⟨by decide, by decide⟩ dX7_contradicted_14 rfl rfl (Nat.le_of_ble_eq_true rfl) (by decide) (by decide) rfl h (fun r hr => m_X7_originsOf hl0 ⟨r, hr, hr⟩) (fun x5 τ6 _ h => ?_)
  exact r_iret rfl dX7_contradicted_17 h
theorem m_X7_contradicted {g : zF} (hl0 : g.2.2.2.1.stackTraces = false) {Q : zR × zS → Prop} {a0 a1 a2 : Int} {σ : zS} (h : zo (f_X7_contradicted a0 a1 a2 σ) Q) : zm g Y_X7_contradicted R_X7_contradicted [(4, a0), (0, a1), (0, a2)] σ Q := zm_of (by decide) rfl (Nat.le_of_ble_eq_true rfl) (t_X7_contradicted hl0 h)


/- X7_majority -/

set_option maxRecDepth 100000 in
set_option maxHeartbeats 4000000 in
theorem t_X7_majority {g : zF} (hl0 : g.2.2.2.1.stackTraces = false) {Q : zR × zS → Prop}   {a0 a1 a2 : Int} {σ : zS} (h : zo (f_X7_majority  a0 a1 a2 σ) Q) : zw g Y_X7_majority R_X7_majority 0 [(0, (4, a0)), (1, (0, a1)), (2, (0, a2))] [] σ 0 0 Q := by
  unfold f_X7_majority at h
  refine r_aload_n 0 dX7_majority_0 rfl ?_
  refine r_iload_n 1 dX7_majority_1 rfl ?_
  refine r_callV (K' := Y_X7_checkAgent) (R' := R_X7_checkAgent) (idx := 127) (n := 1) (b := a0) (as := [(0, a1)]) (rest := []) (C' := 0) (D' := 0) (cn := 7) rfl k0_X7_checkAgent kV_X7_checkAgent kl_X7_127 ⟨by decide, by decide⟩ dX7_majority_2 rfl rfl (Nat.le_of_ble_eq_true rfl) (by decide) (by decide) rfl h (fun r hr => m_X7_checkAgent hl0 ⟨r, hr, hr⟩) (fun _ τ2 _ h => ?_)
  refine r_aload_n 0 dX7_majority_5 rfl ?_
  refine r_iload_n 2 dX7_majority_6 rfl ?_
  refine r_callV (K' := Y_X7_checkWay) (R' := R_X7_checkWay) (idx := 167) (n := 1) (b := a0) (as := [(0, a2)]) (rest := []) (C' := 0) (D' := 0) (cn := 7) rfl k0_X7_checkWay kV_X7_checkWay kl_X7_167 ⟨by decide, by decide⟩ dX7_majority_7 rfl rfl (Nat.le_of_ble_eq_true rfl) (by decide) (by decide) rfl h (fun r hr => m_X7_checkWay hl0 ⟨r, hr, hr⟩) (fun _ τ4 _ h => ?_)
  refine r_aload_n 0 dX7_majority_10 rfl ?_
  refine r_getr fd_X7_24 rfl dX7_majority_11 h (fun x5 h => ?_)
  refine r_aload_n 0 dX7_majority_14 rfl ?_
  refine r_getr fd_X7_31 rfl dX7_majority_15 h (fun x6 h => ?_)
  refine r_iload_n 1 dX7_majority_18 rfl ?_
  refine r_iload_n 2 dX7_majority_19 rfl ?_
  refine r_iconst (v := (-1)) dX7_majority_20 rfl rfl ?_
  refine r_callV (K' := Y_X6_form) (R' := R_X6_form) (idx := 181) (n := 4) (b := x5) (as := [(4, x6), (0, a1), (0, a2), (0, (-1))]) (rest := []) (C' := 0) (D' := 0) (cn := 6) rfl k0_X6_form kV_X6_form kl_X7_181 ⟨by decide, by decide⟩ dX7_majority_21 rfl rfl (Nat.le_of_ble_eq_true rfl) (by decide) (by decide) rfl h (fun r hr => m_X6_form hl0 ⟨r, hr, hr⟩) (fun _ τ8 _ h => ?_)
  refine r_aload_n 0 dX7_majority_24 rfl ?_
  refine r_getr fd_X7_24 rfl dX7_majority_25 h (fun x9 h => ?_)
  refine r_callV (K' := Y_X6_largestSet) (R' := R_X6_largestSet) (idx := 185) (n := 0) (b := x9) (as := []) (rest := []) (C' := 0) (D' := 0) (cn := 6) rfl k0_X6_largestSet kV_X6_largestSet kl_X7_185 ⟨by decide, by decide⟩ dX7_majority_28 rfl rfl (Nat.le_of_ble_eq_true rfl) (by decide) (by decide) rfl h (fun r hr => m_X6_largestSet hl0 ⟨r, hr, hr⟩) (fun x10 τ11 _ h => ?_)
  exact r_iret rfl dX7_majority_31 h
theorem m_X7_majority {g : zF} (hl0 : g.2.2.2.1.stackTraces = false) {Q : zR × zS → Prop} {a0 a1 a2 : Int} {σ : zS} (h : zo (f_X7_majority a0 a1 a2 σ) Q) : zm g Y_X7_majority R_X7_majority [(4, a0), (0, a1), (0, a2)] σ Q := zm_of (by decide) rfl (Nat.le_of_ble_eq_true rfl) (t_X7_majority hl0 h)


/- X7_majorityBound -/

set_option maxRecDepth 100000 in
set_option maxHeartbeats 4000000 in
theorem t_X7_majorityBound {g : zF} (hl0 : g.2.2.2.1.stackTraces = false) {Q : zR × zS → Prop}   {a0 a1 a2 a3 : Int} {σ : zS} (h : zo (f_X7_majorityBound  a0 a1 a2 a3 σ) Q) : zw g Y_X7_majorityBound R_X7_majorityBound 0 [(0, (4, a0)), (1, (0, a1)), (2, (0, a2)), (3, (0, a3))] [] σ 0 0 Q := by
  unfold f_X7_majorityBound at h
  refine r_aload_n 0 dX7_majorityBound_0 rfl ?_
  refine r_iload_n 1 dX7_majorityBound_1 rfl ?_
  refine r_callV (K' := Y_X7_checkAgent) (R' := R_X7_checkAgent) (idx := 127) (n := 1) (b := a0) (as := [(0, a1)]) (rest := []) (C' := 0) (D' := 0) (cn := 7) rfl k0_X7_checkAgent kV_X7_checkAgent kl_X7_127 ⟨by decide, by decide⟩ dX7_majorityBound_2 rfl rfl (Nat.le_of_ble_eq_true rfl) (by decide) (by decide) rfl h (fun r hr => m_X7_checkAgent hl0 ⟨r, hr, hr⟩) (fun _ τ2 _ h => ?_)
  refine r_aload_n 0 dX7_majorityBound_5 rfl ?_
  refine r_iload_n 2 dX7_majorityBound_6 rfl ?_
  refine r_callV (K' := Y_X7_checkWay) (R' := R_X7_checkWay) (idx := 167) (n := 1) (b := a0) (as := [(0, a2)]) (rest := []) (C' := 0) (D' := 0) (cn := 7) rfl k0_X7_checkWay kV_X7_checkWay kl_X7_167 ⟨by decide, by decide⟩ dX7_majorityBound_7 rfl rfl (Nat.le_of_ble_eq_true rfl) (by decide) (by decide) rfl h (fun r hr => m_X7_checkWay hl0 ⟨r, hr, hr⟩) (fun _ τ4 _ h => ?_)
  refine r_iload_n 3 dX7_majorityBound_10 rfl ?_
  refine r_iconst (v := 0) dX7_majorityBound_11 rfl rfl ?_
  refine r_iconst (v := 1) dX7_majorityBound_12 rfl rfl ?_
  refine r_callS (K' := Y_X7_checkRange) (R' := R_X7_checkRange) (idx := 72) (n := 3) (as := [(0, a3), (0, 0), (0, 1)]) (rest := []) (C' := 0) (D' := 0) rfl k0_X7_checkRange wd_722 kl_X7_72 ⟨by decide, by decide⟩ dX7_majorityBound_13 rfl rfl (Nat.le_of_ble_eq_true rfl) (by decide) (by decide) h (fun r hr => m_X7_checkRange hl0 ⟨r, hr, hr⟩) (fun _ τ6 _ h => ?_)
  refine r_aload_n 0 dX7_majorityBound_16 rfl ?_
  refine r_getr fd_X7_24 rfl dX7_majorityBound_17 h (fun x7 h => ?_)
  refine r_aload_n 0 dX7_majorityBound_20 rfl ?_
  refine r_getr fd_X7_31 rfl dX7_majorityBound_21 h (fun x8 h => ?_)
  refine r_iload_n 1 dX7_majorityBound_24 rfl ?_
  refine r_iload_n 2 dX7_majorityBound_25 rfl ?_
  refine r_iconst (v := (-1)) dX7_majorityBound_26 rfl rfl ?_
  refine r_callV (K' := Y_X6_form) (R' := R_X6_form) (idx := 181) (n := 4) (b := x7) (as := [(4, x8), (0, a1), (0, a2), (0, (-1))]) (rest := []) (C' := 0) (D' := 0) (cn := 6) rfl k0_X6_form kV_X6_form kl_X7_181 ⟨by decide, by decide⟩ dX7_majorityBound_27 rfl rfl (Nat.le_of_ble_eq_true rfl) (by decide) (by decide) rfl h (fun r hr => m_X6_form hl0 ⟨r, hr, hr⟩) (fun _ τ10 _ h => ?_)
  refine r_aload_n 0 dX7_majorityBound_30 rfl ?_
  refine r_getr fd_X7_24 rfl dX7_majorityBound_31 h (fun x11 h => ?_)
  refine r_callV (K' := Y_X6_largestSet) (R' := R_X6_largestSet) (idx := 185) (n := 0) (b := x11) (as := []) (rest := []) (C' := 0) (D' := 0) (cn := 6) rfl k0_X6_largestSet kV_X6_largestSet kl_X7_185 ⟨by decide, by decide⟩ dX7_majorityBound_34 rfl rfl (Nat.le_of_ble_eq_true rfl) (by decide) (by decide) rfl h (fun r hr => m_X6_largestSet hl0 ⟨r, hr, hr⟩) (fun x12 τ13 _ h => ?_)
  refine r_istore (L' := [(4, (0, x12)), (0, (4, a0)), (1, (0, a1)), (2, (0, a2)), (3, (0, a3))]) dX7_majorityBound_37 (by decide) rfl ?_
  refine r_iload 0 dX7_majorityBound_39 rfl ?_
  refine r_if_ne 46 dX7_majorityBound_41 (by decide) h (fun h => ?_) (fun h => ?_)
  · refine r_iload_n 4 dX7_majorityBound_46 rfl ?_
    refine r_if_ne 62 dX7_majorityBound_47 (by decide) h (fun h => ?_) (fun h => ?_)
    · refine r_aload_n 1 dX7_majorityBound_62 rfl ?_
      refine r_getr fd_X7_24 rfl dX7_majorityBound_63 h (fun x14 h => ?_)
      refine r_iload 0 dX7_majorityBound_66 rfl ?_
      refine r_callV (K' := Y_X6_highOf) (R' := R_X6_highOf) (idx := 191) (n := 1) (b := x14) (as := [(0, x12)]) (rest := []) (C' := 0) (D' := 0) (cn := 6) rfl k0_X6_highOf kV_X6_highOf kl_X7_191 ⟨by decide, by decide⟩ dX7_majorityBound_68 rfl rfl (Nat.le_of_ble_eq_true rfl) (by decide) (by decide) rfl h (fun r hr => m_X6_highOf hl0 ⟨r, hr, hr⟩) (fun x15 τ16 _ h => ?_)
      exact r_iret rfl dX7_majorityBound_71 h
    · refine r_aload_n 1 dX7_majorityBound_50 rfl ?_
      refine r_getr fd_X7_24 rfl dX7_majorityBound_51 h (fun x17 h => ?_)
      refine r_iload 0 dX7_majorityBound_54 rfl ?_
      refine r_callV (K' := Y_X6_lowOf) (R' := R_X6_lowOf) (idx := 188) (n := 1) (b := x17) (as := [(0, x12)]) (rest := []) (C' := 0) (D' := 0) (cn := 6) rfl k0_X6_lowOf kV_X6_lowOf kl_X7_188 ⟨by decide, by decide⟩ dX7_majorityBound_56 rfl rfl (Nat.le_of_ble_eq_true rfl) (by decide) (by decide) rfl h (fun r hr => m_X6_lowOf hl0 ⟨r, hr, hr⟩) (fun x18 τ19 _ h => ?_)
      refine r_goto 71 dX7_majorityBound_59 (by decide) ?_
      exact r_iret rfl dX7_majorityBound_71 h
  · refine r_iconst (v := (-1)) dX7_majorityBound_44 rfl rfl ?_
    exact r_iret rfl dX7_majorityBound_45 h
theorem m_X7_majorityBound {g : zF} (hl0 : g.2.2.2.1.stackTraces = false) {Q : zR × zS → Prop} {a0 a1 a2 a3 : Int} {σ : zS} (h : zo (f_X7_majorityBound a0 a1 a2 a3 σ) Q) : zm g Y_X7_majorityBound R_X7_majorityBound [(4, a0), (0, a1), (0, a2), (0, a3)] σ Q := zm_of (by decide) rfl (Nat.le_of_ble_eq_true rfl) (t_X7_majorityBound hl0 h)


/- X7_bestWay -/

set_option maxRecDepth 100000 in
set_option maxHeartbeats 4000000 in
theorem t_X7_bestWay_100 {g : zF} (hl0 : g.2.2.2.1.stackTraces = false) {Q : zR × zS → Prop} (r9 : Int → Int → Int → Int → Int → Int → Int → zS → zFn) (hr9 : ∀ b0 b1 b2 b3 b4 b5 b6 τ, zo (r9 b0 b1 b2 b3 b4 b5 b6 τ) Q → zw g Y_X7_bestWay R_X7_bestWay 9 [(0, (4, b0)), (1, (4, b1)), (2, (0, b2)), (3, (0, b3)), (4, (0, b4)), (5, (0, b5)), (6, (0, b6))] [] τ 0 0 Q) {a0 a1 a2 a3 a4 a5 a6 : Int} {σ : zS} (h : zo (f_X7_bestWay_100 r9 a0 a1 a2 a3 a4 a5 a6 σ) Q) : zw g Y_X7_bestWay R_X7_bestWay 100 [(0, (4, a0)), (1, (4, a1)), (2, (0, a2)), (3, (0, a3)), (4, (0, a4)), (5, (0, a5)), (6, (0, a6))] [] σ 0 0 Q := by
  unfold f_X7_bestWay_100 at h
  refine r_iinc (L' := [(6, (0, (w32 (a6 + 1)))), (0, (4, a0)), (1, (4, a1)), (2, (0, a2)), (3, (0, a3)), (4, (0, a4)), (5, (0, a5))]) 6 dX7_bestWay_100 rfl (by decide) rfl ?_
  refine r_goto 9 dX7_bestWay_103 (by decide) ?_
  refine r_weak (L' := [(0, (4, a0)), (1, (4, a1)), (2, (0, a2)), (3, (0, a3)), (4, (0, a4)), (5, (0, a5)), (6, (0, (w32 (a6 + 1))))]) [1, 2, 3, 4, 5, 6, 0] rfl ?_
  refine r_room (C' := 0) (D' := 0) (by omega) (by omega) ?_
  exact hr9 _ _ _ _ _ _ _ _ h

set_option maxRecDepth 100000 in
set_option maxHeartbeats 4000000 in
theorem t_X7_bestWay_92 {g : zF} (hl0 : g.2.2.2.1.stackTraces = false) {Q : zR × zS → Prop} (r9 : Int → Int → Int → Int → Int → Int → Int → zS → zFn) (hr9 : ∀ b0 b1 b2 b3 b4 b5 b6 τ, zo (r9 b0 b1 b2 b3 b4 b5 b6 τ) Q → zw g Y_X7_bestWay R_X7_bestWay 9 [(0, (4, b0)), (1, (4, b1)), (2, (0, b2)), (3, (0, b3)), (4, (0, b4)), (5, (0, b5)), (6, (0, b6))] [] τ 0 0 Q) {a0 a1 a2 a3 a6 a7 : Int} {σ : zS} (h : zo (f_X7_bestWay_92 r9 a0 a1 a2 a3 a6 a7 σ) Q) : zw g Y_X7_bestWay R_X7_bestWay 92 [(0, (4, a0)), (1, (4, a1)), (2, (0, a2)), (3, (0, a3)), (6, (0, a6)), (7, (0, a7))] [] σ 0 0 Q := by
  unfold f_X7_bestWay_92 at h
  refine r_iload 4 dX7_bestWay_92 rfl ?_
  refine r_istore (L' := [(4, (0, a6)), (0, (4, a0)), (1, (4, a1)), (2, (0, a2)), (3, (0, a3)), (6, (0, a6)), (7, (0, a7))]) dX7_bestWay_94 (by decide) rfl ?_
  refine r_iload 6 dX7_bestWay_96 rfl ?_
  refine r_istore (L' := [(5, (0, a7)), (4, (0, a6)), (0, (4, a0)), (1, (4, a1)), (2, (0, a2)), (3, (0, a3)), (6, (0, a6)), (7, (0, a7))]) dX7_bestWay_98 (by decide) rfl ?_
  refine r_weak (L' := [(0, (4, a0)), (1, (4, a1)), (2, (0, a2)), (3, (0, a3)), (4, (0, a6)), (5, (0, a7)), (6, (0, a6))]) [2, 3, 4, 5, 1, 0, 6] rfl ?_
  refine r_room (C' := 0) (D' := 0) (by omega) (by omega) ?_
  exact t_X7_bestWay_100 hl0  r9 hr9 h

set_option maxRecDepth 100000 in
set_option maxHeartbeats 4000000 in
theorem t_X7_bestWay_77 {g : zF} (hl0 : g.2.2.2.1.stackTraces = false) {Q : zR × zS → Prop} (r9 : Int → Int → Int → Int → Int → Int → Int → zS → zFn) (hr9 : ∀ b0 b1 b2 b3 b4 b5 b6 τ, zo (r9 b0 b1 b2 b3 b4 b5 b6 τ) Q → zw g Y_X7_bestWay R_X7_bestWay 9 [(0, (4, b0)), (1, (4, b1)), (2, (0, b2)), (3, (0, b3)), (4, (0, b4)), (5, (0, b5)), (6, (0, b6))] [] τ 0 0 Q) {a0 a1 a2 a3 a4 a5 a6 s0 : Int} {σ : zS} (h : zo (f_X7_bestWay_77 r9 a0 a1 a2 a3 a4 a5 a6 s0 σ) Q) : zw g Y_X7_bestWay R_X7_bestWay 77 [(0, (4, a0)), (1, (4, a1)), (2, (0, a2)), (3, (0, a3)), (4, (0, a4)), (5, (0, a5)), (6, (0, a6))] [(0, s0)] σ 0 0 Q := by
  unfold f_X7_bestWay_77 at h
  refine r_istore (L' := [(7, (0, s0)), (0, (4, a0)), (1, (4, a1)), (2, (0, a2)), (3, (0, a3)), (4, (0, a4)), (5, (0, a5)), (6, (0, a6))]) dX7_bestWay_77 (by decide) rfl ?_
  refine r_iload 5 dX7_bestWay_79 rfl ?_
  refine r_iconst (v := (-1)) dX7_bestWay_81 rfl rfl ?_
  refine r_icmp_eq 92 dX7_bestWay_82 (by decide) h (fun h => ?_) (fun h => ?_)
  · refine r_weak (L' := [(0, (4, a0)), (1, (4, a1)), (2, (0, a2)), (3, (0, a3)), (6, (0, a6)), (7, (0, s0))]) [1, 2, 3, 4, 7, 0] rfl ?_
    refine r_room (C' := 0) (D' := 0) (by omega) (by omega) ?_
    exact t_X7_bestWay_92 hl0  r9 hr9 h
  · refine r_iload 0 dX7_bestWay_85 rfl ?_
    refine r_iload 6 dX7_bestWay_87 rfl ?_
    refine r_icmp_ge 100 dX7_bestWay_89 (by decide) h (fun h => ?_) (fun h => ?_)
    · refine r_weak (L' := [(0, (4, a0)), (1, (4, a1)), (2, (0, a2)), (3, (0, a3)), (4, (0, a4)), (5, (0, a5)), (6, (0, a6))]) [1, 2, 3, 4, 5, 6, 7] rfl ?_
      refine r_room (C' := 0) (D' := 0) (by omega) (by omega) ?_
      exact t_X7_bestWay_100 hl0  r9 hr9 h
    · refine r_weak (L' := [(0, (4, a0)), (1, (4, a1)), (2, (0, a2)), (3, (0, a3)), (6, (0, a6)), (7, (0, s0))]) [1, 2, 3, 4, 7, 0] rfl ?_
      refine r_room (C' := 0) (D' := 0) (by omega) (by omega) ?_
      exact t_X7_bestWay_92 hl0  r9 hr9 h

set_option maxRecDepth 100000 in
set_option maxHeartbeats 4000000 in
theorem t_X7_bestWay_9 {g : zF} (hl0 : g.2.2.2.1.stackTraces = false) {Q : zR × zS → Prop}   : ∀ (n : Nat) (a0 a1 a2 a3 a4 a5 a6 : Int) (σ : zS), zo (f_X7_bestWay_9  n a0 a1 a2 a3 a4 a5 a6 σ) Q → zw g Y_X7_bestWay R_X7_bestWay 9 [(0, (4, a0)), (1, (4, a1)), (2, (0, a2)), (3, (0, a3)), (4, (0, a4)), (5, (0, a5)), (6, (0, a6))] [] σ 0 0 Q := by
  intro n
  induction n with
  | zero => intro a0 a1 a2 a3 a4 a5 a6 σ h; obtain ⟨r, h, -⟩ := h; cases h
  | succ n ih =>
    intro a0 a1 a2 a3 a4 a5 a6 σ h
    unfold f_X7_bestWay_9 at h
    refine r_iload 6 dX7_bestWay_9 rfl ?_
    refine r_aload_n 1 dX7_bestWay_11 rfl ?_
    refine r_getr fd_X7_106 rfl dX7_bestWay_12 h (fun x1 h => ?_)
    refine r_getf fd_X7_91 rfl dX7_bestWay_15 h (fun x2 h => ?_)
    refine r_icmp_ge 106 dX7_bestWay_18 (by decide) h (fun h => ?_) (fun h => ?_)
    · refine r_iload 4 dX7_bestWay_106 rfl ?_
      exact r_iret rfl dX7_bestWay_108 h
    · refine r_aload_n 0 dX7_bestWay_21 rfl ?_
      refine r_getr fd_X7_24 rfl dX7_bestWay_22 h (fun x3 h => ?_)
      refine r_aload_n 1 dX7_bestWay_25 rfl ?_
      refine r_iload_n 2 dX7_bestWay_26 rfl ?_
      refine r_iload 6 dX7_bestWay_27 rfl ?_
      refine r_iconst (v := (-1)) dX7_bestWay_29 rfl rfl ?_
      refine r_callV (K' := Y_X6_form) (R' := R_X6_form) (idx := 181) (n := 4) (b := x3) (as := [(4, a1), (0, a2), (0, a6), (0, (-1))]) (rest := []) (C' := 0) (D' := 0) (cn := 6) rfl k0_X6_form kV_X6_form kl_X7_181 ⟨by decide, by decide⟩ dX7_bestWay_30 rfl rfl (Nat.le_of_ble_eq_true rfl) (by decide) (by decide) rfl h (fun r hr => m_X6_form hl0 ⟨r, hr, hr⟩) (fun _ τ5 _ h => ?_)
      refine r_iload_n 3 dX7_bestWay_33 rfl ?_
      refine r_if_ne 47 dX7_bestWay_34 (by decide) h (fun h => ?_) (fun h => ?_)
      · refine r_iload_n 3 dX7_bestWay_47 rfl ?_
        refine r_iconst (v := 1) dX7_bestWay_48 rfl rfl ?_
        refine r_icmp_ne 62 dX7_bestWay_49 (by decide) h (fun h => ?_) (fun h => ?_)
        · refine r_aload_n 0 dX7_bestWay_62 rfl ?_
          refine r_getr fd_X7_24 rfl dX7_bestWay_63 h (fun x6 h => ?_)
          refine r_getf fd_X7_294 rfl dX7_bestWay_66 h (fun x7 h => ?_)
          refine r_aload_n 0 dX7_bestWay_69 rfl ?_
          refine r_getr fd_X7_24 rfl dX7_bestWay_70 h (fun x8 h => ?_)
          refine r_getf fd_X7_297 rfl dX7_bestWay_73 h (fun x9 h => ?_)
          refine r_iadd dX7_bestWay_76 ?_
          refine r_room (C' := 0) (D' := 0) (by omega) (by omega) ?_
          exact t_X7_bestWay_77 hl0  (f_X7_bestWay_9  n) (fun b0 b1 b2 b3 b4 b5 b6 τ h => ih b0 b1 b2 b3 b4 b5 b6 τ h) h
        · refine r_aload_n 0 dX7_bestWay_52 rfl ?_
          refine r_getr fd_X7_24 rfl dX7_bestWay_53 h (fun x10 h => ?_)
          refine r_getf fd_X7_294 rfl dX7_bestWay_56 h (fun x11 h => ?_)
          refine r_goto 77 dX7_bestWay_59 (by decide) ?_
          refine r_room (C' := 0) (D' := 0) (by omega) (by omega) ?_
          exact t_X7_bestWay_77 hl0  (f_X7_bestWay_9  n) (fun b0 b1 b2 b3 b4 b5 b6 τ h => ih b0 b1 b2 b3 b4 b5 b6 τ h) h
      · refine r_aload_n 0 dX7_bestWay_37 rfl ?_
        refine r_getr fd_X7_24 rfl dX7_bestWay_38 h (fun x12 h => ?_)
        refine r_getf fd_X7_297 rfl dX7_bestWay_41 h (fun x13 h => ?_)
        refine r_goto 77 dX7_bestWay_44 (by decide) ?_
        refine r_room (C' := 0) (D' := 0) (by omega) (by omega) ?_
        exact t_X7_bestWay_77 hl0  (f_X7_bestWay_9  n) (fun b0 b1 b2 b3 b4 b5 b6 τ h => ih b0 b1 b2 b3 b4 b5 b6 τ h) h

set_option maxRecDepth 100000 in
set_option maxHeartbeats 4000000 in
theorem t_X7_bestWay {g : zF} (hl0 : g.2.2.2.1.stackTraces = false) {Q : zR × zS → Prop}   {a0 a1 a2 a3 : Int} {σ : zS} (h : zo (f_X7_bestWay  a0 a1 a2 a3 σ) Q) : zw g Y_X7_bestWay R_X7_bestWay 0 [(0, (4, a0)), (1, (4, a1)), (2, (0, a2)), (3, (0, a3))] [] σ 0 0 Q := by
  unfold f_X7_bestWay at h
  refine r_iconst (v := (-1)) dX7_bestWay_0 rfl rfl ?_
  refine r_istore (L' := [(4, (0, (-1))), (0, (4, a0)), (1, (4, a1)), (2, (0, a2)), (3, (0, a3))]) dX7_bestWay_1 (by decide) rfl ?_
  refine r_iconst (v := 0) dX7_bestWay_3 rfl rfl ?_
  refine r_istore (L' := [(5, (0, 0)), (4, (0, (-1))), (0, (4, a0)), (1, (4, a1)), (2, (0, a2)), (3, (0, a3))]) dX7_bestWay_4 (by decide) rfl ?_
  refine r_iconst (v := 0) dX7_bestWay_6 rfl rfl ?_
  refine r_istore (L' := [(6, (0, 0)), (5, (0, 0)), (4, (0, (-1))), (0, (4, a0)), (1, (4, a1)), (2, (0, a2)), (3, (0, a3))]) dX7_bestWay_7 (by decide) rfl ?_
  refine r_weak (L' := [(0, (4, a0)), (1, (4, a1)), (2, (0, a2)), (3, (0, a3)), (4, (0, (-1))), (5, (0, 0)), (6, (0, 0))]) [3, 4, 5, 6, 2, 1, 0] rfl ?_
  refine r_room (C' := 0) (D' := 0) (by omega) (by omega) ?_
  exact t_X7_bestWay_9 hl0    zFU _ _ _ _ _ _ _ _ h
theorem m_X7_bestWay {g : zF} (hl0 : g.2.2.2.1.stackTraces = false) {Q : zR × zS → Prop} {a0 a1 a2 a3 : Int} {σ : zS} (h : zo (f_X7_bestWay a0 a1 a2 a3 σ) Q) : zm g Y_X7_bestWay R_X7_bestWay [(4, a0), (4, a1), (0, a2), (0, a3)] σ Q := zm_of (by decide) rfl (Nat.le_of_ble_eq_true rfl) (t_X7_bestWay hl0 h)


/- X7_best -/

set_option maxRecDepth 100000 in
set_option maxHeartbeats 4000000 in
theorem t_X7_best {g : zF} (hl0 : g.2.2.2.1.stackTraces = false) {Q : zR × zS → Prop}   {a0 a1 a2 : Int} {σ : zS} (h : zo (f_X7_best  a0 a1 a2 σ) Q) : zw g Y_X7_best R_X7_best 0 [(0, (4, a0)), (1, (0, a1)), (2, (0, a2))] [] σ 0 0 Q := by
  unfold f_X7_best at h
  refine r_aload_n 0 dX7_best_0 rfl ?_
  refine r_iload_n 1 dX7_best_1 rfl ?_
  refine r_callV (K' := Y_X7_checkAgent) (R' := R_X7_checkAgent) (idx := 127) (n := 1) (b := a0) (as := [(0, a1)]) (rest := []) (C' := 0) (D' := 0) (cn := 7) rfl k0_X7_checkAgent kV_X7_checkAgent kl_X7_127 ⟨by decide, by decide⟩ dX7_best_2 rfl rfl (Nat.le_of_ble_eq_true rfl) (by decide) (by decide) rfl h (fun r hr => m_X7_checkAgent hl0 ⟨r, hr, hr⟩) (fun _ τ2 _ h => ?_)
  refine r_iload_n 2 dX7_best_5 rfl ?_
  refine r_iconst (v := 0) dX7_best_6 rfl rfl ?_
  refine r_iconst (v := 2) dX7_best_7 rfl rfl ?_
  refine r_callS (K' := Y_X7_checkRange) (R' := R_X7_checkRange) (idx := 72) (n := 3) (as := [(0, a2), (0, 0), (0, 2)]) (rest := []) (C' := 0) (D' := 0) rfl k0_X7_checkRange wd_722 kl_X7_72 ⟨by decide, by decide⟩ dX7_best_8 rfl rfl (Nat.le_of_ble_eq_true rfl) (by decide) (by decide) h (fun r hr => m_X7_checkRange hl0 ⟨r, hr, hr⟩) (fun _ τ4 _ h => ?_)
  refine r_aload_n 0 dX7_best_11 rfl ?_
  refine r_aload_n 0 dX7_best_12 rfl ?_
  refine r_getr fd_X7_31 rfl dX7_best_13 h (fun x5 h => ?_)
  refine r_iload_n 1 dX7_best_16 rfl ?_
  refine r_iload_n 2 dX7_best_17 rfl ?_
  refine r_callV (K' := Y_X7_bestWay) (R' := R_X7_bestWay) (idx := 194) (n := 3) (b := a0) (as := [(4, x5), (0, a1), (0, a2)]) (rest := []) (C' := 0) (D' := 0) (cn := 7) rfl k0_X7_bestWay kV_X7_bestWay kl_X7_194 ⟨by decide, by decide⟩ dX7_best_18 rfl rfl (Nat.le_of_ble_eq_true rfl) (by decide) (by decide) rfl h (fun r hr => m_X7_bestWay hl0 ⟨r, hr, hr⟩) (fun x6 τ7 _ h => ?_)
  exact r_iret rfl dX7_best_21 h
theorem m_X7_best {g : zF} (hl0 : g.2.2.2.1.stackTraces = false) {Q : zR × zS → Prop} {a0 a1 a2 : Int} {σ : zS} (h : zo (f_X7_best a0 a1 a2 σ) Q) : zm g Y_X7_best R_X7_best [(4, a0), (0, a1), (0, a2)] σ Q := zm_of (by decide) rfl (Nat.le_of_ble_eq_true rfl) (t_X7_best hl0 h)


/- X7_rivalsOf -/

set_option maxRecDepth 100000 in
set_option maxHeartbeats 4000000 in
theorem t_X7_rivalsOf_91 {g : zF} (hl0 : g.2.2.2.1.stackTraces = false) {Q : zR × zS → Prop} (r35 : Int → Int → Int → Int → Int → Int → zS → zFn) (hr35 : ∀ b0 b1 b2 b3 b4 b5 τ, zo (r35 b0 b1 b2 b3 b4 b5 τ) Q → zw g Y_X7_rivalsOf R_X7_rivalsOf 35 [(0, (4, b0)), (1, (0, b1)), (2, (0, b2)), (3, (0, b3)), (4, (0, b4)), (5, (0, b5))] [] τ 0 0 Q) {a0 a1 a2 a3 a4 a5 : Int} {σ : zS} (h : zo (f_X7_rivalsOf_91 r35 a0 a1 a2 a3 a4 a5 σ) Q) : zw g Y_X7_rivalsOf R_X7_rivalsOf 91 [(0, (4, a0)), (1, (0, a1)), (2, (0, a2)), (3, (0, a3)), (4, (0, a4)), (5, (0, a5))] [] σ 0 0 Q := by
  unfold f_X7_rivalsOf_91 at h
  refine r_iinc (L' := [(5, (0, (w32 (a5 + 1)))), (0, (4, a0)), (1, (0, a1)), (2, (0, a2)), (3, (0, a3)), (4, (0, a4))]) 5 dX7_rivalsOf_91 rfl (by decide) rfl ?_
  refine r_goto 35 dX7_rivalsOf_94 (by decide) ?_
  refine r_weak (L' := [(0, (4, a0)), (1, (0, a1)), (2, (0, a2)), (3, (0, a3)), (4, (0, a4)), (5, (0, (w32 (a5 + 1))))]) [1, 2, 3, 4, 5, 0] rfl ?_
  refine r_room (C' := 0) (D' := 0) (by omega) (by omega) ?_
  exact hr35 _ _ _ _ _ _ _ h

set_option maxRecDepth 100000 in
set_option maxHeartbeats 4000000 in
theorem t_X7_rivalsOf_35 {g : zF} (hl0 : g.2.2.2.1.stackTraces = false) {Q : zR × zS → Prop}   : ∀ (n : Nat) (a0 a1 a2 a3 a4 a5 : Int) (σ : zS), zo (f_X7_rivalsOf_35  n a0 a1 a2 a3 a4 a5 σ) Q → zw g Y_X7_rivalsOf R_X7_rivalsOf 35 [(0, (4, a0)), (1, (0, a1)), (2, (0, a2)), (3, (0, a3)), (4, (0, a4)), (5, (0, a5))] [] σ 0 0 Q := by
  intro n
  induction n with
  | zero => intro a0 a1 a2 a3 a4 a5 σ h; obtain ⟨r, h, -⟩ := h; cases h
  | succ n ih =>
    intro a0 a1 a2 a3 a4 a5 σ h
    unfold f_X7_rivalsOf_35 at h
    refine r_iload 5 dX7_rivalsOf_35 rfl ?_
    refine r_aload_n 0 dX7_rivalsOf_37 rfl ?_
    refine r_getr fd_X7_31 rfl dX7_rivalsOf_38 h (fun x1 h => ?_)
    refine r_getr fd_X7_106 rfl dX7_rivalsOf_41 h (fun x2 h => ?_)
    refine r_getf fd_X7_91 rfl dX7_rivalsOf_44 h (fun x3 h => ?_)
    refine r_icmp_ge 97 dX7_rivalsOf_47 (by decide) h (fun h => ?_) (fun h => ?_)
    · refine r_iload 4 dX7_rivalsOf_97 rfl ?_
      exact r_iret rfl dX7_rivalsOf_99 h
    · refine r_aload_n 0 dX7_rivalsOf_50 rfl ?_
      refine r_getr fd_X7_24 rfl dX7_rivalsOf_51 h (fun x4 h => ?_)
      refine r_aload_n 0 dX7_rivalsOf_54 rfl ?_
      refine r_getr fd_X7_31 rfl dX7_rivalsOf_55 h (fun x5 h => ?_)
      refine r_iload_n 1 dX7_rivalsOf_58 rfl ?_
      refine r_iload 5 dX7_rivalsOf_59 rfl ?_
      refine r_iconst (v := (-1)) dX7_rivalsOf_61 rfl rfl ?_
      refine r_callV (K' := Y_X6_form) (R' := R_X6_form) (idx := 181) (n := 4) (b := x4) (as := [(4, x5), (0, a1), (0, a5), (0, (-1))]) (rest := []) (C' := 0) (D' := 0) (cn := 6) rfl k0_X6_form kV_X6_form kl_X7_181 ⟨by decide, by decide⟩ dX7_rivalsOf_62 rfl rfl (Nat.le_of_ble_eq_true rfl) (by decide) (by decide) rfl h (fun r hr => m_X6_form hl0 ⟨r, hr, hr⟩) (fun _ τ7 _ h => ?_)
      refine r_iload 5 dX7_rivalsOf_65 rfl ?_
      refine r_iload_n 2 dX7_rivalsOf_67 rfl ?_
      refine r_icmp_eq 91 dX7_rivalsOf_68 (by decide) h (fun h => ?_) (fun h => ?_)
      · refine r_room (C' := 0) (D' := 0) (by omega) (by omega) ?_
        exact t_X7_rivalsOf_91 hl0  (f_X7_rivalsOf_35  n) (fun b0 b1 b2 b3 b4 b5 τ h => ih b0 b1 b2 b3 b4 b5 τ h) h
      · refine r_aload_n 0 dX7_rivalsOf_71 rfl ?_
        refine r_getr fd_X7_24 rfl dX7_rivalsOf_72 h (fun x8 h => ?_)
        refine r_getf fd_X7_294 rfl dX7_rivalsOf_75 h (fun x9 h => ?_)
        refine r_iload_n 3 dX7_rivalsOf_78 rfl ?_
        refine r_icmp_ge 91 dX7_rivalsOf_79 (by decide) h (fun h => ?_) (fun h => ?_)
        · refine r_room (C' := 0) (D' := 0) (by omega) (by omega) ?_
          exact t_X7_rivalsOf_91 hl0  (f_X7_rivalsOf_35  n) (fun b0 b1 b2 b3 b4 b5 τ h => ih b0 b1 b2 b3 b4 b5 τ h) h
        · refine r_iload 4 dX7_rivalsOf_82 rfl ?_
          refine r_iconst (v := 1) dX7_rivalsOf_84 rfl rfl ?_
          refine r_iload 5 dX7_rivalsOf_85 rfl ?_
          refine r_ishl dX7_rivalsOf_87 ?_
          refine r_ior dX7_rivalsOf_88 ?_
          refine r_istore (L' := [(4, (0, (zor a4 (zshl 1 a5)))), (0, (4, a0)), (1, (0, a1)), (2, (0, a2)), (3, (0, a3)), (5, (0, a5))]) dX7_rivalsOf_89 (by decide) rfl ?_
          refine r_weak (L' := [(0, (4, a0)), (1, (0, a1)), (2, (0, a2)), (3, (0, a3)), (4, (0, (zor a4 (zshl 1 a5)))), (5, (0, a5))]) [1, 2, 3, 4, 0, 5] rfl ?_
          refine r_room (C' := 0) (D' := 0) (by omega) (by omega) ?_
          exact t_X7_rivalsOf_91 hl0  (f_X7_rivalsOf_35  n) (fun b0 b1 b2 b3 b4 b5 τ h => ih b0 b1 b2 b3 b4 b5 τ h) h

set_option maxRecDepth 100000 in
set_option maxHeartbeats 4000000 in
theorem t_X7_rivalsOf {g : zF} (hl0 : g.2.2.2.1.stackTraces = false) {Q : zR × zS → Prop}   {a0 a1 a2 : Int} {σ : zS} (h : zo (f_X7_rivalsOf  a0 a1 a2 σ) Q) : zw g Y_X7_rivalsOf R_X7_rivalsOf 0 [(0, (4, a0)), (1, (0, a1)), (2, (0, a2))] [] σ 0 0 Q := by
  unfold f_X7_rivalsOf at h
  refine r_iload_n 2 dX7_rivalsOf_0 rfl ?_
  refine r_iconst (v := (-1)) dX7_rivalsOf_1 rfl rfl ?_
  refine r_icmp_ne 7 dX7_rivalsOf_2 (by decide) h (fun h => ?_) (fun h => ?_)
  · refine r_aload_n 0 dX7_rivalsOf_7 rfl ?_
    refine r_getr fd_X7_24 rfl dX7_rivalsOf_8 h (fun x1 h => ?_)
    refine r_aload_n 0 dX7_rivalsOf_11 rfl ?_
    refine r_getr fd_X7_31 rfl dX7_rivalsOf_12 h (fun x2 h => ?_)
    refine r_iload_n 1 dX7_rivalsOf_15 rfl ?_
    refine r_iload_n 2 dX7_rivalsOf_16 rfl ?_
    refine r_iconst (v := (-1)) dX7_rivalsOf_17 rfl rfl ?_
    refine r_callV (K' := Y_X6_form) (R' := R_X6_form) (idx := 181) (n := 4) (b := x1) (as := [(4, x2), (0, a1), (0, a2), (0, (-1))]) (rest := []) (C' := 0) (D' := 0) (cn := 6) rfl k0_X6_form kV_X6_form kl_X7_181 ⟨by decide, by decide⟩ dX7_rivalsOf_18 rfl rfl (Nat.le_of_ble_eq_true rfl) (by decide) (by decide) rfl h (fun r hr => m_X6_form hl0 ⟨r, hr, hr⟩) (fun _ τ4 _ h => ?_)
    refine r_aload_n 0 dX7_rivalsOf_21 rfl ?_
    refine r_getr fd_X7_24 rfl dX7_rivalsOf_22 h (fun x5 h => ?_)
    refine r_getf fd_X7_297 rfl dX7_rivalsOf_25 h (fun x6 h => ?_)
    refine r_istore_n (L' := [(3, (0, x6)), (0, (4, a0)), (1, (0, a1)), (2, (0, a2))]) dX7_rivalsOf_28 (by decide) rfl ?_
    refine r_iconst (v := 0) dX7_rivalsOf_29 rfl rfl ?_
    refine r_istore (L' := [(4, (0, 0)), (3, (0, x6)), (0, (4, a0)), (1, (0, a1)), (2, (0, a2))]) dX7_rivalsOf_30 (by decide) rfl ?_
    refine r_iconst (v := 0) dX7_rivalsOf_32 rfl rfl ?_
    refine r_istore (L' := [(5, (0, 0)), (4, (0, 0)), (3, (0, x6)), (0, (4, a0)), (1, (0, a1)), (2, (0, a2))]) dX7_rivalsOf_33 (by decide) rfl ?_
    refine r_weak (L' := [(0, (4, a0)), (1, (0, a1)), (2, (0, a2)), (3, (0, x6)), (4, (0, 0)), (5, (0, 0))]) [3, 4, 5, 2, 1, 0] rfl ?_
    refine r_room (C' := 0) (D' := 0) (by omega) (by omega) ?_
    exact t_X7_rivalsOf_35 hl0    zFU _ _ _ _ _ _ _ h
  · refine r_iconst (v := 0) dX7_rivalsOf_5 rfl rfl ?_
    exact r_iret rfl dX7_rivalsOf_6 h
theorem m_X7_rivalsOf {g : zF} (hl0 : g.2.2.2.1.stackTraces = false) {Q : zR × zS → Prop} {a0 a1 a2 : Int} {σ : zS} (h : zo (f_X7_rivalsOf a0 a1 a2 σ) Q) : zm g Y_X7_rivalsOf R_X7_rivalsOf [(4, a0), (0, a1), (0, a2)] σ Q := zm_of (by decide) rfl (Nat.le_of_ble_eq_true rfl) (t_X7_rivalsOf hl0 h)


/- X7_rivals -/

set_option maxRecDepth 100000 in
set_option maxHeartbeats 4000000 in
theorem t_X7_rivals {g : zF} (hl0 : g.2.2.2.1.stackTraces = false) {Q : zR × zS → Prop}   {a0 a1 : Int} {σ : zS} (h : zo (f_X7_rivals  a0 a1 σ) Q) : zw g Y_X7_rivals R_X7_rivals 0 [(0, (4, a0)), (1, (0, a1))] [] σ 0 0 Q := by
  unfold f_X7_rivals at h
  refine r_aload_n 0 dX7_rivals_0 rfl ?_
  refine r_iload_n 1 dX7_rivals_1 rfl ?_
  refine r_callV (K' := Y_X7_checkAgent) (R' := R_X7_checkAgent) (idx := 127) (n := 1) (b := a0) (as := [(0, a1)]) (rest := []) (C' := 0) (D' := 0) (cn := 7) rfl k0_X7_checkAgent kV_X7_checkAgent kl_X7_127 ⟨by decide, by decide⟩ dX7_rivals_2 rfl rfl (Nat.le_of_ble_eq_true rfl) (by decide) (by decide) rfl h (fun r hr => m_X7_checkAgent hl0 ⟨r, hr, hr⟩) (fun _ τ2 _ h => ?_)
  refine r_aload_n 0 dX7_rivals_5 rfl ?_
  refine r_iload_n 1 dX7_rivals_6 rfl ?_
  refine r_aload_n 0 dX7_rivals_7 rfl ?_
  refine r_aload_n 0 dX7_rivals_8 rfl ?_
  refine r_getr fd_X7_31 rfl dX7_rivals_9 h (fun x3 h => ?_)
  refine r_iload_n 1 dX7_rivals_12 rfl ?_
  refine r_iconst (v := 0) dX7_rivals_13 rfl rfl ?_
  refine r_callV (K' := Y_X7_bestWay) (R' := R_X7_bestWay) (idx := 194) (n := 3) (b := a0) (as := [(4, x3), (0, a1), (0, 0)]) (rest := [(0, a1), (4, a0)]) (C' := 0) (D' := 0) (cn := 7) rfl k0_X7_bestWay kV_X7_bestWay kl_X7_194 ⟨by decide, by decide⟩ dX7_rivals_14 rfl rfl (Nat.le_of_ble_eq_true rfl) (by decide) (by decide) rfl h (fun r hr => m_X7_bestWay hl0 ⟨r, hr, hr⟩) (fun x4 τ5 _ h => ?_)
  refine r_callV (K' := Y_X7_rivalsOf) (R' := R_X7_rivalsOf) (idx := 198) (n := 2) (b := a0) (as := [(0, a1), (0, x4)]) (rest := []) (C' := 0) (D' := 0) (cn := 7) rfl k0_X7_rivalsOf kV_X7_rivalsOf kl_X7_198 ⟨by decide, by decide⟩ dX7_rivals_17 rfl rfl (Nat.le_of_ble_eq_true rfl) (by decide) (by decide) rfl h (fun r hr => m_X7_rivalsOf hl0 ⟨r, hr, hr⟩) (fun x6 τ7 _ h => ?_)
  exact r_iret rfl dX7_rivals_20 h
theorem m_X7_rivals {g : zF} (hl0 : g.2.2.2.1.stackTraces = false) {Q : zR × zS → Prop} {a0 a1 : Int} {σ : zS} (h : zo (f_X7_rivals a0 a1 σ) Q) : zm g Y_X7_rivals R_X7_rivals [(4, a0), (0, a1)] σ Q := zm_of (by decide) rfl (Nat.le_of_ble_eq_true rfl) (t_X7_rivals hl0 h)


/- X7_widthOf -/

set_option maxRecDepth 100000 in
set_option maxHeartbeats 4000000 in
theorem t_X7_widthOf {g : zF} (hl0 : g.2.2.2.1.stackTraces = false) {Q : zR × zS → Prop}   {a0 a1 a2 a3 a4 : Int} {σ : zS} (h : zo (f_X7_widthOf  a0 a1 a2 a3 a4 σ) Q) : zw g Y_X7_widthOf R_X7_widthOf 0 [(0, (4, a0)), (1, (4, a1)), (2, (0, a2)), (3, (0, a3)), (4, (0, a4))] [] σ 0 0 Q := by
  unfold f_X7_widthOf at h
  refine r_aload_n 0 dX7_widthOf_0 rfl ?_
  refine r_getr fd_X7_24 rfl dX7_widthOf_1 h (fun x1 h => ?_)
  refine r_aload_n 1 dX7_widthOf_4 rfl ?_
  refine r_iload_n 2 dX7_widthOf_5 rfl ?_
  refine r_iload_n 3 dX7_widthOf_6 rfl ?_
  refine r_iload 4 dX7_widthOf_7 rfl ?_
  refine r_callV (K' := Y_X6_form) (R' := R_X6_form) (idx := 181) (n := 4) (b := x1) (as := [(4, a1), (0, a2), (0, a3), (0, a4)]) (rest := []) (C' := 0) (D' := 0) (cn := 6) rfl k0_X6_form kV_X6_form kl_X7_181 ⟨by decide, by decide⟩ dX7_widthOf_9 rfl rfl (Nat.le_of_ble_eq_true rfl) (by decide) (by decide) rfl h (fun r hr => m_X6_form hl0 ⟨r, hr, hr⟩) (fun _ τ3 _ h => ?_)
  refine r_aload_n 0 dX7_widthOf_12 rfl ?_
  refine r_getr fd_X7_24 rfl dX7_widthOf_13 h (fun x4 h => ?_)
  refine r_getf fd_X7_297 rfl dX7_widthOf_16 h (fun x5 h => ?_)
  refine r_aload_n 0 dX7_widthOf_19 rfl ?_
  refine r_getr fd_X7_24 rfl dX7_widthOf_20 h (fun x6 h => ?_)
  refine r_getf fd_X7_294 rfl dX7_widthOf_23 h (fun x7 h => ?_)
  refine r_isub dX7_widthOf_26 ?_
  exact r_iret rfl dX7_widthOf_27 h
theorem m_X7_widthOf {g : zF} (hl0 : g.2.2.2.1.stackTraces = false) {Q : zR × zS → Prop} {a0 a1 a2 a3 a4 : Int} {σ : zS} (h : zo (f_X7_widthOf a0 a1 a2 a3 a4 σ) Q) : zm g Y_X7_widthOf R_X7_widthOf [(4, a0), (4, a1), (0, a2), (0, a3), (0, a4)] σ Q := zm_of (by decide) rfl (Nat.le_of_ble_eq_true rfl) (t_X7_widthOf hl0 h)


/- X7_nextProbe -/

set_option maxRecDepth 100000 in
set_option maxHeartbeats 4000000 in
theorem t_X7_nextProbe_97 {g : zF} (hl0 : g.2.2.2.1.stackTraces = false) {Q : zR × zS → Prop} (r38 : Int → Int → Int → Int → Int → Int → Int → zS → zFn) (hr38 : ∀ b0 b1 b2 b3 b4 b5 b6 τ, zo (r38 b0 b1 b2 b3 b4 b5 b6 τ) Q → zw g Y_X7_nextProbe R_X7_nextProbe 38 [(0, (4, b0)), (1, (0, b1)), (2, (0, b2)), (3, (0, b3)), (4, (0, b4)), (5, (0, b5)), (6, (0, b6))] [] τ 0 0 Q) {a0 a1 a2 a3 a4 a5 a6 : Int} {σ : zS} (h : zo (f_X7_nextProbe_97 r38 a0 a1 a2 a3 a4 a5 a6 σ) Q) : zw g Y_X7_nextProbe R_X7_nextProbe 97 [(0, (4, a0)), (1, (0, a1)), (2, (0, a2)), (3, (0, a3)), (4, (0, a4)), (5, (0, a5)), (6, (0, a6))] [] σ 0 0 Q := by
  unfold f_X7_nextProbe_97 at h
  refine r_iinc (L' := [(6, (0, (w32 (a6 + 1)))), (0, (4, a0)), (1, (0, a1)), (2, (0, a2)), (3, (0, a3)), (4, (0, a4)), (5, (0, a5))]) 6 dX7_nextProbe_97 rfl (by decide) rfl ?_
  refine r_goto 38 dX7_nextProbe_100 (by decide) ?_
  refine r_weak (L' := [(0, (4, a0)), (1, (0, a1)), (2, (0, a2)), (3, (0, a3)), (4, (0, a4)), (5, (0, a5)), (6, (0, (w32 (a6 + 1))))]) [1, 2, 3, 4, 5, 6, 0] rfl ?_
  refine r_room (C' := 0) (D' := 0) (by omega) (by omega) ?_
  exact hr38 _ _ _ _ _ _ _ _ h

set_option maxRecDepth 100000 in
set_option maxHeartbeats 4000000 in
theorem t_X7_nextProbe_82 {g : zF} (hl0 : g.2.2.2.1.stackTraces = false) {Q : zR × zS → Prop} (r38 : Int → Int → Int → Int → Int → Int → Int → zS → zFn) (hr38 : ∀ b0 b1 b2 b3 b4 b5 b6 τ, zo (r38 b0 b1 b2 b3 b4 b5 b6 τ) Q → zw g Y_X7_nextProbe R_X7_nextProbe 38 [(0, (4, b0)), (1, (0, b1)), (2, (0, b2)), (3, (0, b3)), (4, (0, b4)), (5, (0, b5)), (6, (0, b6))] [] τ 0 0 Q) {a0 a1 a2 a3 a4 a5 a6 a7 : Int} {σ : zS} (h : zo (f_X7_nextProbe_82 r38 a0 a1 a2 a3 a4 a5 a6 a7 σ) Q) : zw g Y_X7_nextProbe R_X7_nextProbe 82 [(0, (4, a0)), (1, (0, a1)), (2, (0, a2)), (3, (0, a3)), (4, (0, a4)), (5, (0, a5)), (6, (0, a6)), (7, (0, a7))] [] σ 0 0 Q := by
  unfold f_X7_nextProbe_82 at h
  refine r_iload 7 dX7_nextProbe_82 rfl ?_
  refine r_iload 5 dX7_nextProbe_84 rfl ?_
  refine r_icmp_le 97 dX7_nextProbe_86 (by decide) h (fun h => ?_) (fun h => ?_)
  · refine r_weak (L' := [(0, (4, a0)), (1, (0, a1)), (2, (0, a2)), (3, (0, a3)), (4, (0, a4)), (5, (0, a5)), (6, (0, a6))]) [0, 1, 2, 3, 4, 5, 6] rfl ?_
    refine r_room (C' := 0) (D' := 0) (by omega) (by omega) ?_
    exact t_X7_nextProbe_97 hl0  r38 hr38 h
  · refine r_iload 6 dX7_nextProbe_89 rfl ?_
    refine r_istore (L' := [(4, (0, a6)), (0, (4, a0)), (1, (0, a1)), (2, (0, a2)), (3, (0, a3)), (5, (0, a5)), (6, (0, a6)), (7, (0, a7))]) dX7_nextProbe_91 (by decide) rfl ?_
    refine r_iload 7 dX7_nextProbe_93 rfl ?_
    refine r_istore (L' := [(5, (0, a7)), (4, (0, a6)), (0, (4, a0)), (1, (0, a1)), (2, (0, a2)), (3, (0, a3)), (6, (0, a6)), (7, (0, a7))]) dX7_nextProbe_95 (by decide) rfl ?_
    refine r_weak (L' := [(0, (4, a0)), (1, (0, a1)), (2, (0, a2)), (3, (0, a3)), (4, (0, a6)), (5, (0, a7)), (6, (0, a6))]) [2, 3, 4, 5, 1, 0, 6] rfl ?_
    refine r_room (C' := 0) (D' := 0) (by omega) (by omega) ?_
    exact t_X7_nextProbe_97 hl0  r38 hr38 h

set_option maxRecDepth 100000 in
set_option maxHeartbeats 4000000 in
theorem t_X7_nextProbe_38 {g : zF} (hl0 : g.2.2.2.1.stackTraces = false) {Q : zR × zS → Prop}   : ∀ (n : Nat) (a0 a1 a2 a3 a4 a5 a6 : Int) (σ : zS), zo (f_X7_nextProbe_38  n a0 a1 a2 a3 a4 a5 a6 σ) Q → zw g Y_X7_nextProbe R_X7_nextProbe 38 [(0, (4, a0)), (1, (0, a1)), (2, (0, a2)), (3, (0, a3)), (4, (0, a4)), (5, (0, a5)), (6, (0, a6))] [] σ 0 0 Q := by
  intro n
  induction n with
  | zero => intro a0 a1 a2 a3 a4 a5 a6 σ h; obtain ⟨r, h, -⟩ := h; cases h
  | succ n ih =>
    intro a0 a1 a2 a3 a4 a5 a6 σ h
    unfold f_X7_nextProbe_38 at h
    refine r_iload 6 dX7_nextProbe_38 rfl ?_
    refine r_aload_n 0 dX7_nextProbe_40 rfl ?_
    refine r_getr fd_X7_31 rfl dX7_nextProbe_41 h (fun x1 h => ?_)
    refine r_getr fd_X7_106 rfl dX7_nextProbe_44 h (fun x2 h => ?_)
    refine r_getf fd_X7_91 rfl dX7_nextProbe_47 h (fun x3 h => ?_)
    refine r_icmp_ge 103 dX7_nextProbe_50 (by decide) h (fun h => ?_) (fun h => ?_)
    · refine r_iload 4 dX7_nextProbe_103 rfl ?_
      exact r_iret rfl dX7_nextProbe_105 h
    · refine r_aload_n 0 dX7_nextProbe_53 rfl ?_
      refine r_aload_n 0 dX7_nextProbe_54 rfl ?_
      refine r_getr fd_X7_31 rfl dX7_nextProbe_55 h (fun x4 h => ?_)
      refine r_iload_n 1 dX7_nextProbe_58 rfl ?_
      refine r_iload 6 dX7_nextProbe_59 rfl ?_
      refine r_iconst (v := (-1)) dX7_nextProbe_61 rfl rfl ?_
      refine r_callV (K' := Y_X7_widthOf) (R' := R_X7_widthOf) (idx := 201) (n := 4) (b := a0) (as := [(4, x4), (0, a1), (0, a6), (0, (-1))]) (rest := []) (C' := 0) (D' := 0) (cn := 7) rfl k0_X7_widthOf kV_X7_widthOf kl_X7_201 ⟨by decide, by decide⟩ dX7_nextProbe_62 rfl rfl (Nat.le_of_ble_eq_true rfl) (by decide) (by decide) rfl h (fun r hr => m_X7_widthOf hl0 ⟨r, hr, hr⟩) (fun x5 τ6 _ h => ?_)
      refine r_istore (L' := [(7, (0, x5)), (0, (4, a0)), (1, (0, a1)), (2, (0, a2)), (3, (0, a3)), (4, (0, a4)), (5, (0, a5)), (6, (0, a6))]) dX7_nextProbe_65 (by decide) rfl ?_
      refine r_iload 7 dX7_nextProbe_67 rfl ?_
      refine r_iload_n 3 dX7_nextProbe_69 rfl ?_
      refine r_icmp_eq 82 dX7_nextProbe_70 (by decide) h (fun h => ?_) (fun h => ?_)
      · refine r_weak (L' := [(0, (4, a0)), (1, (0, a1)), (2, (0, a2)), (3, (0, a3)), (4, (0, a4)), (5, (0, a5)), (6, (0, a6)), (7, (0, x5))]) [1, 2, 3, 4, 5, 6, 7, 0] rfl ?_
        refine r_room (C' := 0) (D' := 0) (by omega) (by omega) ?_
        exact t_X7_nextProbe_82 hl0  (f_X7_nextProbe_38  n) (fun b0 b1 b2 b3 b4 b5 b6 τ h => ih b0 b1 b2 b3 b4 b5 b6 τ h) h
      · refine r_iload_n 4 dX7_nextProbe_73 rfl ?_
        refine r_iload 7 dX7_nextProbe_74 rfl ?_
        refine r_callS (K' := Y_X7_contains) (R' := R_X7_contains) (idx := 138) (n := 2) (as := [(0, a3), (0, a6)]) (rest := []) (C' := 0) (D' := 0) rfl k0_X7_contains wd_1126 kl_X7_138 ⟨by decide, by decide⟩ dX7_nextProbe_76 rfl rfl (Nat.le_of_ble_eq_true rfl) (by decide) (by decide) h (fun r hr => m_X7_contains hl0 ⟨r, hr, hr⟩) (fun x7 τ8 _ h => ?_)
        refine r_if_eq 97 dX7_nextProbe_79 (by decide) h (fun h => ?_) (fun h => ?_)
        · refine r_weak (L' := [(0, (4, a0)), (1, (0, a1)), (2, (0, a2)), (3, (0, a3)), (4, (0, a4)), (5, (0, a5)), (6, (0, a6))]) [1, 2, 3, 4, 5, 6, 7] rfl ?_
          refine r_room (C' := 0) (D' := 0) (by omega) (by omega) ?_
          exact t_X7_nextProbe_97 hl0  (f_X7_nextProbe_38  n) (fun b0 b1 b2 b3 b4 b5 b6 τ h => ih b0 b1 b2 b3 b4 b5 b6 τ h) h
        · refine r_weak (L' := [(0, (4, a0)), (1, (0, a1)), (2, (0, a2)), (3, (0, a3)), (4, (0, a4)), (5, (0, a5)), (6, (0, a6)), (7, (0, x5))]) [1, 2, 3, 4, 5, 6, 7, 0] rfl ?_
          refine r_room (C' := 0) (D' := 0) (by omega) (by omega) ?_
          exact t_X7_nextProbe_82 hl0  (f_X7_nextProbe_38  n) (fun b0 b1 b2 b3 b4 b5 b6 τ h => ih b0 b1 b2 b3 b4 b5 b6 τ h) h

set_option maxRecDepth 100000 in
set_option maxHeartbeats 4000000 in
theorem t_X7_nextProbe {g : zF} (hl0 : g.2.2.2.1.stackTraces = false) {Q : zR × zS → Prop}   {a0 a1 : Int} {σ : zS} (h : zo (f_X7_nextProbe  a0 a1 σ) Q) : zw g Y_X7_nextProbe R_X7_nextProbe 0 [(0, (4, a0)), (1, (0, a1))] [] σ 0 0 Q := by
  unfold f_X7_nextProbe at h
  refine r_aload_n 0 dX7_nextProbe_0 rfl ?_
  refine r_iload_n 1 dX7_nextProbe_1 rfl ?_
  refine r_callV (K' := Y_X7_checkAgent) (R' := R_X7_checkAgent) (idx := 127) (n := 1) (b := a0) (as := [(0, a1)]) (rest := []) (C' := 0) (D' := 0) (cn := 7) rfl k0_X7_checkAgent kV_X7_checkAgent kl_X7_127 ⟨by decide, by decide⟩ dX7_nextProbe_2 rfl rfl (Nat.le_of_ble_eq_true rfl) (by decide) (by decide) rfl h (fun r hr => m_X7_checkAgent hl0 ⟨r, hr, hr⟩) (fun _ τ2 _ h => ?_)
  refine r_aload_n 0 dX7_nextProbe_5 rfl ?_
  refine r_aload_n 0 dX7_nextProbe_6 rfl ?_
  refine r_getr fd_X7_31 rfl dX7_nextProbe_7 h (fun x3 h => ?_)
  refine r_iload_n 1 dX7_nextProbe_10 rfl ?_
  refine r_iconst (v := 0) dX7_nextProbe_11 rfl rfl ?_
  refine r_callV (K' := Y_X7_bestWay) (R' := R_X7_bestWay) (idx := 194) (n := 3) (b := a0) (as := [(4, x3), (0, a1), (0, 0)]) (rest := []) (C' := 0) (D' := 0) (cn := 7) rfl k0_X7_bestWay kV_X7_bestWay kl_X7_194 ⟨by decide, by decide⟩ dX7_nextProbe_12 rfl rfl (Nat.le_of_ble_eq_true rfl) (by decide) (by decide) rfl h (fun r hr => m_X7_bestWay hl0 ⟨r, hr, hr⟩) (fun x4 τ5 _ h => ?_)
  refine r_istore_n (L' := [(2, (0, x4)), (0, (4, a0)), (1, (0, a1))]) dX7_nextProbe_15 (by decide) rfl ?_
  refine r_aload_n 1 dX7_nextProbe_16 rfl ?_
  refine r_iload_n 2 dX7_nextProbe_17 rfl ?_
  refine r_iload_n 0 dX7_nextProbe_18 rfl ?_
  refine r_callV (K' := Y_X7_rivalsOf) (R' := R_X7_rivalsOf) (idx := 198) (n := 2) (b := a0) (as := [(0, a1), (0, x4)]) (rest := []) (C' := 0) (D' := 0) (cn := 7) rfl k0_X7_rivalsOf kV_X7_rivalsOf kl_X7_198 ⟨by decide, by decide⟩ dX7_nextProbe_19 rfl rfl (Nat.le_of_ble_eq_true rfl) (by decide) (by decide) rfl h (fun r hr => m_X7_rivalsOf hl0 ⟨r, hr, hr⟩) (fun x6 τ7 _ h => ?_)
  refine r_istore_n (L' := [(3, (0, x6)), (2, (0, x4)), (0, (4, a0)), (1, (0, a1))]) dX7_nextProbe_22 (by decide) rfl ?_
  refine r_iload_n 0 dX7_nextProbe_23 rfl ?_
  refine r_if_ne 29 dX7_nextProbe_24 (by decide) h (fun h => ?_) (fun h => ?_)
  · refine r_iconst (v := (-1)) dX7_nextProbe_29 rfl rfl ?_
    refine r_istore (L' := [(4, (0, (-1))), (3, (0, x6)), (2, (0, x4)), (0, (4, a0)), (1, (0, a1))]) dX7_nextProbe_30 (by decide) rfl ?_
    refine r_iconst (v := (-1)) dX7_nextProbe_32 rfl rfl ?_
    refine r_istore (L' := [(5, (0, (-1))), (4, (0, (-1))), (3, (0, x6)), (2, (0, x4)), (0, (4, a0)), (1, (0, a1))]) dX7_nextProbe_33 (by decide) rfl ?_
    refine r_iconst (v := 0) dX7_nextProbe_35 rfl rfl ?_
    refine r_istore (L' := [(6, (0, 0)), (5, (0, (-1))), (4, (0, (-1))), (3, (0, x6)), (2, (0, x4)), (0, (4, a0)), (1, (0, a1))]) dX7_nextProbe_36 (by decide) rfl ?_
    refine r_weak (L' := [(0, (4, a0)), (1, (0, a1)), (2, (0, x4)), (3, (0, x6)), (4, (0, (-1))), (5, (0, (-1))), (6, (0, 0))]) [5, 6, 4, 3, 2, 1, 0] rfl ?_
    refine r_room (C' := 0) (D' := 0) (by omega) (by omega) ?_
    exact t_X7_nextProbe_38 hl0    zFU _ _ _ _ _ _ _ _ h
  · refine r_iconst (v := (-1)) dX7_nextProbe_27 rfl rfl ?_
    exact r_iret rfl dX7_nextProbe_28 h
theorem m_X7_nextProbe {g : zF} (hl0 : g.2.2.2.1.stackTraces = false) {Q : zR × zS → Prop} {a0 a1 : Int} {σ : zS} (h : zo (f_X7_nextProbe a0 a1 σ) Q) : zm g Y_X7_nextProbe R_X7_nextProbe [(4, a0), (0, a1)] σ Q := zm_of (by decide) rfl (Nat.le_of_ble_eq_true rfl) (t_X7_nextProbe hl0 h)


/- X7_regret -/

set_option maxRecDepth 100000 in
set_option maxHeartbeats 4000000 in
theorem t_X7_regret {g : zF} (hl0 : g.2.2.2.1.stackTraces = false) {Q : zR × zS → Prop}   {a0 a1 : Int} {σ : zS} (h : zo (f_X7_regret  a0 a1 σ) Q) : zw g Y_X7_regret R_X7_regret 0 [(0, (4, a0)), (1, (0, a1))] [] σ 0 0 Q := by
  unfold f_X7_regret at h
  refine r_aload_n 0 dX7_regret_0 rfl ?_
  refine r_iload_n 1 dX7_regret_1 rfl ?_
  refine r_callV (K' := Y_X7_checkAgent) (R' := R_X7_checkAgent) (idx := 127) (n := 1) (b := a0) (as := [(0, a1)]) (rest := []) (C' := 0) (D' := 0) (cn := 7) rfl k0_X7_checkAgent kV_X7_checkAgent kl_X7_127 ⟨by decide, by decide⟩ dX7_regret_2 rfl rfl (Nat.le_of_ble_eq_true rfl) (by decide) (by decide) rfl h (fun r hr => m_X7_checkAgent hl0 ⟨r, hr, hr⟩) (fun _ τ2 _ h => ?_)
  refine r_aload_n 0 dX7_regret_5 rfl ?_
  refine r_getr fd_X7_31 rfl dX7_regret_6 h (fun x3 h => ?_)
  refine r_getr fd_X7_106 rfl dX7_regret_9 h (fun x4 h => ?_)
  refine r_getf fd_X7_91 rfl dX7_regret_12 h (fun x5 h => ?_)
  refine r_if_ne 20 dX7_regret_15 (by decide) h (fun h => ?_) (fun h => ?_)
  · refine r_aload_n 0 dX7_regret_20 rfl ?_
    refine r_aload_n 0 dX7_regret_21 rfl ?_
    refine r_getr fd_X7_31 rfl dX7_regret_22 h (fun x6 h => ?_)
    refine r_iload_n 1 dX7_regret_25 rfl ?_
    refine r_aload_n 0 dX7_regret_26 rfl ?_
    refine r_aload_n 0 dX7_regret_27 rfl ?_
    refine r_getr fd_X7_31 rfl dX7_regret_28 h (fun x7 h => ?_)
    refine r_iload_n 1 dX7_regret_31 rfl ?_
    refine r_iconst (v := 0) dX7_regret_32 rfl rfl ?_
    refine r_callV (K' := Y_X7_bestWay) (R' := R_X7_bestWay) (idx := 194) (n := 3) (b := a0) (as := [(4, x7), (0, a1), (0, 0)]) (rest := [(0, a1), (4, x6), (4, a0)]) (C' := 0) (D' := 0) (cn := 7) rfl k0_X7_bestWay kV_X7_bestWay kl_X7_194 ⟨by decide, by decide⟩ dX7_regret_33 rfl rfl (Nat.le_of_ble_eq_true rfl) (by decide) (by decide) rfl h (fun r hr => m_X7_bestWay hl0 ⟨r, hr, hr⟩) (fun x8 τ9 _ h => ?_)
    refine r_iconst (v := 1) dX7_regret_36 rfl rfl ?_
    refine r_callV (K' := Y_X7_believed) (R' := R_X7_believed) (idx := 173) (n := 4) (b := a0) (as := [(4, x6), (0, a1), (0, x8), (0, 1)]) (rest := []) (C' := 0) (D' := 0) (cn := 7) rfl k0_X7_believed kV_X7_believed kl_X7_173 ⟨by decide, by decide⟩ dX7_regret_37 rfl rfl (Nat.le_of_ble_eq_true rfl) (by decide) (by decide) rfl h (fun r hr => m_X7_believed hl0 ⟨r, hr, hr⟩) (fun x10 τ11 _ h => ?_)
    refine r_istore_n (L' := [(2, (0, x10)), (0, (4, a0)), (1, (0, a1))]) dX7_regret_40 (by decide) rfl ?_
    refine r_aload_n 1 dX7_regret_41 rfl ?_
    refine r_aload_n 1 dX7_regret_42 rfl ?_
    refine r_getr fd_X7_31 rfl dX7_regret_43 h (fun x12 h => ?_)
    refine r_iload_n 2 dX7_regret_46 rfl ?_
    refine r_aload_n 1 dX7_regret_47 rfl ?_
    refine r_aload_n 1 dX7_regret_48 rfl ?_
    refine r_getr fd_X7_31 rfl dX7_regret_49 h (fun x13 h => ?_)
    refine r_iload_n 2 dX7_regret_52 rfl ?_
    refine r_iconst (v := 1) dX7_regret_53 rfl rfl ?_
    refine r_callV (K' := Y_X7_bestWay) (R' := R_X7_bestWay) (idx := 194) (n := 3) (b := a0) (as := [(4, x13), (0, a1), (0, 1)]) (rest := [(0, a1), (4, x12), (4, a0)]) (C' := 0) (D' := 0) (cn := 7) rfl k0_X7_bestWay kV_X7_bestWay kl_X7_194 ⟨by decide, by decide⟩ dX7_regret_54 rfl rfl (Nat.le_of_ble_eq_true rfl) (by decide) (by decide) rfl h (fun r hr => m_X7_bestWay hl0 ⟨r, hr, hr⟩) (fun x14 τ15 _ h => ?_)
    refine r_iconst (v := 0) dX7_regret_57 rfl rfl ?_
    refine r_callV (K' := Y_X7_believed) (R' := R_X7_believed) (idx := 173) (n := 4) (b := a0) (as := [(4, x12), (0, a1), (0, x14), (0, 0)]) (rest := []) (C' := 0) (D' := 0) (cn := 7) rfl k0_X7_believed kV_X7_believed kl_X7_173 ⟨by decide, by decide⟩ dX7_regret_58 rfl rfl (Nat.le_of_ble_eq_true rfl) (by decide) (by decide) rfl h (fun r hr => m_X7_believed hl0 ⟨r, hr, hr⟩) (fun x16 τ17 _ h => ?_)
    refine r_istore_n (L' := [(3, (0, x16)), (2, (0, x10)), (0, (4, a0)), (1, (0, a1))]) dX7_regret_61 (by decide) rfl ?_
    refine r_iload_n 1 dX7_regret_62 rfl ?_
    refine r_iload_n 0 dX7_regret_63 rfl ?_
    refine r_isub dX7_regret_64 ?_
    exact r_iret rfl dX7_regret_65 h
  · refine r_iconst (v := (-1)) dX7_regret_18 rfl rfl ?_
    exact r_iret rfl dX7_regret_19 h
theorem m_X7_regret {g : zF} (hl0 : g.2.2.2.1.stackTraces = false) {Q : zR × zS → Prop} {a0 a1 : Int} {σ : zS} (h : zo (f_X7_regret a0 a1 σ) Q) : zm g Y_X7_regret R_X7_regret [(4, a0), (0, a1)] σ Q := zm_of (by decide) rfl (Nat.le_of_ble_eq_true rfl) (t_X7_regret hl0 h)

