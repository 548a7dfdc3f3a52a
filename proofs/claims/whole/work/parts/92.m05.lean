/- X7_checkRange -/

set_option maxRecDepth 100000 in
set_option maxHeartbeats 4000000 in
theorem t_X7_checkRange {g : zF} (hl0 : g.2.2.2.1.stackTraces = false) {Q : zR × zS → Prop}   {a0 a1 a2 : Int} {σ : zS} (h : zo (f_X7_checkRange  a0 a1 a2 σ) Q) : zw g Y_X7_checkRange R_X7_checkRange 0 [(0, (0, a0)), (1, (0, a1)), (2, (0, a2))] [] σ 1 6 Q := by
  unfold f_X7_checkRange at h
  refine r_iload_n 0 dX7_checkRange_0 rfl ?_
  refine r_iload_n 1 dX7_checkRange_1 rfl ?_
  refine r_icmp_lt 10 dX7_checkRange_2 (by decide) h (fun h => ?_) (fun h => ?_)
  · exact r_throwW hl0 rfl (th_X7_254_325_258 _ rfl) dX7_checkRange_10 dX7_checkRange_13 dX7_checkRange_14 dX7_checkRange_17 dX7_checkRange_20 (by decide) (Nat.le_of_ble_eq_true rfl) (by decide) (by decide) h
  · refine r_iload_n 0 dX7_checkRange_5 rfl ?_
    refine r_iload_n 2 dX7_checkRange_6 rfl ?_
    refine r_icmp_le 21 dX7_checkRange_7 (by decide) h (fun h => ?_) (fun h => ?_)
    · refine r_room (C' := 0) (D' := 0) (by omega) (by omega) ?_
      exact r_vret rfl dX7_checkRange_21 h
    · exact r_throwW hl0 rfl (th_X7_254_325_258 _ rfl) dX7_checkRange_10 dX7_checkRange_13 dX7_checkRange_14 dX7_checkRange_17 dX7_checkRange_20 (by decide) (Nat.le_of_ble_eq_true rfl) (by decide) (by decide) h
theorem m_X7_checkRange {g : zF} (hl0 : g.2.2.2.1.stackTraces = false) {Q : zR × zS → Prop} {a0 a1 a2 : Int} {σ : zS} (h : zo (f_X7_checkRange a0 a1 a2 σ) Q) : zm g Y_X7_checkRange R_X7_checkRange [(0, a0), (0, a1), (0, a2)] σ Q := zm_of (by decide) rfl (Nat.le_of_ble_eq_true rfl) (t_X7_checkRange hl0 h)


/- X7_truncate -/

set_option maxRecDepth 100000 in
set_option maxHeartbeats 4000000 in
theorem t_X7_truncate {g : zF} (hl0 : g.2.2.2.1.stackTraces = false) {Q : zR × zS → Prop}   {a0 a1 : Int} {σ : zS} (h : zo (f_X7_truncate  a0 a1 σ) Q) : zw g Y_X7_truncate R_X7_truncate 0 [(0, (4, a0)), (1, (0, a1))] [] σ 1 6 Q := by
  unfold f_X7_truncate at h
  refine r_iload_n 1 dX7_truncate_0 rfl ?_
  refine r_iconst (v := 0) dX7_truncate_1 rfl rfl ?_
  refine r_aload_n 0 dX7_truncate_2 rfl ?_
  refine r_getr fd_X7_14 rfl dX7_truncate_3 h (fun x1 h => ?_)
  refine r_getf fd_X7_58 rfl dX7_truncate_6 h (fun x2 h => ?_)
  refine r_callS (K' := Y_X7_checkRange) (R' := R_X7_checkRange) (idx := 72) (n := 3) (as := [(0, a1), (0, 0), (0, x2)]) (rest := []) (C' := 0) (D' := 0) rfl k0_X7_checkRange wd_801 kl_X7_72 ⟨by decide, by decide⟩ dX7_truncate_9 rfl rfl (Nat.le_of_ble_eq_true rfl) (by decide) (by decide) h (fun r hr => m_X7_checkRange hl0 ⟨r, hr, hr⟩) (fun _ τ4 _ h => ?_)
  refine r_aload_n 0 dX7_truncate_12 rfl ?_
  refine r_getr fd_X7_14 rfl dX7_truncate_13 h (fun x5 h => ?_)
  refine r_iload_n 1 dX7_truncate_16 rfl ?_
  refine r_putf fd_X7_58 fp_X7_truncate_58 dX7_truncate_17 h (fun τ6 h => ?_)
  exact r_vret rfl dX7_truncate_20 h
theorem m_X7_truncate {g : zF} (hl0 : g.2.2.2.1.stackTraces = false) {Q : zR × zS → Prop} {a0 a1 : Int} {σ : zS} (h : zo (f_X7_truncate a0 a1 σ) Q) : zm g Y_X7_truncate R_X7_truncate [(4, a0), (0, a1)] σ Q := zm_of (by decide) rfl (Nat.le_of_ble_eq_true rfl) (t_X7_truncate hl0 h)


/- X7_load -/

set_option maxRecDepth 100000 in
set_option maxHeartbeats 4000000 in
theorem t_X7_load {g : zF} (hl0 : g.2.2.2.1.stackTraces = false) {Q : zR × zS → Prop}   {a0 : Int} {σ : zS} (h : zo (f_X7_load  a0 σ) Q) : zw g Y_X7_load R_X7_load 0 [(0, (4, a0))] [] σ 27 7320 Q := by
  unfold f_X7_load at h
  refine r_aload_n 0 dX7_load_0 rfl ?_
  refine r_getr fd_X7_43 rfl dX7_load_1 h (fun x1 h => ?_)
  refine r_callV (K' := Y_X4_parse) (R' := R_X4_parse) (idx := 76) (n := 0) (b := x1) (as := []) (rest := []) (C' := 27) (D' := 7320) (cn := 4) rfl k0_X4_parse kV_X4_parse kl_X7_76 ⟨by decide, by decide⟩ dX7_load_4 rfl rfl (Nat.le_of_ble_eq_true rfl) (by decide) (by decide) rfl h (fun r hr => m_X4_parse hl0 ⟨r, hr, hr⟩) (fun x2 τ3 _ h => ?_)
  refine r_istore_n (L' := [(1, (0, x2)), (0, (4, a0))]) dX7_load_7 (by decide) rfl ?_
  refine r_aload_n 1 dX7_load_8 rfl ?_
  refine r_getr fd_X7_14 rfl dX7_load_9 h (fun x4 h => ?_)
  refine r_iconst (v := 0) dX7_load_12 rfl rfl ?_
  refine r_putf fd_X7_58 fp_X7_load_58 dX7_load_13 h (fun τ5 h => ?_)
  refine r_iload_n 0 dX7_load_16 rfl ?_
  refine r_if_ne 23 dX7_load_17 (by decide) h (fun h => ?_) (fun h => ?_)
  · refine r_aload_n 1 dX7_load_23 rfl ?_
    refine r_getr fd_X7_50 rfl dX7_load_24 h (fun x6 h => ?_)
    refine r_aload_n 1 dX7_load_27 rfl ?_
    refine r_getr fd_X7_31 rfl dX7_load_28 h (fun x7 h => ?_)
    refine r_callV (K' := Y_X2_push) (R' := R_X2_push) (idx := 80) (n := 1) (b := x6) (as := [(4, x7)]) (rest := []) (C' := 0) (D' := 0) (cn := 2) rfl k0_X2_push kV_X2_push kl_X7_80 ⟨by decide, by decide⟩ dX7_load_31 rfl rfl (Nat.le_of_ble_eq_true rfl) (by decide) (by decide) rfl h (fun r hr => m_X2_push hl0 ⟨r, hr, hr⟩) (fun _ τ9 _ h => ?_)
    refine r_aload_n 1 dX7_load_34 rfl ?_
    refine r_getr fd_X7_31 rfl dX7_load_35 h (fun x10 h => ?_)
    refine r_aload_n 1 dX7_load_38 rfl ?_
    refine r_getr fd_X7_35 rfl dX7_load_39 h (fun x11 h => ?_)
    refine r_callV (K' := Y_X1_become) (R' := R_X1_become) (idx := 84) (n := 1) (b := x10) (as := [(4, x11)]) (rest := []) (C' := 0) (D' := 0) (cn := 1) rfl k0_X1_become kV_X1_become kl_X7_84 ⟨by decide, by decide⟩ dX7_load_42 rfl rfl (Nat.le_of_ble_eq_true rfl) (by decide) (by decide) rfl h (fun r hr => m_X1_become hl0 ⟨r, hr, hr⟩) (fun _ τ13 _ h => ?_)
    refine r_aload_n 1 dX7_load_45 rfl ?_
    refine r_getr fd_X7_31 rfl dX7_load_46 h (fun x14 h => ?_)
    refine r_getr fd_X7_87 rfl dX7_load_49 h (fun x15 h => ?_)
    refine r_getf fd_X7_91 rfl dX7_load_52 h (fun x16 h => ?_)
    exact r_iret rfl dX7_load_55 h
  · refine r_room (C' := 0) (D' := 0) (by omega) (by omega) ?_
    refine r_bipush (v := (-4)) dX7_load_20 rfl rfl ?_
    exact r_iret rfl dX7_load_22 h
theorem m_X7_load {g : zF} (hl0 : g.2.2.2.1.stackTraces = false) {Q : zR × zS → Prop} {a0 : Int} {σ : zS} (h : zo (f_X7_load a0 σ) Q) : zm g Y_X7_load R_X7_load [(4, a0)] σ Q := zm_of (by decide) rfl (Nat.le_of_ble_eq_true rfl) (t_X7_load hl0 h)


/- X7_errorCode -/

set_option maxRecDepth 100000 in
set_option maxHeartbeats 4000000 in
theorem t_X7_errorCode {g : zF} (hl0 : g.2.2.2.1.stackTraces = false) {Q : zR × zS → Prop}   {a0 : Int} {σ : zS} (h : zo (f_X7_errorCode  a0 σ) Q) : zw g Y_X7_errorCode R_X7_errorCode 0 [(0, (4, a0))] [] σ 0 0 Q := by
  unfold f_X7_errorCode at h
  refine r_aload_n 0 dX7_errorCode_0 rfl ?_
  refine r_getr fd_X7_43 rfl dX7_errorCode_1 h (fun x1 h => ?_)
  refine r_getf fd_X7_96 rfl dX7_errorCode_4 h (fun x2 h => ?_)
  exact r_iret rfl dX7_errorCode_7 h
theorem m_X7_errorCode {g : zF} (hl0 : g.2.2.2.1.stackTraces = false) {Q : zR × zS → Prop} {a0 : Int} {σ : zS} (h : zo (f_X7_errorCode a0 σ) Q) : zm g Y_X7_errorCode R_X7_errorCode [(4, a0)] σ Q := zm_of (by decide) rfl (Nat.le_of_ble_eq_true rfl) (t_X7_errorCode hl0 h)


/- X7_errorPosition -/

set_option maxRecDepth 100000 in
set_option maxHeartbeats 4000000 in
theorem t_X7_errorPosition {g : zF} (hl0 : g.2.2.2.1.stackTraces = false) {Q : zR × zS → Prop}   {a0 : Int} {σ : zS} (h : zo (f_X7_errorPosition  a0 σ) Q) : zw g Y_X7_errorPosition R_X7_errorPosition 0 [(0, (4, a0))] [] σ 0 0 Q := by
  unfold f_X7_errorPosition at h
  refine r_aload_n 0 dX7_errorPosition_0 rfl ?_
  refine r_getr fd_X7_43 rfl dX7_errorPosition_1 h (fun x1 h => ?_)
  refine r_getf fd_X7_99 rfl dX7_errorPosition_4 h (fun x2 h => ?_)
  exact r_iret rfl dX7_errorPosition_7 h
theorem m_X7_errorPosition {g : zF} (hl0 : g.2.2.2.1.stackTraces = false) {Q : zR × zS → Prop} {a0 : Int} {σ : zS} (h : zo (f_X7_errorPosition a0 σ) Q) : zm g Y_X7_errorPosition R_X7_errorPosition [(4, a0)] σ Q := zm_of (by decide) rfl (Nat.le_of_ble_eq_true rfl) (t_X7_errorPosition hl0 h)


/- X7_findInput -/

set_option maxRecDepth 100000 in
set_option maxHeartbeats 4000000 in
theorem t_X7_findInput {g : zF} (hl0 : g.2.2.2.1.stackTraces = false) {Q : zR × zS → Prop}   {a0 a1 : Int} {σ : zS} (h : zo (f_X7_findInput  a0 a1 σ) Q) : zw g Y_X7_findInput R_X7_findInput 0 [(0, (4, a0)), (1, (4, a1))] [] σ 0 0 Q := by
  unfold f_X7_findInput at h
  refine r_aload_n 0 dX7_findInput_0 rfl ?_
  refine r_getr fd_X7_14 rfl dX7_findInput_1 h (fun x1 h => ?_)
  refine r_iconst (v := 0) dX7_findInput_4 rfl rfl ?_
  refine r_aload_n 0 dX7_findInput_5 rfl ?_
  refine r_getr fd_X7_14 rfl dX7_findInput_6 h (fun x2 h => ?_)
  refine r_getf fd_X7_58 rfl dX7_findInput_9 h (fun x3 h => ?_)
  refine r_callV (K' := Y_X0_nameCode) (R' := R_X0_nameCode) (idx := 334) (n := 2) (b := x1) (as := [(0, 0), (0, x3)]) (rest := []) (C' := 0) (D' := 0) (cn := 0) rfl k0_X0_nameCode kV_X0_nameCode kl_X7_334 ⟨by decide, by decide⟩ dX7_findInput_12 rfl rfl (Nat.le_of_ble_eq_true rfl) (by decide) (by decide) rfl h (fun r hr => m_X0_nameCode hl0 ⟨r, hr, hr⟩) (fun x4 τ5 _ h => ?_)
  refine r_istore_n (L' := [(2, (0, x4)), (0, (4, a0)), (1, (4, a1))]) dX7_findInput_15 (by decide) rfl ?_
  refine r_aload_n 1 dX7_findInput_16 rfl ?_
  refine r_getr fd_X7_14 rfl dX7_findInput_17 h (fun x6 h => ?_)
  refine r_iconst (v := 0) dX7_findInput_20 rfl rfl ?_
  refine r_putf fd_X7_58 fp_X7_findInput_58 dX7_findInput_21 h (fun τ7 h => ?_)
  refine r_iload_n 0 dX7_findInput_24 rfl ?_
  refine r_iconst (v := (-1)) dX7_findInput_25 rfl rfl ?_
  refine r_icmp_ne 33 dX7_findInput_26 (by decide) h (fun h => ?_) (fun h => ?_)
  · refine r_aload_n 2 dX7_findInput_33 rfl ?_
    refine r_iload_n 0 dX7_findInput_34 rfl ?_
    refine r_callV (K' := Y_X3_find) (R' := R_X3_find) (idx := 337) (n := 1) (b := a1) (as := [(0, x4)]) (rest := []) (C' := 0) (D' := 0) (cn := 3) rfl k0_X3_find kV_X3_find kl_X7_337 ⟨by decide, by decide⟩ dX7_findInput_35 rfl rfl (Nat.le_of_ble_eq_true rfl) (by decide) (by decide) rfl h (fun r hr => m_X3_find hl0 ⟨r, hr, hr⟩) (fun x8 τ9 _ h => ?_)
    exact r_iret rfl dX7_findInput_38 h
  · refine r_iconst (v := (-1)) dX7_findInput_29 rfl rfl ?_
    refine r_goto 38 dX7_findInput_30 (by decide) ?_
    exact r_iret rfl dX7_findInput_38 h
theorem m_X7_findInput {g : zF} (hl0 : g.2.2.2.1.stackTraces = false) {Q : zR × zS → Prop} {a0 a1 : Int} {σ : zS} (h : zo (f_X7_findInput a0 a1 σ) Q) : zm g Y_X7_findInput R_X7_findInput [(4, a0), (4, a1)] σ Q := zm_of (by decide) rfl (Nat.le_of_ble_eq_true rfl) (t_X7_findInput hl0 h)


/- X7_findAgent -/

set_option maxRecDepth 100000 in
set_option maxHeartbeats 4000000 in
theorem t_X7_findAgent {g : zF} (hl0 : g.2.2.2.1.stackTraces = false) {Q : zR × zS → Prop}   {a0 : Int} {σ : zS} (h : zo (f_X7_findAgent  a0 σ) Q) : zw g Y_X7_findAgent R_X7_findAgent 0 [(0, (4, a0))] [] σ 0 0 Q := by
  unfold f_X7_findAgent at h
  refine r_aload_n 0 dX7_findAgent_0 rfl ?_
  refine r_aload_n 0 dX7_findAgent_1 rfl ?_
  refine r_getr fd_X7_31 rfl dX7_findAgent_2 h (fun x1 h => ?_)
  refine r_getr fd_X7_87 rfl dX7_findAgent_5 h (fun x2 h => ?_)
  refine r_callV (K' := Y_X7_findInput) (R' := R_X7_findInput) (idx := 102) (n := 1) (b := a0) (as := [(4, x2)]) (rest := []) (C' := 0) (D' := 0) (cn := 7) rfl k0_X7_findInput kV_X7_findInput kl_X7_102 ⟨by decide, by decide⟩ dX7_findAgent_8 rfl rfl (Nat.le_of_ble_eq_true rfl) (by decide) (by decide) rfl h (fun r hr => m_X7_findInput hl0 ⟨r, hr, hr⟩) (fun x3 τ4 _ h => ?_)
  exact r_iret rfl dX7_findAgent_11 h
theorem m_X7_findAgent {g : zF} (hl0 : g.2.2.2.1.stackTraces = false) {Q : zR × zS → Prop} {a0 : Int} {σ : zS} (h : zo (f_X7_findAgent a0 σ) Q) : zm g Y_X7_findAgent R_X7_findAgent [(4, a0)] σ Q := zm_of (by decide) rfl (Nat.le_of_ble_eq_true rfl) (t_X7_findAgent hl0 h)


/- X7_findWay -/

set_option maxRecDepth 100000 in
set_option maxHeartbeats 4000000 in
theorem t_X7_findWay {g : zF} (hl0 : g.2.2.2.1.stackTraces = false) {Q : zR × zS → Prop}   {a0 : Int} {σ : zS} (h : zo (f_X7_findWay  a0 σ) Q) : zw g Y_X7_findWay R_X7_findWay 0 [(0, (4, a0))] [] σ 0 0 Q := by
  unfold f_X7_findWay at h
  refine r_aload_n 0 dX7_findWay_0 rfl ?_
  refine r_aload_n 0 dX7_findWay_1 rfl ?_
  refine r_getr fd_X7_31 rfl dX7_findWay_2 h (fun x1 h => ?_)
  refine r_getr fd_X7_106 rfl dX7_findWay_5 h (fun x2 h => ?_)
  refine r_callV (K' := Y_X7_findInput) (R' := R_X7_findInput) (idx := 102) (n := 1) (b := a0) (as := [(4, x2)]) (rest := []) (C' := 0) (D' := 0) (cn := 7) rfl k0_X7_findInput kV_X7_findInput kl_X7_102 ⟨by decide, by decide⟩ dX7_findWay_8 rfl rfl (Nat.le_of_ble_eq_true rfl) (by decide) (by decide) rfl h (fun r hr => m_X7_findInput hl0 ⟨r, hr, hr⟩) (fun x3 τ4 _ h => ?_)
  exact r_iret rfl dX7_findWay_11 h
theorem m_X7_findWay {g : zF} (hl0 : g.2.2.2.1.stackTraces = false) {Q : zR × zS → Prop} {a0 : Int} {σ : zS} (h : zo (f_X7_findWay a0 σ) Q) : zm g Y_X7_findWay R_X7_findWay [(4, a0)] σ Q := zm_of (by decide) rfl (Nat.le_of_ble_eq_true rfl) (t_X7_findWay hl0 h)


/- X7_property -/

set_option maxRecDepth 100000 in
set_option maxHeartbeats 4000000 in
theorem t_X7_property {g : zF} (hl0 : g.2.2.2.1.stackTraces = false) {Q : zR × zS → Prop}   {a0 a1 : Int} {σ : zS} (h : zo (f_X7_property  a0 a1 σ) Q) : zw g Y_X7_property R_X7_property 0 [(0, (4, a0)), (1, (0, a1))] [] σ 1 6 Q := by
  unfold f_X7_property at h
  refine r_iload_n 1 dX7_property_0 rfl ?_
  refine r_iconst (v := 0) dX7_property_1 rfl rfl ?_
  refine r_bipush (v := 9) dX7_property_2 rfl rfl ?_
  refine r_callS (K' := Y_X7_checkRange) (R' := R_X7_checkRange) (idx := 72) (n := 3) (as := [(0, a1), (0, 0), (0, 9)]) (rest := []) (C' := 0) (D' := 0) rfl k0_X7_checkRange wd_801 kl_X7_72 ⟨by decide, by decide⟩ dX7_property_4 rfl rfl (Nat.le_of_ble_eq_true rfl) (by decide) (by decide) h (fun r hr => m_X7_checkRange hl0 ⟨r, hr, hr⟩) (fun _ τ2 _ h => ?_)
  refine r_iload_n 1 dX7_property_7 rfl ?_
  refine r_switch [64, 75, 86, 113, 113, 113, 113, 113, 94, 105] 113 dX7_property_8 (by decide) (by decide) (by decide) (by decide) h (fun h => ?_) ⟨fun h => ?_, fun h => ?_, fun h => ?_, fun h => ?_, fun h => ?_, fun h => ?_, fun h => ?_, fun h => ?_, fun h => ?_, fun h => ?_, trivial⟩
  · refine r_aload_n 0 dX7_property_113 rfl ?_
    refine r_getr fd_X7_31 rfl dX7_property_114 h (fun x3 h => ?_)
    refine r_iload_n 1 dX7_property_117 rfl ?_
    refine r_iconst (v := 3) dX7_property_118 rfl rfl ?_
    refine r_isub dX7_property_119 ?_
    refine r_callV (K' := Y_X1_rule) (R' := R_X1_rule) (idx := 123) (n := 1) (b := x3) (as := [(0, (w32 (a1 - 3)))]) (rest := []) (C' := 0) (D' := 0) (cn := 1) rfl k0_X1_rule kV_X1_rule kl_X7_123 ⟨by decide, by decide⟩ dX7_property_120 rfl rfl (Nat.le_of_ble_eq_true rfl) (by decide) (by decide) rfl h (fun r hr => m_X1_rule hl0 ⟨r, hr, hr⟩) (fun x4 τ5 _ h => ?_)
    exact r_iret rfl dX7_property_123 h
  · refine r_aload_n 0 dX7_property_64 rfl ?_
    refine r_getr fd_X7_31 rfl dX7_property_65 h (fun x6 h => ?_)
    refine r_getr fd_X7_87 rfl dX7_property_68 h (fun x7 h => ?_)
    refine r_getf fd_X7_91 rfl dX7_property_71 h (fun x8 h => ?_)
    exact r_iret rfl dX7_property_74 h
  · refine r_aload_n 0 dX7_property_75 rfl ?_
    refine r_getr fd_X7_31 rfl dX7_property_76 h (fun x9 h => ?_)
    refine r_getr fd_X7_106 rfl dX7_property_79 h (fun x10 h => ?_)
    refine r_getf fd_X7_91 rfl dX7_property_82 h (fun x11 h => ?_)
    exact r_iret rfl dX7_property_85 h
  · refine r_aload_n 0 dX7_property_86 rfl ?_
    refine r_getr fd_X7_31 rfl dX7_property_87 h (fun x12 h => ?_)
    refine r_getf fd_X7_109 rfl dX7_property_90 h (fun x13 h => ?_)
    exact r_iret rfl dX7_property_93 h
  · refine r_aload_n 0 dX7_property_113 rfl ?_
    refine r_getr fd_X7_31 rfl dX7_property_114 h (fun x14 h => ?_)
    refine r_iload_n 1 dX7_property_117 rfl ?_
    refine r_iconst (v := 3) dX7_property_118 rfl rfl ?_
    refine r_isub dX7_property_119 ?_
    refine r_callV (K' := Y_X1_rule) (R' := R_X1_rule) (idx := 123) (n := 1) (b := x14) (as := [(0, (w32 (a1 - 3)))]) (rest := []) (C' := 0) (D' := 0) (cn := 1) rfl k0_X1_rule kV_X1_rule kl_X7_123 ⟨by decide, by decide⟩ dX7_property_120 rfl rfl (Nat.le_of_ble_eq_true rfl) (by decide) (by decide) rfl h (fun r hr => m_X1_rule hl0 ⟨r, hr, hr⟩) (fun x15 τ16 _ h => ?_)
    exact r_iret rfl dX7_property_123 h
  · refine r_aload_n 0 dX7_property_113 rfl ?_
    refine r_getr fd_X7_31 rfl dX7_property_114 h (fun x17 h => ?_)
    refine r_iload_n 1 dX7_property_117 rfl ?_
    refine r_iconst (v := 3) dX7_property_118 rfl rfl ?_
    refine r_isub dX7_property_119 ?_
    refine r_callV (K' := Y_X1_rule) (R' := R_X1_rule) (idx := 123) (n := 1) (b := x17) (as := [(0, (w32 (a1 - 3)))]) (rest := []) (C' := 0) (D' := 0) (cn := 1) rfl k0_X1_rule kV_X1_rule kl_X7_123 ⟨by decide, by decide⟩ dX7_property_120 rfl rfl (Nat.le_of_ble_eq_true rfl) (by decide) (by decide) rfl h (fun r hr => m_X1_rule hl0 ⟨r, hr, hr⟩) (fun x18 τ19 _ h => ?_)
    exact r_iret rfl dX7_property_123 h
  · refine r_aload_n 0 dX7_property_113 rfl ?_
    refine r_getr fd_X7_31 rfl dX7_property_114 h (fun x20 h => ?_)
    refine r_iload_n 1 dX7_property_117 rfl ?_
    refine r_iconst (v := 3) dX7_property_118 rfl rfl ?_
    refine r_isub dX7_property_119 ?_
    refine r_callV (K' := Y_X1_rule) (R' := R_X1_rule) (idx := 123) (n := 1) (b := x20) (as := [(0, (w32 (a1 - 3)))]) (rest := []) (C' := 0) (D' := 0) (cn := 1) rfl k0_X1_rule kV_X1_rule kl_X7_123 ⟨by decide, by decide⟩ dX7_property_120 rfl rfl (Nat.le_of_ble_eq_true rfl) (by decide) (by decide) rfl h (fun r hr => m_X1_rule hl0 ⟨r, hr, hr⟩) (fun x21 τ22 _ h => ?_)
    exact r_iret rfl dX7_property_123 h
  · refine r_aload_n 0 dX7_property_113 rfl ?_
    refine r_getr fd_X7_31 rfl dX7_property_114 h (fun x23 h => ?_)
    refine r_iload_n 1 dX7_property_117 rfl ?_
    refine r_iconst (v := 3) dX7_property_118 rfl rfl ?_
    refine r_isub dX7_property_119 ?_
    refine r_callV (K' := Y_X1_rule) (R' := R_X1_rule) (idx := 123) (n := 1) (b := x23) (as := [(0, (w32 (a1 - 3)))]) (rest := []) (C' := 0) (D' := 0) (cn := 1) rfl k0_X1_rule kV_X1_rule kl_X7_123 ⟨by decide, by decide⟩ dX7_property_120 rfl rfl (Nat.le_of_ble_eq_true rfl) (by decide) (by decide) rfl h (fun r hr => m_X1_rule hl0 ⟨r, hr, hr⟩) (fun x24 τ25 _ h => ?_)
    exact r_iret rfl dX7_property_123 h
  · refine r_aload_n 0 dX7_property_113 rfl ?_
    refine r_getr fd_X7_31 rfl dX7_property_114 h (fun x26 h => ?_)
    refine r_iload_n 1 dX7_property_117 rfl ?_
    refine r_iconst (v := 3) dX7_property_118 rfl rfl ?_
    refine r_isub dX7_property_119 ?_
    refine r_callV (K' := Y_X1_rule) (R' := R_X1_rule) (idx := 123) (n := 1) (b := x26) (as := [(0, (w32 (a1 - 3)))]) (rest := []) (C' := 0) (D' := 0) (cn := 1) rfl k0_X1_rule kV_X1_rule kl_X7_123 ⟨by decide, by decide⟩ dX7_property_120 rfl rfl (Nat.le_of_ble_eq_true rfl) (by decide) (by decide) rfl h (fun r hr => m_X1_rule hl0 ⟨r, hr, hr⟩) (fun x27 τ28 _ h => ?_)
    exact r_iret rfl dX7_property_123 h
  · refine r_aload_n 0 dX7_property_94 rfl ?_
    refine r_getr fd_X7_31 rfl dX7_property_95 h (fun x29 h => ?_)
    refine r_getr fd_X7_112 rfl dX7_property_98 h (fun x30 h => ?_)
    refine r_getf fd_X7_116 rfl dX7_property_101 h (fun x31 h => ?_)
    exact r_iret rfl dX7_property_104 h
  · refine r_aload_n 0 dX7_property_105 rfl ?_
    refine r_getr fd_X7_31 rfl dX7_property_106 h (fun x32 h => ?_)
    refine r_callV (K' := Y_X1_linkCount) (R' := R_X1_linkCount) (idx := 119) (n := 0) (b := x32) (as := []) (rest := []) (C' := 0) (D' := 0) (cn := 1) rfl k0_X1_linkCount kV_X1_linkCount kl_X7_119 ⟨by decide, by decide⟩ dX7_property_109 rfl rfl (Nat.le_of_ble_eq_true rfl) (by decide) (by decide) rfl h (fun r hr => m_X1_linkCount hl0 ⟨r, hr, hr⟩) (fun x33 τ34 _ h => ?_)
    exact r_iret rfl dX7_property_112 h
theorem m_X7_property {g : zF} (hl0 : g.2.2.2.1.stackTraces = false) {Q : zR × zS → Prop} {a0 a1 : Int} {σ : zS} (h : zo (f_X7_property a0 a1 σ) Q) : zm g Y_X7_property R_X7_property [(4, a0), (0, a1)] σ Q := zm_of (by decide) rfl (Nat.le_of_ble_eq_true rfl) (t_X7_property hl0 h)


/- X7_checkAgent -/

set_option maxRecDepth 100000 in
set_option maxHeartbeats 4000000 in
theorem t_X7_checkAgent {g : zF} (hl0 : g.2.2.2.1.stackTraces = false) {Q : zR × zS → Prop}   {a0 a1 : Int} {σ : zS} (h : zo (f_X7_checkAgent  a0 a1 σ) Q) : zw g Y_X7_checkAgent R_X7_checkAgent 0 [(0, (4, a0)), (1, (0, a1))] [] σ 1 6 Q := by
  unfold f_X7_checkAgent at h
  refine r_iload_n 1 dX7_checkAgent_0 rfl ?_
  refine r_if_lt 18 dX7_checkAgent_1 (by decide) h (fun h => ?_) (fun h => ?_)
  · exact r_throwW hl0 rfl (th_X7_309_317_313 _ rfl) dX7_checkAgent_18 dX7_checkAgent_21 dX7_checkAgent_22 dX7_checkAgent_25 dX7_checkAgent_28 (by decide) (Nat.le_of_ble_eq_true rfl) (by decide) (by decide) h
  · refine r_iload_n 1 dX7_checkAgent_4 rfl ?_
    refine r_aload_n 0 dX7_checkAgent_5 rfl ?_
    refine r_getr fd_X7_31 rfl dX7_checkAgent_6 h (fun x1 h => ?_)
    refine r_getr fd_X7_87 rfl dX7_checkAgent_9 h (fun x2 h => ?_)
    refine r_getf fd_X7_91 rfl dX7_checkAgent_12 h (fun x3 h => ?_)
    refine r_icmp_lt 29 dX7_checkAgent_15 (by decide) h (fun h => ?_) (fun h => ?_)
    · refine r_room (C' := 0) (D' := 0) (by omega) (by omega) ?_
      exact r_vret rfl dX7_checkAgent_29 h
    · exact r_throwW hl0 rfl (th_X7_309_317_313 _ rfl) dX7_checkAgent_18 dX7_checkAgent_21 dX7_checkAgent_22 dX7_checkAgent_25 dX7_checkAgent_28 (by decide) (Nat.le_of_ble_eq_true rfl) (by decide) (by decide) h
theorem m_X7_checkAgent {g : zF} (hl0 : g.2.2.2.1.stackTraces = false) {Q : zR × zS → Prop} {a0 a1 : Int} {σ : zS} (h : zo (f_X7_checkAgent a0 a1 σ) Q) : zm g Y_X7_checkAgent R_X7_checkAgent [(4, a0), (0, a1)] σ Q := zm_of (by decide) rfl (Nat.le_of_ble_eq_true rfl) (t_X7_checkAgent hl0 h)


/- X7_trust -/

set_option maxRecDepth 100000 in
set_option maxHeartbeats 4000000 in
theorem t_X7_trust {g : zF} (hl0 : g.2.2.2.1.stackTraces = false) {Q : zR × zS → Prop}   {a0 a1 a2 : Int} {σ : zS} (h : zo (f_X7_trust  a0 a1 a2 σ) Q) : zw g Y_X7_trust R_X7_trust 0 [(0, (4, a0)), (1, (0, a1)), (2, (0, a2))] [] σ 2 12 Q := by
  unfold f_X7_trust at h
  refine r_aload_n 0 dX7_trust_0 rfl ?_
  refine r_iload_n 1 dX7_trust_1 rfl ?_
  refine r_callV (K' := Y_X7_checkAgent) (R' := R_X7_checkAgent) (idx := 127) (n := 1) (b := a0) (as := [(0, a1)]) (rest := []) (C' := 1) (D' := 6) (cn := 7) rfl k0_X7_checkAgent kV_X7_checkAgent kl_X7_127 ⟨by decide, by decide⟩ dX7_trust_2 rfl rfl (Nat.le_of_ble_eq_true rfl) (by decide) (by decide) rfl h (fun r hr => m_X7_checkAgent hl0 ⟨r, hr, hr⟩) (fun _ τ2 _ h => ?_)
  refine r_aload_n 0 dX7_trust_5 rfl ?_
  refine r_iload_n 2 dX7_trust_6 rfl ?_
  refine r_callV (K' := Y_X7_checkAgent) (R' := R_X7_checkAgent) (idx := 127) (n := 1) (b := a0) (as := [(0, a2)]) (rest := []) (C' := 0) (D' := 0) (cn := 7) rfl k0_X7_checkAgent kV_X7_checkAgent kl_X7_127 ⟨by decide, by decide⟩ dX7_trust_7 rfl rfl (Nat.le_of_ble_eq_true rfl) (by decide) (by decide) rfl h (fun r hr => m_X7_checkAgent hl0 ⟨r, hr, hr⟩) (fun _ τ4 _ h => ?_)
  refine r_aload_n 0 dX7_trust_10 rfl ?_
  refine r_getr fd_X7_31 rfl dX7_trust_11 h (fun x5 h => ?_)
  refine r_iload_n 1 dX7_trust_14 rfl ?_
  refine r_iload_n 2 dX7_trust_15 rfl ?_
  refine r_callV (K' := Y_X1_trustIn) (R' := R_X1_trustIn) (idx := 130) (n := 2) (b := x5) (as := [(0, a1), (0, a2)]) (rest := []) (C' := 0) (D' := 0) (cn := 1) rfl k0_X1_trustIn kV_X1_trustIn kl_X7_130 ⟨by decide, by decide⟩ dX7_trust_16 rfl rfl (Nat.le_of_ble_eq_true rfl) (by decide) (by decide) rfl h (fun r hr => m_X1_trustIn hl0 ⟨r, hr, hr⟩) (fun x6 τ7 _ h => ?_)
  exact r_iret rfl dX7_trust_19 h
theorem m_X7_trust {g : zF} (hl0 : g.2.2.2.1.stackTraces = false) {Q : zR × zS → Prop} {a0 a1 a2 : Int} {σ : zS} (h : zo (f_X7_trust a0 a1 a2 σ) Q) : zm g Y_X7_trust R_X7_trust [(4, a0), (0, a1), (0, a2)] σ Q := zm_of (by decide) rfl (Nat.le_of_ble_eq_true rfl) (t_X7_trust hl0 h)


/- X7_neighbors -/

set_option maxRecDepth 100000 in
set_option maxHeartbeats 4000000 in
theorem t_X7_neighbors_41 {g : zF} (hl0 : g.2.2.2.1.stackTraces = false) {Q : zR × zS → Prop} (r9 : Int → Int → Int → Int → zS → zFn) (hr9 : ∀ b0 b1 b2 b3 τ, zo (r9 b0 b1 b2 b3 τ) Q → zw g Y_X7_neighbors R_X7_neighbors 9 [(0, (4, b0)), (1, (0, b1)), (2, (0, b2)), (3, (0, b3))] [] τ 0 0 Q) {a0 a1 a2 a3 : Int} {σ : zS} (h : zo (f_X7_neighbors_41 r9 a0 a1 a2 a3 σ) Q) : zw g Y_X7_neighbors R_X7_neighbors 41 [(0, (4, a0)), (1, (0, a1)), (2, (0, a2)), (3, (0, a3))] [] σ 0 0 Q := by
  unfold f_X7_neighbors_41 at h
  refine r_iinc (L' := [(3, (0, (w32 (a3 + 1)))), (0, (4, a0)), (1, (0, a1)), (2, (0, a2))]) 3 dX7_neighbors_41 rfl (by decide) rfl ?_
  refine r_goto 9 dX7_neighbors_44 (by decide) ?_
  refine r_weak (L' := [(0, (4, a0)), (1, (0, a1)), (2, (0, a2)), (3, (0, (w32 (a3 + 1))))]) [1, 2, 3, 0] rfl ?_
  exact hr9 _ _ _ _ _ h

set_option maxRecDepth 100000 in
set_option maxHeartbeats 4000000 in
theorem t_X7_neighbors_9 {g : zF} (hl0 : g.2.2.2.1.stackTraces = false) {Q : zR × zS → Prop}   : ∀ (n : Nat) (a0 a1 a2 a3 : Int) (σ : zS), zo (f_X7_neighbors_9  n a0 a1 a2 a3 σ) Q → zw g Y_X7_neighbors R_X7_neighbors 9 [(0, (4, a0)), (1, (0, a1)), (2, (0, a2)), (3, (0, a3))] [] σ 0 0 Q := by
  intro n
  induction n with
  | zero => intro a0 a1 a2 a3 σ h; obtain ⟨r, h, -⟩ := h; cases h
  | succ n ih =>
    intro a0 a1 a2 a3 σ h
    unfold f_X7_neighbors_9 at h
    refine r_iload_n 3 dX7_neighbors_9 rfl ?_
    refine r_aload_n 0 dX7_neighbors_10 rfl ?_
    refine r_getr fd_X7_31 rfl dX7_neighbors_11 h (fun x1 h => ?_)
    refine r_getr fd_X7_87 rfl dX7_neighbors_14 h (fun x2 h => ?_)
    refine r_getf fd_X7_91 rfl dX7_neighbors_17 h (fun x3 h => ?_)
    refine r_icmp_ge 47 dX7_neighbors_20 (by decide) h (fun h => ?_) (fun h => ?_)
    · refine r_iload_n 2 dX7_neighbors_47 rfl ?_
      exact r_iret rfl dX7_neighbors_48 h
    · refine r_aload_n 0 dX7_neighbors_23 rfl ?_
      refine r_getr fd_X7_31 rfl dX7_neighbors_24 h (fun x4 h => ?_)
      refine r_iload_n 1 dX7_neighbors_27 rfl ?_
      refine r_iload_n 3 dX7_neighbors_28 rfl ?_
      refine r_callV (K' := Y_X1_isLinked) (R' := R_X1_isLinked) (idx := 134) (n := 2) (b := x4) (as := [(0, a1), (0, a3)]) (rest := []) (C' := 0) (D' := 0) (cn := 1) rfl k0_X1_isLinked kV_X1_isLinked kl_X7_134 ⟨by decide, by decide⟩ dX7_neighbors_29 rfl rfl (Nat.le_of_ble_eq_true rfl) (by decide) (by decide) rfl h (fun r hr => m_X1_isLinked hl0 ⟨r, hr, hr⟩) (fun x5 τ6 _ h => ?_)
      refine r_if_eq 41 dX7_neighbors_32 (by decide) h (fun h => ?_) (fun h => ?_)
      · exact t_X7_neighbors_41 hl0 (f_X7_neighbors_9  n) (fun b0 b1 b2 b3 τ h => ih b0 b1 b2 b3 τ h) h
      · refine r_iload_n 2 dX7_neighbors_35 rfl ?_
        refine r_iconst (v := 1) dX7_neighbors_36 rfl rfl ?_
        refine r_iload_n 3 dX7_neighbors_37 rfl ?_
        refine r_ishl dX7_neighbors_38 ?_
        refine r_ior dX7_neighbors_39 ?_
        refine r_istore_n (L' := [(2, (0, (zor a2 (zshl 1 a3)))), (0, (4, a0)), (1, (0, a1)), (3, (0, a3))]) dX7_neighbors_40 (by decide) rfl ?_
        refine r_weak (L' := [(0, (4, a0)), (1, (0, a1)), (2, (0, (zor a2 (zshl 1 a3)))), (3, (0, a3))]) [1, 2, 0, 3] rfl ?_
        exact t_X7_neighbors_41 hl0 (f_X7_neighbors_9  n) (fun b0 b1 b2 b3 τ h => ih b0 b1 b2 b3 τ h) h

set_option maxRecDepth 100000 in
set_option maxHeartbeats 4000000 in
theorem t_X7_neighbors {g : zF} (hl0 : g.2.2.2.1.stackTraces = false) {Q : zR × zS → Prop}   {a0 a1 : Int} {σ : zS} (h : zo (f_X7_neighbors  a0 a1 σ) Q) : zw g Y_X7_neighbors R_X7_neighbors 0 [(0, (4, a0)), (1, (0, a1))] [] σ 1 6 Q := by
  unfold f_X7_neighbors at h
  refine r_aload_n 0 dX7_neighbors_0 rfl ?_
  refine r_iload_n 1 dX7_neighbors_1 rfl ?_
  refine r_callV (K' := Y_X7_checkAgent) (R' := R_X7_checkAgent) (idx := 127) (n := 1) (b := a0) (as := [(0, a1)]) (rest := []) (C' := 0) (D' := 0) (cn := 7) rfl k0_X7_checkAgent kV_X7_checkAgent kl_X7_127 ⟨by decide, by decide⟩ dX7_neighbors_2 rfl rfl (Nat.le_of_ble_eq_true rfl) (by decide) (by decide) rfl h (fun r hr => m_X7_checkAgent hl0 ⟨r, hr, hr⟩) (fun _ τ2 _ h => ?_)
  refine r_iconst (v := 0) dX7_neighbors_5 rfl rfl ?_
  refine r_istore_n (L' := [(2, (0, 0)), (0, (4, a0)), (1, (0, a1))]) dX7_neighbors_6 (by decide) rfl ?_
  refine r_iconst (v := 0) dX7_neighbors_7 rfl rfl ?_
  refine r_istore_n (L' := [(3, (0, 0)), (2, (0, 0)), (0, (4, a0)), (1, (0, a1))]) dX7_neighbors_8 (by decide) rfl ?_
  refine r_weak (L' := [(0, (4, a0)), (1, (0, a1)), (2, (0, 0)), (3, (0, 0))]) [2, 3, 1, 0] rfl ?_
  exact t_X7_neighbors_9 hl0   zFU _ _ _ _ _ h
theorem m_X7_neighbors {g : zF} (hl0 : g.2.2.2.1.stackTraces = false) {Q : zR × zS → Prop} {a0 a1 : Int} {σ : zS} (h : zo (f_X7_neighbors a0 a1 σ) Q) : zm g Y_X7_neighbors R_X7_neighbors [(4, a0), (0, a1)] σ Q := zm_of (by decide) rfl (Nat.le_of_ble_eq_true rfl) (t_X7_neighbors hl0 h)


/- X7_distance -/

set_option maxRecDepth 100000 in
set_option maxHeartbeats 4000000 in
theorem t_X7_distance_17 {g : zF} (hl0 : g.2.2.2.1.stackTraces = false) {Q : zR × zS → Prop}   : ∀ (n : Nat) (a0 a2 a3 a4 : Int) (σ : zS), zo (f_X7_distance_17  n a0 a2 a3 a4 σ) Q → zw g Y_X7_distance R_X7_distance 17 [(0, (4, a0)), (2, (0, a2)), (3, (0, a3)), (4, (0, a4))] [] σ 0 0 Q := by
  intro n
  induction n with
  | zero => intro a0 a2 a3 a4 σ h; obtain ⟨r, h, -⟩ := h; cases h
  | succ n ih =>
    intro a0 a2 a3 a4 σ h
    unfold f_X7_distance_17 at h
    refine r_iload 3 dX7_distance_17 rfl ?_
    refine r_bipush (v := 6) dX7_distance_19 rfl rfl ?_
    refine r_icmp_ge 51 dX7_distance_21 (by decide) h (fun h => ?_) (fun h => ?_)
    · refine r_iconst (v := (-1)) dX7_distance_51 rfl rfl ?_
      exact r_iret rfl dX7_distance_52 h
    · refine r_iload_n 2 dX7_distance_24 rfl ?_
      refine r_iload_n 1 dX7_distance_25 rfl ?_
      refine r_callS (K' := Y_X7_contains) (R' := R_X7_contains) (idx := 138) (n := 2) (as := [(0, a3), (0, a2)]) (rest := []) (C' := 0) (D' := 0) rfl k0_X7_contains wd_876 kl_X7_138 ⟨by decide, by decide⟩ dX7_distance_26 rfl rfl (Nat.le_of_ble_eq_true rfl) (by decide) (by decide) h (fun r hr => m_X7_contains hl0 ⟨r, hr, hr⟩) (fun x1 τ2 _ h => ?_)
      refine r_if_eq 35 dX7_distance_29 (by decide) h (fun h => ?_) (fun h => ?_)
      · refine r_aload_n 0 dX7_distance_35 rfl ?_
        refine r_getr fd_X7_31 rfl dX7_distance_36 h (fun x3 h => ?_)
        refine r_iload_n 2 dX7_distance_39 rfl ?_
        refine r_iconst (v := 0) dX7_distance_40 rfl rfl ?_
        refine r_callV (K' := Y_X1_reachedFrom) (R' := R_X1_reachedFrom) (idx := 141) (n := 2) (b := x3) (as := [(0, a3), (0, 0)]) (rest := []) (C' := 0) (D' := 0) (cn := 1) rfl k0_X1_reachedFrom kV_X1_reachedFrom kl_X7_141 ⟨by decide, by decide⟩ dX7_distance_41 rfl rfl (Nat.le_of_ble_eq_true rfl) (by decide) (by decide) rfl h (fun r hr => m_X1_reachedFrom hl0 ⟨r, hr, hr⟩) (fun x4 τ5 _ h => ?_)
        refine r_istore_n (L' := [(3, (0, x4)), (0, (4, a0)), (2, (0, a2)), (4, (0, a4))]) dX7_distance_44 (by decide) rfl ?_
        refine r_iinc (L' := [(4, (0, (w32 (a4 + 1)))), (3, (0, x4)), (0, (4, a0)), (2, (0, a2))]) 3 dX7_distance_45 rfl (by decide) rfl ?_
        refine r_goto 17 dX7_distance_48 (by decide) ?_
        refine r_weak (L' := [(0, (4, a0)), (2, (0, a2)), (3, (0, x4)), (4, (0, (w32 (a4 + 1))))]) [2, 3, 1, 0] rfl ?_
        exact ih _ _ _ _ _ h
      · refine r_iload 3 dX7_distance_32 rfl ?_
        exact r_iret rfl dX7_distance_34 h

set_option maxRecDepth 100000 in
set_option maxHeartbeats 4000000 in
theorem t_X7_distance {g : zF} (hl0 : g.2.2.2.1.stackTraces = false) {Q : zR × zS → Prop}   {a0 a1 a2 : Int} {σ : zS} (h : zo (f_X7_distance  a0 a1 a2 σ) Q) : zw g Y_X7_distance R_X7_distance 0 [(0, (4, a0)), (1, (0, a1)), (2, (0, a2))] [] σ 2 12 Q := by
  unfold f_X7_distance at h
  refine r_aload_n 0 dX7_distance_0 rfl ?_
  refine r_iload_n 1 dX7_distance_1 rfl ?_
  refine r_callV (K' := Y_X7_checkAgent) (R' := R_X7_checkAgent) (idx := 127) (n := 1) (b := a0) (as := [(0, a1)]) (rest := []) (C' := 1) (D' := 6) (cn := 7) rfl k0_X7_checkAgent kV_X7_checkAgent kl_X7_127 ⟨by decide, by decide⟩ dX7_distance_2 rfl rfl (Nat.le_of_ble_eq_true rfl) (by decide) (by decide) rfl h (fun r hr => m_X7_checkAgent hl0 ⟨r, hr, hr⟩) (fun _ τ2 _ h => ?_)
  refine r_aload_n 0 dX7_distance_5 rfl ?_
  refine r_iload_n 2 dX7_distance_6 rfl ?_
  refine r_callV (K' := Y_X7_checkAgent) (R' := R_X7_checkAgent) (idx := 127) (n := 1) (b := a0) (as := [(0, a2)]) (rest := []) (C' := 0) (D' := 0) (cn := 7) rfl k0_X7_checkAgent kV_X7_checkAgent kl_X7_127 ⟨by decide, by decide⟩ dX7_distance_7 rfl rfl (Nat.le_of_ble_eq_true rfl) (by decide) (by decide) rfl h (fun r hr => m_X7_checkAgent hl0 ⟨r, hr, hr⟩) (fun _ τ4 _ h => ?_)
  refine r_iconst (v := 1) dX7_distance_10 rfl rfl ?_
  refine r_iload_n 1 dX7_distance_11 rfl ?_
  refine r_ishl dX7_distance_12 ?_
  refine r_istore_n (L' := [(3, (0, (zshl 1 a1))), (0, (4, a0)), (1, (0, a1)), (2, (0, a2))]) dX7_distance_13 (by decide) rfl ?_
  refine r_iconst (v := 0) dX7_distance_14 rfl rfl ?_
  refine r_istore (L' := [(4, (0, 0)), (3, (0, (zshl 1 a1))), (0, (4, a0)), (1, (0, a1)), (2, (0, a2))]) dX7_distance_15 (by decide) rfl ?_
  refine r_weak (L' := [(0, (4, a0)), (2, (0, a2)), (3, (0, (zshl 1 a1))), (4, (0, 0))]) [2, 4, 1, 0] rfl ?_
  exact t_X7_distance_17 hl0   zFU _ _ _ _ _ h
theorem m_X7_distance {g : zF} (hl0 : g.2.2.2.1.stackTraces = false) {Q : zR × zS → Prop} {a0 a1 a2 : Int} {σ : zS} (h : zo (f_X7_distance a0 a1 a2 σ) Q) : zm g Y_X7_distance R_X7_distance [(4, a0), (0, a1), (0, a2)] σ Q := zm_of (by decide) rfl (Nat.le_of_ble_eq_true rfl) (t_X7_distance hl0 h)


/- X7_bottleneck -/

set_option maxRecDepth 100000 in
set_option maxHeartbeats 4000000 in
theorem t_X7_bottleneck_50 {g : zF} (hl0 : g.2.2.2.1.stackTraces = false) {Q : zR × zS → Prop} (r13 : Int → Int → Int → Int → zS → zFn) (hr13 : ∀ b0 b1 b2 b3 τ, zo (r13 b0 b1 b2 b3 τ) Q → zw g Y_X7_bottleneck R_X7_bottleneck 13 [(0, (4, b0)), (1, (0, b1)), (2, (0, b2)), (3, (0, b3))] [] τ 0 0 Q) {a0 a1 a2 a3 a4 : Int} {σ : zS} (h : zo (f_X7_bottleneck_50 r13 a0 a1 a2 a3 a4 σ) Q) : zw g Y_X7_bottleneck R_X7_bottleneck 50 [(0, (4, a0)), (1, (0, a1)), (2, (0, a2)), (3, (0, a3)), (4, (0, a4))] [] σ 0 0 Q := by
  unfold f_X7_bottleneck_50 at h
  refine r_iload 4 dX7_bottleneck_50 rfl ?_
  refine r_iload_n 2 dX7_bottleneck_52 rfl ?_
  refine r_callS (K' := Y_X7_contains) (R' := R_X7_contains) (idx := 138) (n := 2) (as := [(0, a4), (0, a2)]) (rest := []) (C' := 0) (D' := 0) rfl k0_X7_contains wd_876 kl_X7_138 ⟨by decide, by decide⟩ dX7_bottleneck_53 rfl rfl (Nat.le_of_ble_eq_true rfl) (by decide) (by decide) h (fun r hr => m_X7_contains hl0 ⟨r, hr, hr⟩) (fun x1 τ2 _ h => ?_)
  refine r_if_eq 61 dX7_bottleneck_56 (by decide) h (fun h => ?_) (fun h => ?_)
  · refine r_iinc (L' := [(3, (0, (w32 (a3 + (-1))))), (0, (4, a0)), (1, (0, a1)), (2, (0, a2)), (4, (0, a4))]) 3 dX7_bottleneck_61 rfl (by decide) rfl ?_
    refine r_goto 13 dX7_bottleneck_64 (by decide) ?_
    refine r_weak (L' := [(0, (4, a0)), (1, (0, a1)), (2, (0, a2)), (3, (0, (w32 (a3 + (-1)))))]) [1, 2, 3, 0] rfl ?_
    exact hr13 _ _ _ _ _ h
  · refine r_iload_n 3 dX7_bottleneck_59 rfl ?_
    exact r_iret rfl dX7_bottleneck_60 h

set_option maxRecDepth 100000 in
set_option maxHeartbeats 4000000 in
theorem t_X7_bottleneck_25 {g : zF} (hl0 : g.2.2.2.1.stackTraces = false) {Q : zR × zS → Prop} (r13 : Int → Int → Int → Int → zS → zFn) (hr13 : ∀ b0 b1 b2 b3 τ, zo (r13 b0 b1 b2 b3 τ) Q → zw g Y_X7_bottleneck R_X7_bottleneck 13 [(0, (4, b0)), (1, (0, b1)), (2, (0, b2)), (3, (0, b3))] [] τ 0 0 Q) : ∀ (n : Nat) (a0 a1 a2 a3 a4 a5 : Int) (σ : zS), zo (f_X7_bottleneck_25 r13 n a0 a1 a2 a3 a4 a5 σ) Q → zw g Y_X7_bottleneck R_X7_bottleneck 25 [(0, (4, a0)), (1, (0, a1)), (2, (0, a2)), (3, (0, a3)), (4, (0, a4)), (5, (0, a5))] [] σ 0 0 Q := by
  intro n
  induction n with
  | zero => intro a0 a1 a2 a3 a4 a5 σ h; obtain ⟨r, h, -⟩ := h; cases h
  | succ n ih =>
    intro a0 a1 a2 a3 a4 a5 σ h
    unfold f_X7_bottleneck_25 at h
    refine r_iload 5 dX7_bottleneck_25 rfl ?_
    refine r_bipush (v := 6) dX7_bottleneck_27 rfl rfl ?_
    refine r_icmp_ge 50 dX7_bottleneck_29 (by decide) h (fun h => ?_) (fun h => ?_)
    · refine r_weak (L' := [(0, (4, a0)), (1, (0, a1)), (2, (0, a2)), (3, (0, a3)), (4, (0, a4))]) [0, 1, 2, 3, 4] rfl ?_
      exact t_X7_bottleneck_50 hl0 r13 hr13 h
    · refine r_aload_n 0 dX7_bottleneck_32 rfl ?_
      refine r_getr fd_X7_31 rfl dX7_bottleneck_33 h (fun x1 h => ?_)
      refine r_iload 4 dX7_bottleneck_36 rfl ?_
      refine r_iload_n 3 dX7_bottleneck_38 rfl ?_
      refine r_callV (K' := Y_X1_reachedFrom) (R' := R_X1_reachedFrom) (idx := 141) (n := 2) (b := x1) (as := [(0, a4), (0, a3)]) (rest := []) (C' := 0) (D' := 0) (cn := 1) rfl k0_X1_reachedFrom kV_X1_reachedFrom kl_X7_141 ⟨by decide, by decide⟩ dX7_bottleneck_39 rfl rfl (Nat.le_of_ble_eq_true rfl) (by decide) (by decide) rfl h (fun r hr => m_X1_reachedFrom hl0 ⟨r, hr, hr⟩) (fun x2 τ3 _ h => ?_)
      refine r_istore (L' := [(4, (0, x2)), (0, (4, a0)), (1, (0, a1)), (2, (0, a2)), (3, (0, a3)), (5, (0, a5))]) dX7_bottleneck_42 (by decide) rfl ?_
      refine r_iinc (L' := [(5, (0, (w32 (a5 + 1)))), (4, (0, x2)), (0, (4, a0)), (1, (0, a1)), (2, (0, a2)), (3, (0, a3))]) 5 dX7_bottleneck_44 rfl (by decide) rfl ?_
      refine r_goto 25 dX7_bottleneck_47 (by decide) ?_
      refine r_weak (L' := [(0, (4, a0)), (1, (0, a1)), (2, (0, a2)), (3, (0, a3)), (4, (0, x2)), (5, (0, (w32 (a5 + 1))))]) [2, 3, 4, 5, 1, 0] rfl ?_
      exact ih _ _ _ _ _ _ _ h

set_option maxRecDepth 100000 in
set_option maxHeartbeats 4000000 in
theorem t_X7_bottleneck_13 {g : zF} (hl0 : g.2.2.2.1.stackTraces = false) {Q : zR × zS → Prop}   : ∀ (n : Nat) (a0 a1 a2 a3 : Int) (σ : zS), zo (f_X7_bottleneck_13  n a0 a1 a2 a3 σ) Q → zw g Y_X7_bottleneck R_X7_bottleneck 13 [(0, (4, a0)), (1, (0, a1)), (2, (0, a2)), (3, (0, a3))] [] σ 0 0 Q := by
  intro n
  induction n with
  | zero => intro a0 a1 a2 a3 σ h; obtain ⟨r, h, -⟩ := h; cases h
  | succ n ih =>
    intro a0 a1 a2 a3 σ h
    unfold f_X7_bottleneck_13 at h
    refine r_iload_n 3 dX7_bottleneck_13 rfl ?_
    refine r_if_lt 67 dX7_bottleneck_14 (by decide) h (fun h => ?_) (fun h => ?_)
    · refine r_iconst (v := (-1)) dX7_bottleneck_67 rfl rfl ?_
      exact r_iret rfl dX7_bottleneck_68 h
    · refine r_iconst (v := 1) dX7_bottleneck_17 rfl rfl ?_
      refine r_iload_n 1 dX7_bottleneck_18 rfl ?_
      refine r_ishl dX7_bottleneck_19 ?_
      refine r_istore (L' := [(4, (0, (zshl 1 a1))), (0, (4, a0)), (1, (0, a1)), (2, (0, a2)), (3, (0, a3))]) dX7_bottleneck_20 (by decide) rfl ?_
      refine r_iconst (v := 0) dX7_bottleneck_22 rfl rfl ?_
      refine r_istore (L' := [(5, (0, 0)), (4, (0, (zshl 1 a1))), (0, (4, a0)), (1, (0, a1)), (2, (0, a2)), (3, (0, a3))]) dX7_bottleneck_23 (by decide) rfl ?_
      refine r_weak (L' := [(0, (4, a0)), (1, (0, a1)), (2, (0, a2)), (3, (0, a3)), (4, (0, (zshl 1 a1))), (5, (0, 0))]) [2, 3, 4, 5, 1, 0] rfl ?_
      exact t_X7_bottleneck_25 hl0 (f_X7_bottleneck_13  n) (fun b0 b1 b2 b3 τ h => ih b0 b1 b2 b3 τ h) zFU _ _ _ _ _ _ _ h

set_option maxRecDepth 100000 in
set_option maxHeartbeats 4000000 in
theorem t_X7_bottleneck {g : zF} (hl0 : g.2.2.2.1.stackTraces = false) {Q : zR × zS → Prop}   {a0 a1 a2 : Int} {σ : zS} (h : zo (f_X7_bottleneck  a0 a1 a2 σ) Q) : zw g Y_X7_bottleneck R_X7_bottleneck 0 [(0, (4, a0)), (1, (0, a1)), (2, (0, a2))] [] σ 2 12 Q := by
  unfold f_X7_bottleneck at h
  refine r_aload_n 0 dX7_bottleneck_0 rfl ?_
  refine r_iload_n 1 dX7_bottleneck_1 rfl ?_
  refine r_callV (K' := Y_X7_checkAgent) (R' := R_X7_checkAgent) (idx := 127) (n := 1) (b := a0) (as := [(0, a1)]) (rest := []) (C' := 1) (D' := 6) (cn := 7) rfl k0_X7_checkAgent kV_X7_checkAgent kl_X7_127 ⟨by decide, by decide⟩ dX7_bottleneck_2 rfl rfl (Nat.le_of_ble_eq_true rfl) (by decide) (by decide) rfl h (fun r hr => m_X7_checkAgent hl0 ⟨r, hr, hr⟩) (fun _ τ2 _ h => ?_)
  refine r_aload_n 0 dX7_bottleneck_5 rfl ?_
  refine r_iload_n 2 dX7_bottleneck_6 rfl ?_
  refine r_callV (K' := Y_X7_checkAgent) (R' := R_X7_checkAgent) (idx := 127) (n := 1) (b := a0) (as := [(0, a2)]) (rest := []) (C' := 0) (D' := 0) (cn := 7) rfl k0_X7_checkAgent kV_X7_checkAgent kl_X7_127 ⟨by decide, by decide⟩ dX7_bottleneck_7 rfl rfl (Nat.le_of_ble_eq_true rfl) (by decide) (by decide) rfl h (fun r hr => m_X7_checkAgent hl0 ⟨r, hr, hr⟩) (fun _ τ4 _ h => ?_)
  refine r_bipush (v := 10) dX7_bottleneck_10 rfl rfl ?_
  refine r_istore_n (L' := [(3, (0, 10)), (0, (4, a0)), (1, (0, a1)), (2, (0, a2))]) dX7_bottleneck_12 (by decide) rfl ?_
  refine r_weak (L' := [(0, (4, a0)), (1, (0, a1)), (2, (0, a2)), (3, (0, 10))]) [1, 2, 3, 0] rfl ?_
  exact t_X7_bottleneck_13 hl0   zFU _ _ _ _ _ h
theorem m_X7_bottleneck {g : zF} (hl0 : g.2.2.2.1.stackTraces = false) {Q : zR × zS → Prop} {a0 a1 a2 : Int} {σ : zS} (h : zo (f_X7_bottleneck a0 a1 a2 σ) Q) : zm g Y_X7_bottleneck R_X7_bottleneck [(4, a0), (0, a1), (0, a2)] σ Q := zm_of (by decide) rfl (Nat.le_of_ble_eq_true rfl) (t_X7_bottleneck hl0 h)


/- X7_mostTrusted -/

set_option maxRecDepth 100000 in
set_option maxHeartbeats 4000000 in
theorem t_X7_mostTrusted_51 {g : zF} (hl0 : g.2.2.2.1.stackTraces = false) {Q : zR × zS → Prop} (r12 : Int → Int → Int → Int → Int → zS → zFn) (hr12 : ∀ b0 b1 b2 b3 b4 τ, zo (r12 b0 b1 b2 b3 b4 τ) Q → zw g Y_X7_mostTrusted R_X7_mostTrusted 12 [(0, (4, b0)), (1, (0, b1)), (2, (0, b2)), (3, (0, b3)), (4, (0, b4))] [] τ 0 0 Q) {a0 a1 a2 a3 a4 : Int} {σ : zS} (h : zo (f_X7_mostTrusted_51 r12 a0 a1 a2 a3 a4 σ) Q) : zw g Y_X7_mostTrusted R_X7_mostTrusted 51 [(0, (4, a0)), (1, (0, a1)), (2, (0, a2)), (3, (0, a3)), (4, (0, a4))] [] σ 0 0 Q := by
  unfold f_X7_mostTrusted_51 at h
  refine r_iinc (L' := [(4, (0, (w32 (a4 + 1)))), (0, (4, a0)), (1, (0, a1)), (2, (0, a2)), (3, (0, a3))]) 4 dX7_mostTrusted_51 rfl (by decide) rfl ?_
  refine r_goto 12 dX7_mostTrusted_54 (by decide) ?_
  refine r_weak (L' := [(0, (4, a0)), (1, (0, a1)), (2, (0, a2)), (3, (0, a3)), (4, (0, (w32 (a4 + 1))))]) [1, 2, 3, 4, 0] rfl ?_
  exact hr12 _ _ _ _ _ _ h

set_option maxRecDepth 100000 in
set_option maxHeartbeats 4000000 in
theorem t_X7_mostTrusted_12 {g : zF} (hl0 : g.2.2.2.1.stackTraces = false) {Q : zR × zS → Prop}   : ∀ (n : Nat) (a0 a1 a2 a3 a4 : Int) (σ : zS), zo (f_X7_mostTrusted_12  n a0 a1 a2 a3 a4 σ) Q → zw g Y_X7_mostTrusted R_X7_mostTrusted 12 [(0, (4, a0)), (1, (0, a1)), (2, (0, a2)), (3, (0, a3)), (4, (0, a4))] [] σ 0 0 Q := by
  intro n
  induction n with
  | zero => intro a0 a1 a2 a3 a4 σ h; obtain ⟨r, h, -⟩ := h; cases h
  | succ n ih =>
    intro a0 a1 a2 a3 a4 σ h
    unfold f_X7_mostTrusted_12 at h
    refine r_iload 4 dX7_mostTrusted_12 rfl ?_
    refine r_aload_n 0 dX7_mostTrusted_14 rfl ?_
    refine r_getr fd_X7_31 rfl dX7_mostTrusted_15 h (fun x1 h => ?_)
    refine r_getr fd_X7_87 rfl dX7_mostTrusted_18 h (fun x2 h => ?_)
    refine r_getf fd_X7_91 rfl dX7_mostTrusted_21 h (fun x3 h => ?_)
    refine r_icmp_ge 57 dX7_mostTrusted_24 (by decide) h (fun h => ?_) (fun h => ?_)
    · refine r_iload_n 2 dX7_mostTrusted_57 rfl ?_
      exact r_iret rfl dX7_mostTrusted_58 h
    · refine r_aload_n 0 dX7_mostTrusted_27 rfl ?_
      refine r_getr fd_X7_31 rfl dX7_mostTrusted_28 h (fun x4 h => ?_)
      refine r_iload_n 1 dX7_mostTrusted_31 rfl ?_
      refine r_iload 4 dX7_mostTrusted_32 rfl ?_
      refine r_callV (K' := Y_X1_trustIn) (R' := R_X1_trustIn) (idx := 130) (n := 2) (b := x4) (as := [(0, a1), (0, a4)]) (rest := []) (C' := 0) (D' := 0) (cn := 1) rfl k0_X1_trustIn kV_X1_trustIn kl_X7_130 ⟨by decide, by decide⟩ dX7_mostTrusted_34 rfl rfl (Nat.le_of_ble_eq_true rfl) (by decide) (by decide) rfl h (fun r hr => m_X1_trustIn hl0 ⟨r, hr, hr⟩) (fun x5 τ6 _ h => ?_)
      refine r_istore (L' := [(5, (0, x5)), (0, (4, a0)), (1, (0, a1)), (2, (0, a2)), (3, (0, a3)), (4, (0, a4))]) dX7_mostTrusted_37 (by decide) rfl ?_
      refine r_iload 0 dX7_mostTrusted_39 rfl ?_
      refine r_iload_n 4 dX7_mostTrusted_41 rfl ?_
      refine r_icmp_le 51 dX7_mostTrusted_42 (by decide) h (fun h => ?_) (fun h => ?_)
      · refine r_weak (L' := [(0, (4, a0)), (1, (0, a1)), (2, (0, a2)), (3, (0, a3)), (4, (0, a4))]) [1, 2, 3, 4, 5] rfl ?_
        exact t_X7_mostTrusted_51 hl0 (f_X7_mostTrusted_12  n) (fun b0 b1 b2 b3 b4 τ h => ih b0 b1 b2 b3 b4 τ h) h
      · refine r_iload 5 dX7_mostTrusted_45 rfl ?_
        refine r_istore_n (L' := [(2, (0, a4)), (5, (0, x5)), (0, (4, a0)), (1, (0, a1)), (3, (0, a3)), (4, (0, a4))]) dX7_mostTrusted_47 (by decide) rfl ?_
        refine r_iload 1 dX7_mostTrusted_48 rfl ?_
        refine r_istore_n (L' := [(3, (0, x5)), (2, (0, a4)), (5, (0, x5)), (0, (4, a0)), (1, (0, a1)), (4, (0, a4))]) dX7_mostTrusted_50 (by decide) rfl ?_
        refine r_weak (L' := [(0, (4, a0)), (1, (0, a1)), (2, (0, a4)), (3, (0, x5)), (4, (0, a4))]) [3, 4, 1, 0, 5] rfl ?_
        exact t_X7_mostTrusted_51 hl0 (f_X7_mostTrusted_12  n) (fun b0 b1 b2 b3 b4 τ h => ih b0 b1 b2 b3 b4 τ h) h

set_option maxRecDepth 100000 in
set_option maxHeartbeats 4000000 in
theorem t_X7_mostTrusted {g : zF} (hl0 : g.2.2.2.1.stackTraces = false) {Q : zR × zS → Prop}   {a0 a1 : Int} {σ : zS} (h : zo (f_X7_mostTrusted  a0 a1 σ) Q) : zw g Y_X7_mostTrusted R_X7_mostTrusted 0 [(0, (4, a0)), (1, (0, a1))] [] σ 1 6 Q := by
  unfold f_X7_mostTrusted at h
  refine r_aload_n 0 dX7_mostTrusted_0 rfl ?_
  refine r_iload_n 1 dX7_mostTrusted_1 rfl ?_
  refine r_callV (K' := Y_X7_checkAgent) (R' := R_X7_checkAgent) (idx := 127) (n := 1) (b := a0) (as := [(0, a1)]) (rest := []) (C' := 0) (D' := 0) (cn := 7) rfl k0_X7_checkAgent kV_X7_checkAgent kl_X7_127 ⟨by decide, by decide⟩ dX7_mostTrusted_2 rfl rfl (Nat.le_of_ble_eq_true rfl) (by decide) (by decide) rfl h (fun r hr => m_X7_checkAgent hl0 ⟨r, hr, hr⟩) (fun _ τ2 _ h => ?_)
  refine r_iconst (v := (-1)) dX7_mostTrusted_5 rfl rfl ?_
  refine r_istore_n (L' := [(2, (0, (-1))), (0, (4, a0)), (1, (0, a1))]) dX7_mostTrusted_6 (by decide) rfl ?_
  refine r_iconst (v := (-1)) dX7_mostTrusted_7 rfl rfl ?_
  refine r_istore_n (L' := [(3, (0, (-1))), (2, (0, (-1))), (0, (4, a0)), (1, (0, a1))]) dX7_mostTrusted_8 (by decide) rfl ?_
  refine r_iconst (v := 0) dX7_mostTrusted_9 rfl rfl ?_
  refine r_istore (L' := [(4, (0, 0)), (3, (0, (-1))), (2, (0, (-1))), (0, (4, a0)), (1, (0, a1))]) dX7_mostTrusted_10 (by decide) rfl ?_
  refine r_weak (L' := [(0, (4, a0)), (1, (0, a1)), (2, (0, (-1))), (3, (0, (-1))), (4, (0, 0))]) [3, 4, 2, 1, 0] rfl ?_
  exact t_X7_mostTrusted_12 hl0   zFU _ _ _ _ _ _ h
theorem m_X7_mostTrusted {g : zF} (hl0 : g.2.2.2.1.stackTraces = false) {Q : zR × zS → Prop} {a0 a1 : Int} {σ : zS} (h : zo (f_X7_mostTrusted a0 a1 σ) Q) : zm g Y_X7_mostTrusted R_X7_mostTrusted [(4, a0), (0, a1)] σ Q := zm_of (by decide) rfl (Nat.le_of_ble_eq_true rfl) (t_X7_mostTrusted hl0 h)


/- X7_reports -/

set_option maxRecDepth 100000 in
set_option maxHeartbeats 4000000 in
theorem t_X7_reports {g : zF} (hl0 : g.2.2.2.1.stackTraces = false) {Q : zR × zS → Prop}   {a0 a1 : Int} {σ : zS} (h : zo (f_X7_reports  a0 a1 σ) Q) : zw g Y_X7_reports R_X7_reports 0 [(0, (4, a0)), (1, (0, a1))] [] σ 1 6 Q := by
  unfold f_X7_reports at h
  refine r_aload_n 0 dX7_reports_0 rfl ?_
  refine r_iload_n 1 dX7_reports_1 rfl ?_
  refine r_callV (K' := Y_X7_checkAgent) (R' := R_X7_checkAgent) (idx := 127) (n := 1) (b := a0) (as := [(0, a1)]) (rest := []) (C' := 0) (D' := 0) (cn := 7) rfl k0_X7_checkAgent kV_X7_checkAgent kl_X7_127 ⟨by decide, by decide⟩ dX7_reports_2 rfl rfl (Nat.le_of_ble_eq_true rfl) (by decide) (by decide) rfl h (fun r hr => m_X7_checkAgent hl0 ⟨r, hr, hr⟩) (fun _ τ2 _ h => ?_)
  refine r_aload_n 0 dX7_reports_5 rfl ?_
  refine r_getr fd_X7_31 rfl dX7_reports_6 h (fun x3 h => ?_)
  refine r_iload_n 1 dX7_reports_9 rfl ?_
  refine r_callV (K' := Y_X1_listOf) (R' := R_X1_listOf) (idx := 144) (n := 1) (b := x3) (as := [(0, a1)]) (rest := []) (C' := 0) (D' := 0) (cn := 1) rfl k0_X1_listOf kV_X1_listOf kl_X7_144 ⟨by decide, by decide⟩ dX7_reports_10 rfl rfl (Nat.le_of_ble_eq_true rfl) (by decide) (by decide) rfl h (fun r hr => m_X1_listOf hl0 ⟨r, hr, hr⟩) (fun x4 τ5 _ h => ?_)
  refine r_getf fd_X7_116 rfl dX7_reports_13 h (fun x6 h => ?_)
  exact r_iret rfl dX7_reports_16 h
theorem m_X7_reports {g : zF} (hl0 : g.2.2.2.1.stackTraces = false) {Q : zR × zS → Prop} {a0 a1 : Int} {σ : zS} (h : zo (f_X7_reports a0 a1 σ) Q) : zm g Y_X7_reports R_X7_reports [(4, a0), (0, a1)] σ Q := zm_of (by decide) rfl (Nat.le_of_ble_eq_true rfl) (t_X7_reports hl0 h)


/- X7_checkReport -/

set_option maxRecDepth 100000 in
set_option maxHeartbeats 4000000 in
theorem t_X7_checkReport {g : zF} (hl0 : g.2.2.2.1.stackTraces = false) {Q : zR × zS → Prop}   {a0 a1 a2 : Int} {σ : zS} (h : zo (f_X7_checkReport  a0 a1 a2 σ) Q) : zw g Y_X7_checkReport R_X7_checkReport 0 [(0, (4, a0)), (1, (0, a1)), (2, (0, a2))] [] σ 2 12 Q := by
  unfold f_X7_checkReport at h
  refine r_aload_n 0 dX7_checkReport_0 rfl ?_
  refine r_iload_n 1 dX7_checkReport_1 rfl ?_
  refine r_callV (K' := Y_X7_checkAgent) (R' := R_X7_checkAgent) (idx := 127) (n := 1) (b := a0) (as := [(0, a1)]) (rest := []) (C' := 1) (D' := 6) (cn := 7) rfl k0_X7_checkAgent kV_X7_checkAgent kl_X7_127 ⟨by decide, by decide⟩ dX7_checkReport_2 rfl rfl (Nat.le_of_ble_eq_true rfl) (by decide) (by decide) rfl h (fun r hr => m_X7_checkAgent hl0 ⟨r, hr, hr⟩) (fun _ τ2 _ h => ?_)
  refine r_iload_n 2 dX7_checkReport_5 rfl ?_
  refine r_if_lt 24 dX7_checkReport_6 (by decide) h (fun h => ?_) (fun h => ?_)
  · exact r_throwW hl0 rfl (th_X7_309_321_313 _ rfl) dX7_checkReport_24 dX7_checkReport_27 dX7_checkReport_28 dX7_checkReport_31 dX7_checkReport_34 (by decide) (Nat.le_of_ble_eq_true rfl) (by decide) (by decide) h
  · refine r_iload_n 2 dX7_checkReport_9 rfl ?_
    refine r_aload_n 0 dX7_checkReport_10 rfl ?_
    refine r_getr fd_X7_31 rfl dX7_checkReport_11 h (fun x3 h => ?_)
    refine r_iload_n 1 dX7_checkReport_14 rfl ?_
    refine r_callV (K' := Y_X1_listOf) (R' := R_X1_listOf) (idx := 144) (n := 1) (b := x3) (as := [(0, a1)]) (rest := [(0, a2)]) (C' := 1) (D' := 6) (cn := 1) rfl k0_X1_listOf kV_X1_listOf kl_X7_144 ⟨by decide, by decide⟩ dX7_checkReport_15 rfl rfl (Nat.le_of_ble_eq_true rfl) (by decide) (by decide) rfl h (fun r hr => m_X1_listOf hl0 ⟨r, hr, hr⟩) (fun x4 τ5 _ h => ?_)
    refine r_getf fd_X7_116 rfl dX7_checkReport_18 h (fun x6 h => ?_)
    refine r_icmp_lt 35 dX7_checkReport_21 (by decide) h (fun h => ?_) (fun h => ?_)
    · refine r_room (C' := 0) (D' := 0) (by omega) (by omega) ?_
      exact r_vret rfl dX7_checkReport_35 h
    · exact r_throwW hl0 rfl (th_X7_309_321_313 _ rfl) dX7_checkReport_24 dX7_checkReport_27 dX7_checkReport_28 dX7_checkReport_31 dX7_checkReport_34 (by decide) (Nat.le_of_ble_eq_true rfl) (by decide) (by decide) h
theorem m_X7_checkReport {g : zF} (hl0 : g.2.2.2.1.stackTraces = false) {Q : zR × zS → Prop} {a0 a1 a2 : Int} {σ : zS} (h : zo (f_X7_checkReport a0 a1 a2 σ) Q) : zm g Y_X7_checkReport R_X7_checkReport [(4, a0), (0, a1), (0, a2)] σ Q := zm_of (by decide) rfl (Nat.le_of_ble_eq_true rfl) (t_X7_checkReport hl0 h)


/- X7_report -/

set_option maxRecDepth 100000 in
set_option maxHeartbeats 4000000 in
theorem t_X7_report {g : zF} (hl0 : g.2.2.2.1.stackTraces = false) {Q : zR × zS → Prop}   {a0 a1 a2 a3 : Int} {σ : zS} (h : zo (f_X7_report  a0 a1 a2 a3 σ) Q) : zw g Y_X7_report R_X7_report 0 [(0, (4, a0)), (1, (0, a1)), (2, (0, a2)), (3, (0, a3))] [] σ 3 18 Q := by
  unfold f_X7_report at h
  refine r_aload_n 0 dX7_report_0 rfl ?_
  refine r_iload_n 1 dX7_report_1 rfl ?_
  refine r_iload_n 2 dX7_report_2 rfl ?_
  refine r_callV (K' := Y_X7_checkReport) (R' := R_X7_checkReport) (idx := 148) (n := 2) (b := a0) (as := [(0, a1), (0, a2)]) (rest := []) (C' := 1) (D' := 6) (cn := 7) rfl k0_X7_checkReport kV_X7_checkReport kl_X7_148 ⟨by decide, by decide⟩ dX7_report_3 rfl rfl (Nat.le_of_ble_eq_true rfl) (by decide) (by decide) rfl h (fun r hr => m_X7_checkReport hl0 ⟨r, hr, hr⟩) (fun _ τ2 _ h => ?_)
  refine r_iload_n 3 dX7_report_6 rfl ?_
  refine r_iconst (v := 0) dX7_report_7 rfl rfl ?_
  refine r_bipush (v := 6) dX7_report_8 rfl rfl ?_
  refine r_callS (K' := Y_X7_checkRange) (R' := R_X7_checkRange) (idx := 72) (n := 3) (as := [(0, a3), (0, 0), (0, 6)]) (rest := []) (C' := 0) (D' := 0) rfl k0_X7_checkRange wd_801 kl_X7_72 ⟨by decide, by decide⟩ dX7_report_10 rfl rfl (Nat.le_of_ble_eq_true rfl) (by decide) (by decide) h (fun r hr => m_X7_checkRange hl0 ⟨r, hr, hr⟩) (fun _ τ4 _ h => ?_)
  refine r_aload_n 0 dX7_report_13 rfl ?_
  refine r_getr fd_X7_31 rfl dX7_report_14 h (fun x5 h => ?_)
  refine r_iload_n 1 dX7_report_17 rfl ?_
  refine r_callV (K' := Y_X1_listOf) (R' := R_X1_listOf) (idx := 144) (n := 1) (b := x5) (as := [(0, a1)]) (rest := []) (C' := 0) (D' := 0) (cn := 1) rfl k0_X1_listOf kV_X1_listOf kl_X7_144 ⟨by decide, by decide⟩ dX7_report_18 rfl rfl (Nat.le_of_ble_eq_true rfl) (by decide) (by decide) rfl h (fun r hr => m_X1_listOf hl0 ⟨r, hr, hr⟩) (fun x6 τ7 _ h => ?_)
  refine r_iload_n 2 dX7_report_21 rfl ?_
  refine r_iload_n 3 dX7_report_22 rfl ?_
  refine r_callV (K' := Y_X5_get) (R' := R_X5_get) (idx := 152) (n := 2) (b := x6) (as := [(0, a2), (0, a3)]) (rest := []) (C' := 0) (D' := 0) (cn := 5) rfl k0_X5_get kV_X5_get kl_X7_152 ⟨by decide, by decide⟩ dX7_report_23 rfl rfl (Nat.le_of_ble_eq_true rfl) (by decide) (by decide) rfl h (fun r hr => m_X5_get hl0 ⟨r, hr, hr⟩) (fun x8 τ9 _ h => ?_)
  exact r_iret rfl dX7_report_26 h
theorem m_X7_report {g : zF} (hl0 : g.2.2.2.1.stackTraces = false) {Q : zR × zS → Prop} {a0 a1 a2 a3 : Int} {σ : zS} (h : zo (f_X7_report a0 a1 a2 a3 σ) Q) : zm g Y_X7_report R_X7_report [(4, a0), (0, a1), (0, a2), (0, a3)] σ Q := zm_of (by decide) rfl (Nat.le_of_ble_eq_true rfl) (t_X7_report hl0 h)


/- X7_statusIn -/

set_option maxRecDepth 100000 in
set_option maxHeartbeats 4000000 in
theorem t_X7_statusIn {g : zF} (hl0 : g.2.2.2.1.stackTraces = false) {Q : zR × zS → Prop}   {a0 a1 a2 : Int} {σ : zS} (h : zo (f_X7_statusIn  a0 a1 a2 σ) Q) : zw g Y_X7_statusIn R_X7_statusIn 0 [(0, (4, a0)), (1, (0, a1)), (2, (0, a2))] [] σ 0 0 Q := by
  unfold f_X7_statusIn at h
  refine r_aload_n 0 dX7_statusIn_0 rfl ?_
  refine r_getr fd_X7_24 rfl dX7_statusIn_1 h (fun x1 h => ?_)
  refine r_aload_n 0 dX7_statusIn_4 rfl ?_
  refine r_getr fd_X7_31 rfl dX7_statusIn_5 h (fun x2 h => ?_)
  refine r_iload_n 1 dX7_statusIn_8 rfl ?_
  refine r_aload_n 0 dX7_statusIn_9 rfl ?_
  refine r_getr fd_X7_31 rfl dX7_statusIn_10 h (fun x3 h => ?_)
  refine r_iload_n 1 dX7_statusIn_13 rfl ?_
  refine r_callV (K' := Y_X1_listOf) (R' := R_X1_listOf) (idx := 144) (n := 1) (b := x3) (as := [(0, a1)]) (rest := [(0, a1), (4, x2), (4, x1)]) (C' := 0) (D' := 0) (cn := 1) rfl k0_X1_listOf kV_X1_listOf kl_X7_144 ⟨by decide, by decide⟩ dX7_statusIn_14 rfl rfl (Nat.le_of_ble_eq_true rfl) (by decide) (by decide) rfl h (fun r hr => m_X1_listOf hl0 ⟨r, hr, hr⟩) (fun x4 τ5 _ h => ?_)
  refine r_iload_n 2 dX7_statusIn_17 rfl ?_
  refine r_iconst (v := 3) dX7_statusIn_18 rfl rfl ?_
  refine r_callV (K' := Y_X5_get) (R' := R_X5_get) (idx := 152) (n := 2) (b := x4) (as := [(0, a2), (0, 3)]) (rest := [(0, a1), (4, x2), (4, x1)]) (C' := 0) (D' := 0) (cn := 5) rfl k0_X5_get kV_X5_get kl_X7_152 ⟨by decide, by decide⟩ dX7_statusIn_19 rfl rfl (Nat.le_of_ble_eq_true rfl) (by decide) (by decide) rfl h (fun r hr => m_X5_get hl0 ⟨r, hr, hr⟩) (fun x6 τ7 _ h => ?_)
  refine r_iconst (v := (-1)) dX7_statusIn_22 rfl rfl ?_
  refine r_callV (K' := Y_X6_form) (R' := R_X6_form) (idx := 181) (n := 4) (b := x1) (as := [(4, x2), (0, a1), (0, x6), (0, (-1))]) (rest := []) (C' := 0) (D' := 0) (cn := 6) rfl k0_X6_form kV_X6_form kl_X7_181 ⟨by decide, by decide⟩ dX7_statusIn_23 rfl rfl (Nat.le_of_ble_eq_true rfl) (by decide) (by decide) rfl h (fun r hr => m_X6_form hl0 ⟨r, hr, hr⟩) (fun _ τ9 _ h => ?_)
  refine r_aload_n 0 dX7_statusIn_26 rfl ?_
  refine r_getr fd_X7_24 rfl dX7_statusIn_27 h (fun x10 h => ?_)
  refine r_iload_n 2 dX7_statusIn_30 rfl ?_
  refine r_callV (K' := Y_X6_statusOf) (R' := R_X6_statusOf) (idx := 340) (n := 1) (b := x10) (as := [(0, a2)]) (rest := []) (C' := 0) (D' := 0) (cn := 6) rfl k0_X6_statusOf kV_X6_statusOf kl_X7_340 ⟨by decide, by decide⟩ dX7_statusIn_31 rfl rfl (Nat.le_of_ble_eq_true rfl) (by decide) (by decide) rfl h (fun r hr => m_X6_statusOf hl0 ⟨r, hr, hr⟩) (fun x11 τ12 _ h => ?_)
  exact r_iret rfl dX7_statusIn_34 h
theorem m_X7_statusIn {g : zF} (hl0 : g.2.2.2.1.stackTraces = false) {Q : zR × zS → Prop} {a0 a1 a2 : Int} {σ : zS} (h : zo (f_X7_statusIn a0 a1 a2 σ) Q) : zm g Y_X7_statusIn R_X7_statusIn [(4, a0), (0, a1), (0, a2)] σ Q := zm_of (by decide) rfl (Nat.le_of_ble_eq_true rfl) (t_X7_statusIn hl0 h)


/- X7_status -/

set_option maxRecDepth 100000 in
set_option maxHeartbeats 4000000 in
theorem t_X7_status {g : zF} (hl0 : g.2.2.2.1.stackTraces = false) {Q : zR × zS → Prop}   {a0 a1 a2 : Int} {σ : zS} (h : zo (f_X7_status  a0 a1 a2 σ) Q) : zw g Y_X7_status R_X7_status 0 [(0, (4, a0)), (1, (0, a1)), (2, (0, a2))] [] σ 2 12 Q := by
  unfold f_X7_status at h
  refine r_aload_n 0 dX7_status_0 rfl ?_
  refine r_iload_n 1 dX7_status_1 rfl ?_
  refine r_iload_n 2 dX7_status_2 rfl ?_
  refine r_callV (K' := Y_X7_checkReport) (R' := R_X7_checkReport) (idx := 148) (n := 2) (b := a0) (as := [(0, a1), (0, a2)]) (rest := []) (C' := 0) (D' := 0) (cn := 7) rfl k0_X7_checkReport kV_X7_checkReport kl_X7_148 ⟨by decide, by decide⟩ dX7_status_3 rfl rfl (Nat.le_of_ble_eq_true rfl) (by decide) (by decide) rfl h (fun r hr => m_X7_checkReport hl0 ⟨r, hr, hr⟩) (fun _ τ2 _ h => ?_)
  refine r_aload_n 0 dX7_status_6 rfl ?_
  refine r_iload_n 1 dX7_status_7 rfl ?_
  refine r_iload_n 2 dX7_status_8 rfl ?_
  refine r_callV (K' := Y_X7_statusIn) (R' := R_X7_statusIn) (idx := 155) (n := 2) (b := a0) (as := [(0, a1), (0, a2)]) (rest := []) (C' := 0) (D' := 0) (cn := 7) rfl k0_X7_statusIn kV_X7_statusIn kl_X7_155 ⟨by decide, by decide⟩ dX7_status_9 rfl rfl (Nat.le_of_ble_eq_true rfl) (by decide) (by decide) rfl h (fun r hr => m_X7_statusIn hl0 ⟨r, hr, hr⟩) (fun x3 τ4 _ h => ?_)
  exact r_iret rfl dX7_status_12 h
theorem m_X7_status {g : zF} (hl0 : g.2.2.2.1.stackTraces = false) {Q : zR × zS → Prop} {a0 a1 a2 : Int} {σ : zS} (h : zo (f_X7_status a0 a1 a2 σ) Q) : zm g Y_X7_status R_X7_status [(4, a0), (0, a1), (0, a2)] σ Q := zm_of (by decide) rfl (Nat.le_of_ble_eq_true rfl) (t_X7_status hl0 h)


/- X7_moved -/

set_option maxRecDepth 100000 in
set_option maxHeartbeats 4000000 in
theorem t_X7_moved_52 {g : zF} (hl0 : g.2.2.2.1.stackTraces = false) {Q : zR × zS → Prop}   {a0 a1 a2 a3 a4 : Int} {σ : zS} (h : zo (f_X7_moved_52  a0 a1 a2 a3 a4 σ) Q) : zw g Y_X7_moved R_X7_moved 52 [(0, (4, a0)), (1, (0, a1)), (2, (0, a2)), (3, (0, a3)), (4, (4, a4))] [] σ 0 0 Q := by
  unfold f_X7_moved_52 at h
  refine r_aload_n 0 dX7_moved_52 rfl ?_
  refine r_getr fd_X7_31 rfl dX7_moved_53 h (fun x1 h => ?_)
  refine r_iload_n 1 dX7_moved_56 rfl ?_
  refine r_iload_n 2 dX7_moved_57 rfl ?_
  refine r_callV (K' := Y_X1_beliefSpread) (R' := R_X1_beliefSpread) (idx := 158) (n := 2) (b := x1) (as := [(0, a1), (0, a2)]) (rest := []) (C' := 0) (D' := 0) (cn := 1) rfl k0_X1_beliefSpread kV_X1_beliefSpread kl_X7_158 ⟨by decide, by decide⟩ dX7_moved_58 rfl rfl (Nat.le_of_ble_eq_true rfl) (by decide) (by decide) rfl h (fun r hr => m_X1_beliefSpread hl0 ⟨r, hr, hr⟩) (fun x2 τ3 _ h => ?_)
  refine r_istore (L' := [(6, (0, x2)), (0, (4, a0)), (1, (0, a1)), (2, (0, a2)), (3, (0, a3)), (4, (4, a4))]) dX7_moved_61 (by decide) rfl ?_
  refine r_iload_n 4 dX7_moved_63 rfl ?_
  refine r_if_ne 78 dX7_moved_64 (by decide) h (fun h => ?_) (fun h => ?_)
  · refine r_aload 5 dX7_moved_78 rfl ?_
    refine r_iload_n 3 dX7_moved_80 rfl ?_
    refine r_iload 0 dX7_moved_81 rfl ?_
    refine r_callV (K' := Y_X5_highMoved) (R' := R_X5_highMoved) (idx := 164) (n := 2) (b := a4) (as := [(0, a2), (0, x2)]) (rest := []) (C' := 0) (D' := 0) (cn := 5) rfl k0_X5_highMoved kV_X5_highMoved kl_X7_164 ⟨by decide, by decide⟩ dX7_moved_83 rfl rfl (Nat.le_of_ble_eq_true rfl) (by decide) (by decide) rfl h (fun r hr => m_X5_highMoved hl0 ⟨r, hr, hr⟩) (fun x4 τ5 _ h => ?_)
    exact r_iret rfl dX7_moved_86 h
  · refine r_aload 5 dX7_moved_67 rfl ?_
    refine r_iload_n 3 dX7_moved_69 rfl ?_
    refine r_iload 0 dX7_moved_70 rfl ?_
    refine r_callV (K' := Y_X5_lowMoved) (R' := R_X5_lowMoved) (idx := 161) (n := 2) (b := a4) (as := [(0, a2), (0, x2)]) (rest := []) (C' := 0) (D' := 0) (cn := 5) rfl k0_X5_lowMoved kV_X5_lowMoved kl_X7_161 ⟨by decide, by decide⟩ dX7_moved_72 rfl rfl (Nat.le_of_ble_eq_true rfl) (by decide) (by decide) rfl h (fun r hr => m_X5_lowMoved hl0 ⟨r, hr, hr⟩) (fun x6 τ7 _ h => ?_)
    refine r_goto 86 dX7_moved_75 (by decide) ?_
    exact r_iret rfl dX7_moved_86 h

set_option maxRecDepth 100000 in
set_option maxHeartbeats 4000000 in
theorem t_X7_moved {g : zF} (hl0 : g.2.2.2.1.stackTraces = false) {Q : zR × zS → Prop}   {a0 a1 a2 a3 : Int} {σ : zS} (h : zo (f_X7_moved  a0 a1 a2 a3 σ) Q) : zw g Y_X7_moved R_X7_moved 0 [(0, (4, a0)), (1, (0, a1)), (2, (0, a2)), (3, (0, a3))] [] σ 3 18 Q := by
  unfold f_X7_moved at h
  refine r_aload_n 0 dX7_moved_0 rfl ?_
  refine r_iload_n 1 dX7_moved_1 rfl ?_
  refine r_iload_n 2 dX7_moved_2 rfl ?_
  refine r_callV (K' := Y_X7_checkReport) (R' := R_X7_checkReport) (idx := 148) (n := 2) (b := a0) (as := [(0, a1), (0, a2)]) (rest := []) (C' := 1) (D' := 6) (cn := 7) rfl k0_X7_checkReport kV_X7_checkReport kl_X7_148 ⟨by decide, by decide⟩ dX7_moved_3 rfl rfl (Nat.le_of_ble_eq_true rfl) (by decide) (by decide) rfl h (fun r hr => m_X7_checkReport hl0 ⟨r, hr, hr⟩) (fun _ τ2 _ h => ?_)
  refine r_iload_n 3 dX7_moved_6 rfl ?_
  refine r_iconst (v := 0) dX7_moved_7 rfl rfl ?_
  refine r_iconst (v := 1) dX7_moved_8 rfl rfl ?_
  refine r_callS (K' := Y_X7_checkRange) (R' := R_X7_checkRange) (idx := 72) (n := 3) (as := [(0, a3), (0, 0), (0, 1)]) (rest := []) (C' := 0) (D' := 0) rfl k0_X7_checkRange wd_801 kl_X7_72 ⟨by decide, by decide⟩ dX7_moved_9 rfl rfl (Nat.le_of_ble_eq_true rfl) (by decide) (by decide) h (fun r hr => m_X7_checkRange hl0 ⟨r, hr, hr⟩) (fun _ τ4 _ h => ?_)
  refine r_aload_n 0 dX7_moved_12 rfl ?_
  refine r_getr fd_X7_31 rfl dX7_moved_13 h (fun x5 h => ?_)
  refine r_iload_n 1 dX7_moved_16 rfl ?_
  refine r_callV (K' := Y_X1_listOf) (R' := R_X1_listOf) (idx := 144) (n := 1) (b := x5) (as := [(0, a1)]) (rest := []) (C' := 0) (D' := 0) (cn := 1) rfl k0_X1_listOf kV_X1_listOf kl_X7_144 ⟨by decide, by decide⟩ dX7_moved_17 rfl rfl (Nat.le_of_ble_eq_true rfl) (by decide) (by decide) rfl h (fun r hr => m_X1_listOf hl0 ⟨r, hr, hr⟩) (fun x6 τ7 _ h => ?_)
  refine r_astore (L' := [(4, (4, x6)), (0, (4, a0)), (1, (0, a1)), (2, (0, a2)), (3, (0, a3))]) dX7_moved_20 (by decide) rfl ?_
  refine r_aload 0 dX7_moved_22 rfl ?_
  refine r_iload_n 3 dX7_moved_24 rfl ?_
  refine r_iconst (v := 1) dX7_moved_25 rfl rfl ?_
  refine r_callV (K' := Y_X5_get) (R' := R_X5_get) (idx := 152) (n := 2) (b := x6) (as := [(0, a2), (0, 1)]) (rest := []) (C' := 0) (D' := 0) (cn := 5) rfl k0_X5_get kV_X5_get kl_X7_152 ⟨by decide, by decide⟩ dX7_moved_26 rfl rfl (Nat.le_of_ble_eq_true rfl) (by decide) (by decide) rfl h (fun r hr => m_X5_get hl0 ⟨r, hr, hr⟩) (fun x8 τ9 _ h => ?_)
  refine r_istore (L' := [(5, (0, x8)), (4, (4, x6)), (0, (4, a0)), (1, (0, a1)), (2, (0, a2)), (3, (0, a3))]) dX7_moved_29 (by decide) rfl ?_
  refine r_iload 0 dX7_moved_31 rfl ?_
  refine r_iload_n 3 dX7_moved_33 rfl ?_
  refine r_icmp_eq 52 dX7_moved_34 (by decide) h (fun h => ?_) (fun h => ?_)
  · refine r_weak (L' := [(0, (4, a0)), (1, (0, a1)), (2, (0, a2)), (3, (0, a3)), (4, (4, x6))]) [2, 3, 4, 5, 1] rfl ?_
    exact t_X7_moved_52 hl0   h
  · refine r_aload_n 2 dX7_moved_37 rfl ?_
    refine r_getr fd_X7_31 rfl dX7_moved_38 h (fun x10 h => ?_)
    refine r_iload_n 3 dX7_moved_41 rfl ?_
    refine r_iload 0 dX7_moved_42 rfl ?_
    refine r_callV (K' := Y_X1_isLinked) (R' := R_X1_isLinked) (idx := 134) (n := 2) (b := x10) (as := [(0, a1), (0, x8)]) (rest := []) (C' := 0) (D' := 0) (cn := 1) rfl k0_X1_isLinked kV_X1_isLinked kl_X7_134 ⟨by decide, by decide⟩ dX7_moved_44 rfl rfl (Nat.le_of_ble_eq_true rfl) (by decide) (by decide) rfl h (fun r hr => m_X1_isLinked hl0 ⟨r, hr, hr⟩) (fun x11 τ12 _ h => ?_)
    refine r_if_ne 52 dX7_moved_47 (by decide) h (fun h => ?_) (fun h => ?_)
    · refine r_weak (L' := [(0, (4, a0)), (1, (0, a1)), (2, (0, a2)), (3, (0, a3)), (4, (4, x6))]) [2, 3, 4, 5, 1] rfl ?_
      exact t_X7_moved_52 hl0   h
    · refine r_iconst (v := (-1)) dX7_moved_50 rfl rfl ?_
      exact r_iret rfl dX7_moved_51 h
theorem m_X7_moved {g : zF} (hl0 : g.2.2.2.1.stackTraces = false) {Q : zR × zS → Prop} {a0 a1 a2 a3 : Int} {σ : zS} (h : zo (f_X7_moved a0 a1 a2 a3 σ) Q) : zm g Y_X7_moved R_X7_moved [(4, a0), (0, a1), (0, a2), (0, a3)] σ Q := zm_of (by decide) rfl (Nat.le_of_ble_eq_true rfl) (t_X7_moved hl0 h)


/- X7_checkWay -/

set_option maxRecDepth 100000 in
set_option maxHeartbeats 4000000 in
theorem t_X7_checkWay {g : zF} (hl0 : g.2.2.2.1.stackTraces = false) {Q : zR × zS → Prop}   {a0 a1 : Int} {σ : zS} (h : zo (f_X7_checkWay  a0 a1 σ) Q) : zw g Y_X7_checkWay R_X7_checkWay 0 [(0, (4, a0)), (1, (0, a1))] [] σ 1 6 Q := by
  unfold f_X7_checkWay at h
  refine r_iload_n 1 dX7_checkWay_0 rfl ?_
  refine r_if_lt 18 dX7_checkWay_1 (by decide) h (fun h => ?_) (fun h => ?_)
  · exact r_throwW hl0 rfl (th_X7_309_319_313 _ rfl) dX7_checkWay_18 dX7_checkWay_21 dX7_checkWay_22 dX7_checkWay_25 dX7_checkWay_28 (by decide) (Nat.le_of_ble_eq_true rfl) (by decide) (by decide) h
  · refine r_iload_n 1 dX7_checkWay_4 rfl ?_
    refine r_aload_n 0 dX7_checkWay_5 rfl ?_
    refine r_getr fd_X7_31 rfl dX7_checkWay_6 h (fun x1 h => ?_)
    refine r_getr fd_X7_106 rfl dX7_checkWay_9 h (fun x2 h => ?_)
    refine r_getf fd_X7_91 rfl dX7_checkWay_12 h (fun x3 h => ?_)
    refine r_icmp_lt 29 dX7_checkWay_15 (by decide) h (fun h => ?_) (fun h => ?_)
    · refine r_room (C' := 0) (D' := 0) (by omega) (by omega) ?_
      exact r_vret rfl dX7_checkWay_29 h
    · exact r_throwW hl0 rfl (th_X7_309_319_313 _ rfl) dX7_checkWay_18 dX7_checkWay_21 dX7_checkWay_22 dX7_checkWay_25 dX7_checkWay_28 (by decide) (Nat.le_of_ble_eq_true rfl) (by decide) (by decide) h
theorem m_X7_checkWay {g : zF} (hl0 : g.2.2.2.1.stackTraces = false) {Q : zR × zS → Prop} {a0 a1 : Int} {σ : zS} (h : zo (f_X7_checkWay a0 a1 σ) Q) : zm g Y_X7_checkWay R_X7_checkWay [(4, a0), (0, a1)] σ Q := zm_of (by decide) rfl (Nat.le_of_ble_eq_true rfl) (t_X7_checkWay hl0 h)


/- X7_own -/

set_option maxRecDepth 100000 in
set_option maxHeartbeats 4000000 in
theorem t_X7_own {g : zF} (hl0 : g.2.2.2.1.stackTraces = false) {Q : zR × zS → Prop}   {a0 a1 a2 : Int} {σ : zS} (h : zo (f_X7_own  a0 a1 a2 σ) Q) : zw g Y_X7_own R_X7_own 0 [(0, (4, a0)), (1, (0, a1)), (2, (0, a2))] [] σ 2 12 Q := by
  unfold f_X7_own at h
  refine r_aload_n 0 dX7_own_0 rfl ?_
  refine r_iload_n 1 dX7_own_1 rfl ?_
  refine r_callV (K' := Y_X7_checkAgent) (R' := R_X7_checkAgent) (idx := 127) (n := 1) (b := a0) (as := [(0, a1)]) (rest := []) (C' := 1) (D' := 6) (cn := 7) rfl k0_X7_checkAgent kV_X7_checkAgent kl_X7_127 ⟨by decide, by decide⟩ dX7_own_2 rfl rfl (Nat.le_of_ble_eq_true rfl) (by decide) (by decide) rfl h (fun r hr => m_X7_checkAgent hl0 ⟨r, hr, hr⟩) (fun _ τ2 _ h => ?_)
  refine r_aload_n 0 dX7_own_5 rfl ?_
  refine r_iload_n 2 dX7_own_6 rfl ?_
  refine r_callV (K' := Y_X7_checkWay) (R' := R_X7_checkWay) (idx := 167) (n := 1) (b := a0) (as := [(0, a2)]) (rest := []) (C' := 0) (D' := 0) (cn := 7) rfl k0_X7_checkWay kV_X7_checkWay kl_X7_167 ⟨by decide, by decide⟩ dX7_own_7 rfl rfl (Nat.le_of_ble_eq_true rfl) (by decide) (by decide) rfl h (fun r hr => m_X7_checkWay hl0 ⟨r, hr, hr⟩) (fun _ τ4 _ h => ?_)
  refine r_aload_n 0 dX7_own_10 rfl ?_
  refine r_getr fd_X7_31 rfl dX7_own_11 h (fun x5 h => ?_)
  refine r_iload_n 1 dX7_own_14 rfl ?_
  refine r_callV (K' := Y_X1_listOf) (R' := R_X1_listOf) (idx := 144) (n := 1) (b := x5) (as := [(0, a1)]) (rest := []) (C' := 0) (D' := 0) (cn := 1) rfl k0_X1_listOf kV_X1_listOf kl_X7_144 ⟨by decide, by decide⟩ dX7_own_15 rfl rfl (Nat.le_of_ble_eq_true rfl) (by decide) (by decide) rfl h (fun r hr => m_X1_listOf hl0 ⟨r, hr, hr⟩) (fun x6 τ7 _ h => ?_)
  refine r_iload_n 1 dX7_own_18 rfl ?_
  refine r_iload_n 2 dX7_own_19 rfl ?_
  refine r_callV (K' := Y_X5_rowOf) (R' := R_X5_rowOf) (idx := 170) (n := 2) (b := x6) (as := [(0, a1), (0, a2)]) (rest := []) (C' := 0) (D' := 0) (cn := 5) rfl k0_X5_rowOf kV_X5_rowOf kl_X7_170 ⟨by decide, by decide⟩ dX7_own_20 rfl rfl (Nat.le_of_ble_eq_true rfl) (by decide) (by decide) rfl h (fun r hr => m_X5_rowOf hl0 ⟨r, hr, hr⟩) (fun x8 τ9 _ h => ?_)
  exact r_iret rfl dX7_own_23 h
theorem m_X7_own {g : zF} (hl0 : g.2.2.2.1.stackTraces = false) {Q : zR × zS → Prop} {a0 a1 a2 : Int} {σ : zS} (h : zo (f_X7_own a0 a1 a2 σ) Q) : zm g Y_X7_own R_X7_own [(4, a0), (0, a1), (0, a2)] σ Q := zm_of (by decide) rfl (Nat.le_of_ble_eq_true rfl) (t_X7_own hl0 h)


/- X7_believed -/

set_option maxRecDepth 100000 in
set_option maxHeartbeats 4000000 in
theorem t_X7_believed {g : zF} (hl0 : g.2.2.2.1.stackTraces = false) {Q : zR × zS → Prop}   {a0 a1 a2 a3 a4 : Int} {σ : zS} (h : zo (f_X7_believed  a0 a1 a2 a3 a4 σ) Q) : zw g Y_X7_believed R_X7_believed 0 [(0, (4, a0)), (1, (4, a1)), (2, (0, a2)), (3, (0, a3)), (4, (0, a4))] [] σ 0 0 Q := by
  unfold f_X7_believed at h
  refine r_aload_n 0 dX7_believed_0 rfl ?_
  refine r_getr fd_X7_24 rfl dX7_believed_1 h (fun x1 h => ?_)
  refine r_aload_n 1 dX7_believed_4 rfl ?_
  refine r_iload_n 2 dX7_believed_5 rfl ?_
  refine r_iload_n 3 dX7_believed_6 rfl ?_
  refine r_iconst (v := (-1)) dX7_believed_7 rfl rfl ?_
  refine r_callV (K' := Y_X6_form) (R' := R_X6_form) (idx := 181) (n := 4) (b := x1) (as := [(4, a1), (0, a2), (0, a3), (0, (-1))]) (rest := []) (C' := 0) (D' := 0) (cn := 6) rfl k0_X6_form kV_X6_form kl_X7_181 ⟨by decide, by decide⟩ dX7_believed_8 rfl rfl (Nat.le_of_ble_eq_true rfl) (by decide) (by decide) rfl h (fun r hr => m_X6_form hl0 ⟨r, hr, hr⟩) (fun _ τ3 _ h => ?_)
  refine r_iload 4 dX7_believed_11 rfl ?_
  refine r_if_ne 26 dX7_believed_13 (by decide) h (fun h => ?_) (fun h => ?_)
  · refine r_aload_n 0 dX7_believed_26 rfl ?_
    refine r_getr fd_X7_24 rfl dX7_believed_27 h (fun x4 h => ?_)
    refine r_getf fd_X7_297 rfl dX7_believed_30 h (fun x5 h => ?_)
    exact r_iret rfl dX7_believed_33 h
  · refine r_aload_n 0 dX7_believed_16 rfl ?_
    refine r_getr fd_X7_24 rfl dX7_believed_17 h (fun x6 h => ?_)
    refine r_getf fd_X7_294 rfl dX7_believed_20 h (fun x7 h => ?_)
    refine r_goto 33 dX7_believed_23 (by decide) ?_
    exact r_iret rfl dX7_believed_33 h
theorem m_X7_believed {g : zF} (hl0 : g.2.2.2.1.stackTraces = false) {Q : zR × zS → Prop} {a0 a1 a2 a3 a4 : Int} {σ : zS} (h : zo (f_X7_believed a0 a1 a2 a3 a4 σ) Q) : zm g Y_X7_believed R_X7_believed [(4, a0), (4, a1), (0, a2), (0, a3), (0, a4)] σ Q := zm_of (by decide) rfl (Nat.le_of_ble_eq_true rfl) (t_X7_believed hl0 h)


/- X7_belief -/

set_option maxRecDepth 100000 in
set_option maxHeartbeats 4000000 in
theorem t_X7_belief {g : zF} (hl0 : g.2.2.2.1.stackTraces = false) {Q : zR × zS → Prop}   {a0 a1 a2 a3 : Int} {σ : zS} (h : zo (f_X7_belief  a0 a1 a2 a3 σ) Q) : zw g Y_X7_belief R_X7_belief 0 [(0, (4, a0)), (1, (0, a1)), (2, (0, a2)), (3, (0, a3))] [] σ 3 18 Q := by
  unfold f_X7_belief at h
  refine r_aload_n 0 dX7_belief_0 rfl ?_
  refine r_iload_n 1 dX7_belief_1 rfl ?_
  refine r_callV (K' := Y_X7_checkAgent) (R' := R_X7_checkAgent) (idx := 127) (n := 1) (b := a0) (as := [(0, a1)]) (rest := []) (C' := 2) (D' := 12) (cn := 7) rfl k0_X7_checkAgent kV_X7_checkAgent kl_X7_127 ⟨by decide, by decide⟩ dX7_belief_2 rfl rfl (Nat.le_of_ble_eq_true rfl) (by decide) (by decide) rfl h (fun r hr => m_X7_checkAgent hl0 ⟨r, hr, hr⟩) (fun _ τ2 _ h => ?_)
  refine r_aload_n 0 dX7_belief_5 rfl ?_
  refine r_iload_n 2 dX7_belief_6 rfl ?_
  refine r_callV (K' := Y_X7_checkWay) (R' := R_X7_checkWay) (idx := 167) (n := 1) (b := a0) (as := [(0, a2)]) (rest := []) (C' := 1) (D' := 6) (cn := 7) rfl k0_X7_checkWay kV_X7_checkWay kl_X7_167 ⟨by decide, by decide⟩ dX7_belief_7 rfl rfl (Nat.le_of_ble_eq_true rfl) (by decide) (by decide) rfl h (fun r hr => m_X7_checkWay hl0 ⟨r, hr, hr⟩) (fun _ τ4 _ h => ?_)
  refine r_iload_n 3 dX7_belief_10 rfl ?_
  refine r_iconst (v := 0) dX7_belief_11 rfl rfl ?_
  refine r_iconst (v := 1) dX7_belief_12 rfl rfl ?_
  refine r_callS (K' := Y_X7_checkRange) (R' := R_X7_checkRange) (idx := 72) (n := 3) (as := [(0, a3), (0, 0), (0, 1)]) (rest := []) (C' := 0) (D' := 0) rfl k0_X7_checkRange wd_801 kl_X7_72 ⟨by decide, by decide⟩ dX7_belief_13 rfl rfl (Nat.le_of_ble_eq_true rfl) (by decide) (by decide) h (fun r hr => m_X7_checkRange hl0 ⟨r, hr, hr⟩) (fun _ τ6 _ h => ?_)
  refine r_aload_n 0 dX7_belief_16 rfl ?_
  refine r_aload_n 0 dX7_belief_17 rfl ?_
  refine r_getr fd_X7_31 rfl dX7_belief_18 h (fun x7 h => ?_)
  refine r_iload_n 1 dX7_belief_21 rfl ?_
  refine r_iload_n 2 dX7_belief_22 rfl ?_
  refine r_iload_n 3 dX7_belief_23 rfl ?_
  refine r_callV (K' := Y_X7_believed) (R' := R_X7_believed) (idx := 173) (n := 4) (b := a0) (as := [(4, x7), (0, a1), (0, a2), (0, a3)]) (rest := []) (C' := 0) (D' := 0) (cn := 7) rfl k0_X7_believed kV_X7_believed kl_X7_173 ⟨by decide, by decide⟩ dX7_belief_24 rfl rfl (Nat.le_of_ble_eq_true rfl) (by decide) (by decide) rfl h (fun r hr => m_X7_believed hl0 ⟨r, hr, hr⟩) (fun x8 τ9 _ h => ?_)
  exact r_iret rfl dX7_belief_27 h
theorem m_X7_belief {g : zF} (hl0 : g.2.2.2.1.stackTraces = false) {Q : zR × zS → Prop} {a0 a1 a2 a3 : Int} {σ : zS} (h : zo (f_X7_belief a0 a1 a2 a3 σ) Q) : zm g Y_X7_belief R_X7_belief [(4, a0), (0, a1), (0, a2), (0, a3)] σ Q := zm_of (by decide) rfl (Nat.le_of_ble_eq_true rfl) (t_X7_belief hl0 h)


/- X7_originsOf -/

set_option maxRecDepth 100000 in
set_option maxHeartbeats 4000000 in
theorem t_X7_originsOf {g : zF} (hl0 : g.2.2.2.1.stackTraces = false) {Q : zR × zS → Prop}   {a0 a1 a2 a3 : Int} {σ : zS} (h : zo (f_X7_originsOf  a0 a1 a2 a3 σ) Q) : zw g Y_X7_originsOf R_X7_originsOf 0 [(0, (4, a0)), (1, (0, a1)), (2, (0, a2)), (3, (0, a3))] [] σ 0 0 Q := by
  unfold f_X7_originsOf at h
  refine r_aload_n 0 dX7_originsOf_0 rfl ?_
  refine r_getr fd_X7_24 rfl dX7_originsOf_1 h (fun x1 h => ?_)
  refine r_aload_n 0 dX7_originsOf_4 rfl ?_
  refine r_getr fd_X7_31 rfl dX7_originsOf_5 h (fun x2 h => ?_)
  refine r_iload_n 1 dX7_originsOf_8 rfl ?_
  refine r_iload_n 2 dX7_originsOf_9 rfl ?_
  refine r_iconst (v := (-1)) dX7_originsOf_10 rfl rfl ?_
  refine r_callV (K' := Y_X6_form) (R' := R_X6_form) (idx := 181) (n := 4) (b := x1) (as := [(4, x2), (0, a1), (0, a2), (0, (-1))]) (rest := []) (C' := 0) (D' := 0) (cn := 6) rfl k0_X6_form kV_X6_form kl_X7_181 ⟨by decide, by decide⟩ dX7_originsOf_11 rfl rfl (Nat.le_of_ble_eq_true rfl) (by decide) (by decide) rfl h (fun r hr => m_X6_form hl0 ⟨r, hr, hr⟩) (fun _ τ4 _ h => ?_)
  refine r_aload_n 0 dX7_originsOf_14 rfl ?_
  refine r_getr fd_X7_24 rfl dX7_originsOf_15 h (fun x5 h => ?_)
  refine r_iload_n 3 dX7_originsOf_18 rfl ?_
  refine r_callV (K' := Y_X6_originsWith) (R' := R_X6_originsWith) (idx := 343) (n := 1) (b := x5) (as := [(0, a3)]) (rest := []) (C' := 0) (D' := 0) (cn := 6) rfl k0_X6_originsWith kV_X6_originsWith kl_X7_343 ⟨by decide, by decide⟩ dX7_originsOf_19 rfl rfl (Nat.le_of_ble_eq_true rfl) (by decide) (by decide) rfl h (fun r hr => m_X6_originsWith hl0 ⟨r, hr, hr⟩) (fun x6 τ7 _ h => ?_)
  exact r_iret rfl dX7_originsOf_22 h
theorem m_X7_originsOf {g : zF} (hl0 : g.2.2.2.1.stackTraces = false) {Q : zR × zS → Prop} {a0 a1 a2 a3 : Int} {σ : zS} (h : zo (f_X7_originsOf a0 a1 a2 a3 σ) Q) : zm g Y_X7_originsOf R_X7_originsOf [(4, a0), (0, a1), (0, a2), (0, a3)] σ Q := zm_of (by decide) rfl (Nat.le_of_ble_eq_true rfl) (t_X7_originsOf hl0 h)


/- X7_sources -/

set_option maxRecDepth 100000 in
set_option maxHeartbeats 4000000 in
theorem t_X7_sources {g : zF} (hl0 : g.2.2.2.1.stackTraces = false) {Q : zR × zS → Prop}   {a0 a1 a2 : Int} {σ : zS} (h : zo (f_X7_sources  a0 a1 a2 σ) Q) : zw g Y_X7_sources R_X7_sources 0 [(0, (4, a0)), (1, (0, a1)), (2, (0, a2))] [] σ 2 12 Q := by
  unfold f_X7_sources at h
  refine r_aload_n 0 dX7_sources_0 rfl ?_
  refine r_iload_n 1 dX7_sources_1 rfl ?_
  refine r_callV (K' := Y_X7_checkAgent) (R' := R_X7_checkAgent) (idx := 127) (n := 1) (b := a0) (as := [(0, a1)]) (rest := []) (C' := 1) (D' := 6) (cn := 7) rfl k0_X7_checkAgent kV_X7_checkAgent kl_X7_127 ⟨by decide, by decide⟩ dX7_sources_2 rfl rfl (Nat.le_of_ble_eq_true rfl) (by decide) (by decide) rfl h (fun r hr => m_X7_checkAgent hl0 ⟨r, hr, hr⟩) (fun _ τ2 _ h => ?_)
  refine r_aload_n 0 dX7_sources_5 rfl ?_
  refine r_iload_n 2 dX7_sources_6 rfl ?_
  refine r_callV (K' := Y_X7_checkWay) (R' := R_X7_checkWay) (idx := 167) (n := 1) (b := a0) (as := [(0, a2)]) (rest := []) (C' := 0) (D' := 0) (cn := 7) rfl k0_X7_checkWay kV_X7_checkWay kl_X7_167 ⟨by decide, by decide⟩ dX7_sources_7 rfl rfl (Nat.le_of_ble_eq_true rfl) (by decide) (by decide) rfl h (fun r hr => m_X7_checkWay hl0 ⟨r, hr, hr⟩) (fun _ τ4 _ h => ?_)
  refine r_aload_n 0 dX7_sources_10 rfl ?_
  refine r_iload_n 1 dX7_sources_11 rfl ?_
  refine r_iload_n 2 dX7_sources_12 rfl ?_
  refine r_iconst (v := 0) dX7_sources_13 rfl rfl ?_
  refine r_callV (K' := Y_X7_originsOf) (R' := R_X7_originsOf) (idx := 177) (n := 3) (b := a0) (as := [(0, a1), (0, a2), (0, 0)]) (rest := []) (C' := 0) (D' := 0) (cn := 7) rfl k0_X7_originsOf kV_X7_originsOf kl_X7_177 ⟨by decide, by decide⟩ dX7_sources_14 rfl rfl (Nat.le_of_ble_eq_true rfl) (by decide) (by decide) rfl h (fun r hr => m_X7_originsOf hl0 ⟨r, hr, hr⟩) (fun x5 τ6 _ h => ?_)
  exact r_iret rfl dX7_sources_17 h
theorem m_X7_sources {g : zF} (hl0 : g.2.2.2.1.stackTraces = false) {Q : zR × zS → Prop} {a0 a1 a2 : Int} {σ : zS} (h : zo (f_X7_sources a0 a1 a2 σ) Q) : zm g Y_X7_sources R_X7_sources [(4, a0), (0, a1), (0, a2)] σ Q := zm_of (by decide) rfl (Nat.le_of_ble_eq_true rfl) (t_X7_sources hl0 h)


/- X7_contradicted -/

set_option maxRecDepth 100000 in
set_option maxHeartbeats 4000000 in
theorem t_X7_contradicted {g : zF} (hl0 : g.2.2.2.1.stackTraces = false) {Q : zR × zS → Prop}   {a0 a1 a2 : Int} {σ : zS} (h : zo (f_X7_contradicted  a0 a1 a2 σ) Q) : zw g Y_X7_contradicted R_X7_contradicted 0 [(0, (4, a0)), (1, (0, a1)), (2, (0, a2))] [] σ 2 12 Q := by
  unfold f_X7_contradicted at h
  refine r_aload_n 0 dX7_contradicted_0 rfl ?_
  refine r_iload_n 1 dX7_contradicted_1 rfl ?_
  refine r_callV (K' := Y_X7_checkAgent) (R' := R_X7_checkAgent) (idx := 127) (n := 1) (b := a0) (as := [(0, a1)]) (rest := []) (C' := 1) (D' := 6) (cn := 7) rfl k0_X7_checkAgent kV_X7_checkAgent kl_X7_127 ⟨by decide, by decide⟩ dX7_contradicted_2 rfl rfl (Nat.le_of_ble_eq_true rfl) (by decide) (by decide) rfl h (fun r hr => m_X7_checkAgent hl0 ⟨r, hr, hr⟩) (fun _ τ2 _ h => ?_)
  refine r_aload_n 0 dX7_contradicted_5 rfl ?_
  refine r_iload_n 2 dX7_contradicted_6 rfl ?_
  refine r_callV (K' := Y_X7_checkWay) (R' := R_X7_checkWay) (idx := 167) (n := 1) (b := a0) (as := [(0, a2)]) (rest := []) (C' := 0) (D' := 0) (cn := 7) rfl k0_X7_checkWay kV_X7_checkWay kl_X7_167 ⟨by decide, by decide⟩ dX7_contradicted_7 rfl rfl (Nat.le_of_ble_eq_true rfl) (by decide) (by decide) rfl h (fun r hr => m_X7_checkWay hl0 ⟨r, hr, hr⟩) (fun _ τ4 _ h => ?_)
  refine r_aload_n 0 dX7_contradicted_10 rfl ?_
  refine r_iload_n 1 dX7_contradicted_11 rfl ?_
  refine r_iload_n 2 dX7_contradicted_12 rfl ?_
  refine r_iconst (v := 1) dX7_contradicted_13 rfl rfl ?_
  refine r_callV (K' := Y_X7_originsOf) (R' := R_X7_originsOf) (idx := 177) (n := 3) (b := a0) (as := [(0, a1), (0, a2), (0, 1)]) (rest := []) (C' := 0) (D' := 0) (cn := 7) rfl k0_X7_originsOf kV_X7_originsOf kl_X7_177 ⟨by decide, by decide⟩ dX7_contradicted_14 rfl rfl (Nat.le_of_ble_eq_true rfl) (by decide) (by decide) rfl h (fun r hr => m_X7_originsOf hl0 ⟨r, hr, hr⟩) (fun x5 τ6 _ h => ?_)
  exact r_iret rfl dX7_contradicted_17 h
theorem m_X7_contradicted {g : zF} (hl0 : g.2.2.2.1.stackTraces = false) {Q : zR × zS → Prop} {a0 a1 a2 : Int} {σ : zS} (h : zo (f_X7_contradicted a0 a1 a2 σ) Q) : zm g Y_X7_contradicted R_X7_contradicted [(4, a0), (0, a1), (0, a2)] σ Q := zm_of (by decide) rfl (Nat.le_of_ble_eq_true rfl) (t_X7_contradicted hl0 h)

