/- X4_readSemicolon -/

set_option maxRecDepth 100000 in
set_option maxHeartbeats 4000000 in
theorem t_X4_readSemicolon_24 {g : zF} (hl0 : g.2.2.2.1.stackTraces = false) {Q : zR × zS → Prop}   {a0 : Int} {σ : zS} (h : zo (f_X4_readSemicolon_24  a0 σ) Q) : zw g Y_X4_readSemicolon R_X4_readSemicolon 24 [(0, (4, a0))] [] σ 0 0 Q := by
  unfold f_X4_readSemicolon_24 at h
  refine r_aload_n 0 dX4_readSemicolon_24 rfl ?_
  refine r_iconst (v := 1) dX4_readSemicolon_25 rfl rfl ?_
  refine r_callV (K' := Y_X4_fail) (R' := R_X4_fail) (idx := 73) (n := 1) (b := a0) (as := [(0, 1)]) (rest := []) (C' := 0) (D' := 0) (cn := 4) rfl k0_X4_fail kV_X4_fail kl_X4_73 ⟨by decide, by decide⟩ dX4_readSemicolon_26 rfl rfl (Nat.le_of_ble_eq_true rfl) (by decide) (by decide) rfl h (fun r hr => m_X4_fail hl0 ⟨r, hr, hr⟩) (fun x1 τ2 _ h => ?_)
  exact r_zret rfl dX4_readSemicolon_29 h

set_option maxRecDepth 100000 in
set_option maxHeartbeats 4000000 in
theorem t_X4_readSemicolon {g : zF} (hl0 : g.2.2.2.1.stackTraces = false) {Q : zR × zS → Prop}   {a0 : Int} {σ : zS} (h : zo (f_X4_readSemicolon  a0 σ) Q) : zw g Y_X4_readSemicolon R_X4_readSemicolon 0 [(0, (4, a0))] [] σ 0 0 Q := by
  unfold f_X4_readSemicolon at h
  refine r_aload_n 0 dX4_readSemicolon_0 rfl ?_
  refine r_getf fd_X4_41 rfl dX4_readSemicolon_1 h (fun x1 h => ?_)
  refine r_iconst (v := 3) dX4_readSemicolon_4 rfl rfl ?_
  refine r_icmp_ne 24 dX4_readSemicolon_5 (by decide) h (fun h => ?_) (fun h => ?_)
  · refine r_room (C' := 0) (D' := 0) (by omega) (by omega) ?_
    exact t_X4_readSemicolon_24 hl0    h
  · refine r_aload_n 0 dX4_readSemicolon_8 rfl ?_
    refine r_getr fd_X4_15 rfl dX4_readSemicolon_9 h (fun x2 h => ?_)
    refine r_aload_n 0 dX4_readSemicolon_12 rfl ?_
    refine r_getf fd_X4_125 rfl dX4_readSemicolon_13 h (fun x3 h => ?_)
    refine r_callV (K' := Y_X0_at) (R' := R_X0_at) (idx := 158) (n := 1) (b := x2) (as := [(0, x3)]) (rest := []) (C' := 0) (D' := 0) (cn := 0) rfl k0_X0_at kV_X0_at kl_X4_158 ⟨by decide, by decide⟩ dX4_readSemicolon_16 rfl rfl (Nat.le_of_ble_eq_true rfl) (by decide) (by decide) rfl h (fun r hr => m_X0_at hl0 ⟨r, hr, hr⟩) (fun x4 τ5 _ h => ?_)
    refine r_bipush (v := 59) dX4_readSemicolon_19 rfl rfl ?_
    refine r_icmp_eq 30 dX4_readSemicolon_21 (by decide) h (fun h => ?_) (fun h => ?_)
    · refine r_aload_n 0 dX4_readSemicolon_30 rfl ?_
      refine r_callV (K' := Y_X4_next) (R' := R_X4_next) (idx := 34) (n := 0) (b := a0) (as := []) (rest := []) (C' := 0) (D' := 0) (cn := 4) rfl k0_X4_next kV_X4_next kl_X4_34 ⟨by decide, by decide⟩ dX4_readSemicolon_31 rfl rfl (Nat.le_of_ble_eq_true rfl) (by decide) (by decide) rfl h (fun r hr => m_X4_next hl0 ⟨r, hr, hr⟩) (fun _ τ7 _ h => ?_)
      refine r_iconst (v := 1) dX4_readSemicolon_34 rfl rfl ?_
      exact r_zretc (by decide) rfl dX4_readSemicolon_35 h
    · refine r_room (C' := 0) (D' := 0) (by omega) (by omega) ?_
      exact t_X4_readSemicolon_24 hl0    h
theorem m_X4_readSemicolon {g : zF} (hl0 : g.2.2.2.1.stackTraces = false) {Q : zR × zS → Prop} {a0 : Int} {σ : zS} (h : zo (f_X4_readSemicolon a0 σ) Q) : zm g Y_X4_readSemicolon R_X4_readSemicolon [(4, a0)] σ Q := zm_of (by decide) rfl (Nat.le_of_ble_eq_true rfl) (t_X4_readSemicolon hl0 h)


/- X4_readRules -/

set_option maxRecDepth 100000 in
set_option maxHeartbeats 4000000 in
theorem t_X4_readRules {g : zF} (hl0 : g.2.2.2.1.stackTraces = false) {Q : zR × zS → Prop}   {a0 : Int} {σ : zS} (h : zo (f_X4_readRules  a0 σ) Q) : zw g Y_X4_readRules R_X4_readRules 0 [(0, (4, a0))] [] σ 0 0 Q := by
  unfold f_X4_readRules at h
  refine r_aload_n 0 dX4_readRules_0 rfl ?_
  refine r_ldcS (j := 0) (text := "rules") (by decide +kernel) dX4_readRules_1 ?_
  refine r_callV (K' := Y_X4_readWord) (R' := R_X4_readWord) (idx := 79) (n := 1) (b := a0) (as := [(6, (0 : Nat))]) (rest := []) (C' := 0) (D' := 0) (cn := 4) rfl k0_X4_readWord kV_X4_readWord kl_X4_79 ⟨by decide, by decide⟩ dX4_readRules_3 rfl rfl (Nat.le_of_ble_eq_true rfl) (by decide) (by decide) rfl h (fun r hr => m_X4_readWord hl0 ⟨r, hr, hr⟩) (fun x1 τ2 _ h => ?_)
  refine r_if_eq 70 dX4_readRules_6 (by decide) h (fun h => ?_) (fun h => ?_)
  · refine r_iconst (v := 0) dX4_readRules_70 rfl rfl ?_
    exact r_zretc (by decide) rfl dX4_readRules_71 h
  · refine r_aload_n 0 dX4_readRules_9 rfl ?_
    refine r_ldcS (j := 1) (text := "drift") (by decide +kernel) dX4_readRules_10 ?_
    refine r_iconst (v := 0) dX4_readRules_12 rfl rfl ?_
    refine r_callV (K' := Y_X4_readRule) (R' := R_X4_readRule) (idx := 84) (n := 2) (b := a0) (as := [(6, (1 : Nat)), (0, 0)]) (rest := []) (C' := 0) (D' := 0) (cn := 4) rfl k0_X4_readRule kV_X4_readRule kl_X4_84 ⟨by decide, by decide⟩ dX4_readRules_13 rfl rfl (Nat.le_of_ble_eq_true rfl) (by decide) (by decide) rfl h (fun r hr => m_X4_readRule hl0 ⟨r, hr, hr⟩) (fun x3 τ4 _ h => ?_)
    refine r_if_eq 70 dX4_readRules_16 (by decide) h (fun h => ?_) (fun h => ?_)
    · refine r_iconst (v := 0) dX4_readRules_70 rfl rfl ?_
      exact r_zretc (by decide) rfl dX4_readRules_71 h
    · refine r_aload_n 0 dX4_readRules_19 rfl ?_
      refine r_ldcS (j := 2) (text := "slack") (by decide +kernel) dX4_readRules_20 ?_
      refine r_iconst (v := 1) dX4_readRules_22 rfl rfl ?_
      refine r_callV (K' := Y_X4_readRule) (R' := R_X4_readRule) (idx := 84) (n := 2) (b := a0) (as := [(6, (2 : Nat)), (0, 1)]) (rest := []) (C' := 0) (D' := 0) (cn := 4) rfl k0_X4_readRule kV_X4_readRule kl_X4_84 ⟨by decide, by decide⟩ dX4_readRules_23 rfl rfl (Nat.le_of_ble_eq_true rfl) (by decide) (by decide) rfl h (fun r hr => m_X4_readRule hl0 ⟨r, hr, hr⟩) (fun x5 τ6 _ h => ?_)
      refine r_if_eq 70 dX4_readRules_26 (by decide) h (fun h => ?_) (fun h => ?_)
      · refine r_iconst (v := 0) dX4_readRules_70 rfl rfl ?_
        exact r_zretc (by decide) rfl dX4_readRules_71 h
      · refine r_aload_n 0 dX4_readRules_29 rfl ?_
        refine r_ldcS (j := 3) (text := "least") (by decide +kernel) dX4_readRules_30 ?_
        refine r_iconst (v := 2) dX4_readRules_32 rfl rfl ?_
        refine r_callV (K' := Y_X4_readRule) (R' := R_X4_readRule) (idx := 84) (n := 2) (b := a0) (as := [(6, (3 : Nat)), (0, 2)]) (rest := []) (C' := 0) (D' := 0) (cn := 4) rfl k0_X4_readRule kV_X4_readRule kl_X4_84 ⟨by decide, by decide⟩ dX4_readRules_33 rfl rfl (Nat.le_of_ble_eq_true rfl) (by decide) (by decide) rfl h (fun r hr => m_X4_readRule hl0 ⟨r, hr, hr⟩) (fun x7 τ8 _ h => ?_)
        refine r_if_eq 70 dX4_readRules_36 (by decide) h (fun h => ?_) (fun h => ?_)
        · refine r_iconst (v := 0) dX4_readRules_70 rfl rfl ?_
          exact r_zretc (by decide) rfl dX4_readRules_71 h
        · refine r_aload_n 0 dX4_readRules_39 rfl ?_
          refine r_ldcS (j := 4) (text := "age") (by decide +kernel) dX4_readRules_40 ?_
          refine r_iconst (v := 3) dX4_readRules_42 rfl rfl ?_
          refine r_callV (K' := Y_X4_readRule) (R' := R_X4_readRule) (idx := 84) (n := 2) (b := a0) (as := [(6, (4 : Nat)), (0, 3)]) (rest := []) (C' := 0) (D' := 0) (cn := 4) rfl k0_X4_readRule kV_X4_readRule kl_X4_84 ⟨by decide, by decide⟩ dX4_readRules_43 rfl rfl (Nat.le_of_ble_eq_true rfl) (by decide) (by decide) rfl h (fun r hr => m_X4_readRule hl0 ⟨r, hr, hr⟩) (fun x9 τ10 _ h => ?_)
          refine r_if_eq 70 dX4_readRules_46 (by decide) h (fun h => ?_) (fun h => ?_)
          · refine r_iconst (v := 0) dX4_readRules_70 rfl rfl ?_
            exact r_zretc (by decide) rfl dX4_readRules_71 h
          · refine r_aload_n 0 dX4_readRules_49 rfl ?_
            refine r_ldcS (j := 5) (text := "hops") (by decide +kernel) dX4_readRules_50 ?_
            refine r_iconst (v := 4) dX4_readRules_52 rfl rfl ?_
            refine r_callV (K' := Y_X4_readRule) (R' := R_X4_readRule) (idx := 84) (n := 2) (b := a0) (as := [(6, (5 : Nat)), (0, 4)]) (rest := []) (C' := 0) (D' := 0) (cn := 4) rfl k0_X4_readRule kV_X4_readRule kl_X4_84 ⟨by decide, by decide⟩ dX4_readRules_53 rfl rfl (Nat.le_of_ble_eq_true rfl) (by decide) (by decide) rfl h (fun r hr => m_X4_readRule hl0 ⟨r, hr, hr⟩) (fun x11 τ12 _ h => ?_)
            refine r_if_eq 70 dX4_readRules_56 (by decide) h (fun h => ?_) (fun h => ?_)
            · refine r_iconst (v := 0) dX4_readRules_70 rfl rfl ?_
              exact r_zretc (by decide) rfl dX4_readRules_71 h
            · refine r_aload_n 0 dX4_readRules_59 rfl ?_
              refine r_callV (K' := Y_X4_readSemicolon) (R' := R_X4_readSemicolon) (idx := 96) (n := 0) (b := a0) (as := []) (rest := []) (C' := 0) (D' := 0) (cn := 4) rfl k0_X4_readSemicolon kV_X4_readSemicolon kl_X4_96 ⟨by decide, by decide⟩ dX4_readRules_60 rfl rfl (Nat.le_of_ble_eq_true rfl) (by decide) (by decide) rfl h (fun r hr => m_X4_readSemicolon hl0 ⟨r, hr, hr⟩) (fun x13 τ14 _ h => ?_)
              refine r_if_eq 70 dX4_readRules_63 (by decide) h (fun h => ?_) (fun h => ?_)
              · refine r_iconst (v := 0) dX4_readRules_70 rfl rfl ?_
                exact r_zretc (by decide) rfl dX4_readRules_71 h
              · refine r_iconst (v := 1) dX4_readRules_66 rfl rfl ?_
                refine r_goto 71 dX4_readRules_67 (by decide) ?_
                exact r_zretc (by decide) rfl dX4_readRules_71 h
theorem m_X4_readRules {g : zF} (hl0 : g.2.2.2.1.stackTraces = false) {Q : zR × zS → Prop} {a0 : Int} {σ : zS} (h : zo (f_X4_readRules a0 σ) Q) : zm g Y_X4_readRules R_X4_readRules [(4, a0)] σ Q := zm_of (by decide) rfl (Nat.le_of_ble_eq_true rfl) (t_X4_readRules hl0 h)


/- X4_isName -/

set_option maxRecDepth 100000 in
set_option maxHeartbeats 4000000 in
theorem t_X4_isName_104 {g : zF} (hl0 : g.2.2.2.1.stackTraces = false) {Q : zR × zS → Prop}   {a0 s0 : Int} {σ : zS} (h : zo (f_X4_isName_104  a0 s0 σ) Q) : zw g Y_X4_isName R_X4_isName 104 [(0, (4, a0))] [(0, s0)] σ 0 0 Q := by
  unfold f_X4_isName_104 at h
  refine r_istore_n (L' := [(1, (0, s0)), (0, (4, a0))]) dX4_isName_104 (by decide) rfl ?_
  refine r_aload_n 1 dX4_isName_105 rfl ?_
  refine r_getf fd_X4_41 rfl dX4_isName_106 h (fun x1 h => ?_)
  refine r_iconst (v := 1) dX4_isName_109 rfl rfl ?_
  refine r_icmp_ne 135 dX4_isName_110 (by decide) h (fun h => ?_) (fun h => ?_)
  · refine r_iconst (v := 0) dX4_isName_135 rfl rfl ?_
    exact r_zretc (by decide) rfl dX4_isName_136 h
  · refine r_aload_n 1 dX4_isName_113 rfl ?_
    refine r_getf fd_X4_23 rfl dX4_isName_114 h (fun x2 h => ?_)
    refine r_aload_n 1 dX4_isName_117 rfl ?_
    refine r_getf fd_X4_125 rfl dX4_isName_118 h (fun x3 h => ?_)
    refine r_isub dX4_isName_121 ?_
    refine r_bipush (v := 6) dX4_isName_122 rfl rfl ?_
    refine r_icmp_gt 135 dX4_isName_124 (by decide) h (fun h => ?_) (fun h => ?_)
    · refine r_iconst (v := 0) dX4_isName_135 rfl rfl ?_
      exact r_zretc (by decide) rfl dX4_isName_136 h
    · refine r_iload_n 0 dX4_isName_127 rfl ?_
      refine r_if_ne 135 dX4_isName_128 (by decide) h (fun h => ?_) (fun h => ?_)
      · refine r_iconst (v := 0) dX4_isName_135 rfl rfl ?_
        exact r_zretc (by decide) rfl dX4_isName_136 h
      · refine r_iconst (v := 1) dX4_isName_131 rfl rfl ?_
        refine r_goto 136 dX4_isName_132 (by decide) ?_
        exact r_zretc (by decide) rfl dX4_isName_136 h

set_option maxRecDepth 100000 in
set_option maxHeartbeats 4000000 in
theorem t_X4_isName_99 {g : zF} (hl0 : g.2.2.2.1.stackTraces = false) {Q : zR × zS → Prop}   {a0 : Int} {σ : zS} (h : zo (f_X4_isName_99  a0 σ) Q) : zw g Y_X4_isName R_X4_isName 99 [(0, (4, a0))] [] σ 0 0 Q := by
  unfold f_X4_isName_99 at h
  refine r_iconst (v := 1) dX4_isName_99 rfl rfl ?_
  refine r_goto 104 dX4_isName_100 (by decide) ?_
  refine r_room (C' := 0) (D' := 0) (by omega) (by omega) ?_
  exact t_X4_isName_104 hl0    h

set_option maxRecDepth 100000 in
set_option maxHeartbeats 4000000 in
theorem t_X4_isName {g : zF} (hl0 : g.2.2.2.1.stackTraces = false) {Q : zR × zS → Prop}   {a0 : Int} {σ : zS} (h : zo (f_X4_isName  a0 σ) Q) : zw g Y_X4_isName R_X4_isName 0 [(0, (4, a0))] [] σ 0 0 Q := by
  unfold f_X4_isName at h
  refine r_aload_n 0 dX4_isName_0 rfl ?_
  refine r_ldcS (j := 0) (text := "rules") (by decide +kernel) dX4_isName_1 ?_
  refine r_callV (K' := Y_X4_isWord) (R' := R_X4_isWord) (idx := 46) (n := 1) (b := a0) (as := [(6, (0 : Nat))]) (rest := []) (C' := 0) (D' := 0) (cn := 4) rfl k0_X4_isWord kV_X4_isWord kl_X4_46 ⟨by decide, by decide⟩ dX4_isName_3 rfl rfl (Nat.le_of_ble_eq_true rfl) (by decide) (by decide) rfl h (fun r hr => m_X4_isWord hl0 ⟨r, hr, hr⟩) (fun x1 τ2 _ h => ?_)
  refine r_if_ne 99 dX4_isName_6 (by decide) h (fun h => ?_) (fun h => ?_)
  · refine r_room (C' := 0) (D' := 0) (by omega) (by omega) ?_
    exact t_X4_isName_99 hl0    h
  · refine r_aload_n 0 dX4_isName_9 rfl ?_
    refine r_ldcS (j := 1) (text := "drift") (by decide +kernel) dX4_isName_10 ?_
    refine r_callV (K' := Y_X4_isWord) (R' := R_X4_isWord) (idx := 46) (n := 1) (b := a0) (as := [(6, (1 : Nat))]) (rest := []) (C' := 0) (D' := 0) (cn := 4) rfl k0_X4_isWord kV_X4_isWord kl_X4_46 ⟨by decide, by decide⟩ dX4_isName_12 rfl rfl (Nat.le_of_ble_eq_true rfl) (by decide) (by decide) rfl h (fun r hr => m_X4_isWord hl0 ⟨r, hr, hr⟩) (fun x3 τ4 _ h => ?_)
    refine r_if_ne 99 dX4_isName_15 (by decide) h (fun h => ?_) (fun h => ?_)
    · refine r_room (C' := 0) (D' := 0) (by omega) (by omega) ?_
      exact t_X4_isName_99 hl0    h
    · refine r_aload_n 0 dX4_isName_18 rfl ?_
      refine r_ldcS (j := 2) (text := "slack") (by decide +kernel) dX4_isName_19 ?_
      refine r_callV (K' := Y_X4_isWord) (R' := R_X4_isWord) (idx := 46) (n := 1) (b := a0) (as := [(6, (2 : Nat))]) (rest := []) (C' := 0) (D' := 0) (cn := 4) rfl k0_X4_isWord kV_X4_isWord kl_X4_46 ⟨by decide, by decide⟩ dX4_isName_21 rfl rfl (Nat.le_of_ble_eq_true rfl) (by decide) (by decide) rfl h (fun r hr => m_X4_isWord hl0 ⟨r, hr, hr⟩) (fun x5 τ6 _ h => ?_)
      refine r_if_ne 99 dX4_isName_24 (by decide) h (fun h => ?_) (fun h => ?_)
      · refine r_room (C' := 0) (D' := 0) (by omega) (by omega) ?_
        exact t_X4_isName_99 hl0    h
      · refine r_aload_n 0 dX4_isName_27 rfl ?_
        refine r_ldcS (j := 3) (text := "least") (by decide +kernel) dX4_isName_28 ?_
        refine r_callV (K' := Y_X4_isWord) (R' := R_X4_isWord) (idx := 46) (n := 1) (b := a0) (as := [(6, (3 : Nat))]) (rest := []) (C' := 0) (D' := 0) (cn := 4) rfl k0_X4_isWord kV_X4_isWord kl_X4_46 ⟨by decide, by decide⟩ dX4_isName_30 rfl rfl (Nat.le_of_ble_eq_true rfl) (by decide) (by decide) rfl h (fun r hr => m_X4_isWord hl0 ⟨r, hr, hr⟩) (fun x7 τ8 _ h => ?_)
        refine r_if_ne 99 dX4_isName_33 (by decide) h (fun h => ?_) (fun h => ?_)
        · refine r_room (C' := 0) (D' := 0) (by omega) (by omega) ?_
          exact t_X4_isName_99 hl0    h
        · refine r_aload_n 0 dX4_isName_36 rfl ?_
          refine r_ldcS (j := 4) (text := "age") (by decide +kernel) dX4_isName_37 ?_
          refine r_callV (K' := Y_X4_isWord) (R' := R_X4_isWord) (idx := 46) (n := 1) (b := a0) (as := [(6, (4 : Nat))]) (rest := []) (C' := 0) (D' := 0) (cn := 4) rfl k0_X4_isWord kV_X4_isWord kl_X4_46 ⟨by decide, by decide⟩ dX4_isName_39 rfl rfl (Nat.le_of_ble_eq_true rfl) (by decide) (by decide) rfl h (fun r hr => m_X4_isWord hl0 ⟨r, hr, hr⟩) (fun x9 τ10 _ h => ?_)
          refine r_if_ne 99 dX4_isName_42 (by decide) h (fun h => ?_) (fun h => ?_)
          · refine r_room (C' := 0) (D' := 0) (by omega) (by omega) ?_
            exact t_X4_isName_99 hl0    h
          · refine r_aload_n 0 dX4_isName_45 rfl ?_
            refine r_ldcS (j := 5) (text := "hops") (by decide +kernel) dX4_isName_46 ?_
            refine r_callV (K' := Y_X4_isWord) (R' := R_X4_isWord) (idx := 46) (n := 1) (b := a0) (as := [(6, (5 : Nat))]) (rest := []) (C' := 0) (D' := 0) (cn := 4) rfl k0_X4_isWord kV_X4_isWord kl_X4_46 ⟨by decide, by decide⟩ dX4_isName_48 rfl rfl (Nat.le_of_ble_eq_true rfl) (by decide) (by decide) rfl h (fun r hr => m_X4_isWord hl0 ⟨r, hr, hr⟩) (fun x11 τ12 _ h => ?_)
            refine r_if_ne 99 dX4_isName_51 (by decide) h (fun h => ?_) (fun h => ?_)
            · refine r_room (C' := 0) (D' := 0) (by omega) (by omega) ?_
              exact t_X4_isName_99 hl0    h
            · refine r_aload_n 0 dX4_isName_54 rfl ?_
              refine r_ldcS (j := 6) (text := "agent") (by decide +kernel) dX4_isName_55 ?_
              refine r_callV (K' := Y_X4_isWord) (R' := R_X4_isWord) (idx := 46) (n := 1) (b := a0) (as := [(6, (6 : Nat))]) (rest := []) (C' := 0) (D' := 0) (cn := 4) rfl k0_X4_isWord kV_X4_isWord kl_X4_46 ⟨by decide, by decide⟩ dX4_isName_57 rfl rfl (Nat.le_of_ble_eq_true rfl) (by decide) (by decide) rfl h (fun r hr => m_X4_isWord hl0 ⟨r, hr, hr⟩) (fun x13 τ14 _ h => ?_)
              refine r_if_ne 99 dX4_isName_60 (by decide) h (fun h => ?_) (fun h => ?_)
              · refine r_room (C' := 0) (D' := 0) (by omega) (by omega) ?_
                exact t_X4_isName_99 hl0    h
              · refine r_aload_n 0 dX4_isName_63 rfl ?_
                refine r_ldcS (j := 7) (text := "way") (by decide +kernel) dX4_isName_64 ?_
                refine r_callV (K' := Y_X4_isWord) (R' := R_X4_isWord) (idx := 46) (n := 1) (b := a0) (as := [(6, (7 : Nat))]) (rest := []) (C' := 0) (D' := 0) (cn := 4) rfl k0_X4_isWord kV_X4_isWord kl_X4_46 ⟨by decide, by decide⟩ dX4_isName_66 rfl rfl (Nat.le_of_ble_eq_true rfl) (by decide) (by decide) rfl h (fun r hr => m_X4_isWord hl0 ⟨r, hr, hr⟩) (fun x15 τ16 _ h => ?_)
                refine r_if_ne 99 dX4_isName_69 (by decide) h (fun h => ?_) (fun h => ?_)
                · refine r_room (C' := 0) (D' := 0) (by omega) (by omega) ?_
                  exact t_X4_isName_99 hl0    h
                · refine r_aload_n 0 dX4_isName_72 rfl ?_
                  refine r_ldcS (j := 8) (text := "link") (by decide +kernel) dX4_isName_73 ?_
                  refine r_callV (K' := Y_X4_isWord) (R' := R_X4_isWord) (idx := 46) (n := 1) (b := a0) (as := [(6, (8 : Nat))]) (rest := []) (C' := 0) (D' := 0) (cn := 4) rfl k0_X4_isWord kV_X4_isWord kl_X4_46 ⟨by decide, by decide⟩ dX4_isName_75 rfl rfl (Nat.le_of_ble_eq_true rfl) (by decide) (by decide) rfl h (fun r hr => m_X4_isWord hl0 ⟨r, hr, hr⟩) (fun x17 τ18 _ h => ?_)
                  refine r_if_ne 99 dX4_isName_78 (by decide) h (fun h => ?_) (fun h => ?_)
                  · refine r_room (C' := 0) (D' := 0) (by omega) (by omega) ?_
                    exact t_X4_isName_99 hl0    h
                  · refine r_aload_n 0 dX4_isName_81 rfl ?_
                    refine r_ldcS (j := 9) (text := "trust") (by decide +kernel) dX4_isName_82 ?_
                    refine r_callV (K' := Y_X4_isWord) (R' := R_X4_isWord) (idx := 46) (n := 1) (b := a0) (as := [(6, (9 : Nat))]) (rest := []) (C' := 0) (D' := 0) (cn := 4) rfl k0_X4_isWord kV_X4_isWord kl_X4_46 ⟨by decide, by decide⟩ dX4_isName_84 rfl rfl (Nat.le_of_ble_eq_true rfl) (by decide) (by decide) rfl h (fun r hr => m_X4_isWord hl0 ⟨r, hr, hr⟩) (fun x19 τ20 _ h => ?_)
                    refine r_if_ne 99 dX4_isName_87 (by decide) h (fun h => ?_) (fun h => ?_)
                    · refine r_room (C' := 0) (D' := 0) (by omega) (by omega) ?_
                      exact t_X4_isName_99 hl0    h
                    · refine r_aload_n 0 dX4_isName_90 rfl ?_
                      refine r_ldcS (j := 10) (text := "probe") (by decide +kernel) dX4_isName_91 ?_
                      refine r_callV (K' := Y_X4_isWord) (R' := R_X4_isWord) (idx := 46) (n := 1) (b := a0) (as := [(6, (10 : Nat))]) (rest := []) (C' := 0) (D' := 0) (cn := 4) rfl k0_X4_isWord kV_X4_isWord kl_X4_46 ⟨by decide, by decide⟩ dX4_isName_93 rfl rfl (Nat.le_of_ble_eq_true rfl) (by decide) (by decide) rfl h (fun r hr => m_X4_isWord hl0 ⟨r, hr, hr⟩) (fun x21 τ22 _ h => ?_)
                      refine r_if_eq 103 dX4_isName_96 (by decide) h (fun h => ?_) (fun h => ?_)
                      · refine r_iconst (v := 0) dX4_isName_103 rfl rfl ?_
                        refine r_room (C' := 0) (D' := 0) (by omega) (by omega) ?_
                        exact t_X4_isName_104 hl0    h
                      · refine r_room (C' := 0) (D' := 0) (by omega) (by omega) ?_
                        exact t_X4_isName_99 hl0    h
theorem m_X4_isName {g : zF} (hl0 : g.2.2.2.1.stackTraces = false) {Q : zR × zS → Prop} {a0 : Int} {σ : zS} (h : zo (f_X4_isName a0 σ) Q) : zm g Y_X4_isName R_X4_isName [(4, a0)] σ Q := zm_of (by decide) rfl (Nat.le_of_ble_eq_true rfl) (t_X4_isName hl0 h)


/- X4_readNewName -/

set_option maxRecDepth 100000 in
set_option maxHeartbeats 4000000 in
theorem t_X4_readNewName {g : zF} (hl0 : g.2.2.2.1.stackTraces = false) {Q : zR × zS → Prop}   {a0 a1 : Int} {σ : zS} (h : zo (f_X4_readNewName  a0 a1 σ) Q) : zw g Y_X4_readNewName R_X4_readNewName 0 [(0, (4, a0)), (1, (4, a1))] [] σ 0 0 Q := by
  unfold f_X4_readNewName at h
  refine r_aload_n 1 dX4_readNewName_0 rfl ?_
  refine r_getf fd_X4_117 rfl dX4_readNewName_1 h (fun x1 h => ?_)
  refine r_bipush (v := 6) dX4_readNewName_4 rfl rfl ?_
  refine r_icmp_lt 15 dX4_readNewName_6 (by decide) h (fun h => ?_) (fun h => ?_)
  · refine r_aload_n 0 dX4_readNewName_15 rfl ?_
    refine r_callV (K' := Y_X4_next) (R' := R_X4_next) (idx := 34) (n := 0) (b := a0) (as := []) (rest := []) (C' := 0) (D' := 0) (cn := 4) rfl k0_X4_next kV_X4_next kl_X4_34 ⟨by decide, by decide⟩ dX4_readNewName_16 rfl rfl (Nat.le_of_ble_eq_true rfl) (by decide) (by decide) rfl h (fun r hr => m_X4_next hl0 ⟨r, hr, hr⟩) (fun _ τ3 _ h => ?_)
    refine r_aload_n 0 dX4_readNewName_19 rfl ?_
    refine r_callV (K' := Y_X4_isName) (R' := R_X4_isName) (idx := 122) (n := 0) (b := a0) (as := []) (rest := []) (C' := 0) (D' := 0) (cn := 4) rfl k0_X4_isName kV_X4_isName kl_X4_122 ⟨by decide, by decide⟩ dX4_readNewName_20 rfl rfl (Nat.le_of_ble_eq_true rfl) (by decide) (by decide) rfl h (fun r hr => m_X4_isName hl0 ⟨r, hr, hr⟩) (fun x4 τ5 _ h => ?_)
    refine r_if_ne 32 dX4_readNewName_23 (by decide) h (fun h => ?_) (fun h => ?_)
    · refine r_aload_n 0 dX4_readNewName_32 rfl ?_
      refine r_getr fd_X4_15 rfl dX4_readNewName_33 h (fun x6 h => ?_)
      refine r_aload_n 0 dX4_readNewName_36 rfl ?_
      refine r_getf fd_X4_125 rfl dX4_readNewName_37 h (fun x7 h => ?_)
      refine r_aload_n 0 dX4_readNewName_40 rfl ?_
      refine r_getf fd_X4_23 rfl dX4_readNewName_41 h (fun x8 h => ?_)
      refine r_callV (K' := Y_X0_nameCode) (R' := R_X0_nameCode) (idx := 128) (n := 2) (b := x6) (as := [(0, x7), (0, x8)]) (rest := []) (C' := 0) (D' := 0) (cn := 0) rfl k0_X0_nameCode kV_X0_nameCode kl_X4_128 ⟨by decide, by decide⟩ dX4_readNewName_44 rfl rfl (Nat.le_of_ble_eq_true rfl) (by decide) (by decide) rfl h (fun r hr => m_X0_nameCode hl0 ⟨r, hr, hr⟩) (fun x9 τ10 _ h => ?_)
      refine r_istore_n (L' := [(2, (0, x9)), (0, (4, a0)), (1, (4, a1))]) dX4_readNewName_47 (by decide) rfl ?_
      refine r_aload_n 2 dX4_readNewName_48 rfl ?_
      refine r_iload_n 0 dX4_readNewName_49 rfl ?_
      refine r_callV (K' := Y_X3_find) (R' := R_X3_find) (idx := 134) (n := 1) (b := a1) (as := [(0, x9)]) (rest := []) (C' := 0) (D' := 0) (cn := 3) rfl k0_X3_find kV_X3_find kl_X4_134 ⟨by decide, by decide⟩ dX4_readNewName_50 rfl rfl (Nat.le_of_ble_eq_true rfl) (by decide) (by decide) rfl h (fun r hr => m_X3_find hl0 ⟨r, hr, hr⟩) (fun x11 τ12 _ h => ?_)
      refine r_iconst (v := (-1)) dX4_readNewName_53 rfl rfl ?_
      refine r_icmp_eq 63 dX4_readNewName_54 (by decide) h (fun h => ?_) (fun h => ?_)
      · refine r_aload_n 2 dX4_readNewName_63 rfl ?_
        refine r_iload_n 0 dX4_readNewName_64 rfl ?_
        refine r_callV (K' := Y_X3_add) (R' := R_X3_add) (idx := 138) (n := 1) (b := a1) (as := [(0, x9)]) (rest := []) (C' := 0) (D' := 0) (cn := 3) rfl k0_X3_add kV_X3_add kl_X4_138 ⟨by decide, by decide⟩ dX4_readNewName_65 rfl rfl (Nat.le_of_ble_eq_true rfl) (by decide) (by decide) rfl h (fun r hr => m_X3_add hl0 ⟨r, hr, hr⟩) (fun _ τ14 _ h => ?_)
        refine r_aload_n 1 dX4_readNewName_68 rfl ?_
        refine r_callV (K' := Y_X4_next) (R' := R_X4_next) (idx := 34) (n := 0) (b := a0) (as := []) (rest := []) (C' := 0) (D' := 0) (cn := 4) rfl k0_X4_next kV_X4_next kl_X4_34 ⟨by decide, by decide⟩ dX4_readNewName_69 rfl rfl (Nat.le_of_ble_eq_true rfl) (by decide) (by decide) rfl h (fun r hr => m_X4_next hl0 ⟨r, hr, hr⟩) (fun _ τ16 _ h => ?_)
        refine r_aload_n 1 dX4_readNewName_72 rfl ?_
        refine r_callV (K' := Y_X4_readSemicolon) (R' := R_X4_readSemicolon) (idx := 96) (n := 0) (b := a0) (as := []) (rest := []) (C' := 0) (D' := 0) (cn := 4) rfl k0_X4_readSemicolon kV_X4_readSemicolon kl_X4_96 ⟨by decide, by decide⟩ dX4_readNewName_73 rfl rfl (Nat.le_of_ble_eq_true rfl) (by decide) (by decide) rfl h (fun r hr => m_X4_readSemicolon hl0 ⟨r, hr, hr⟩) (fun x17 τ18 _ h => ?_)
        exact r_zret rfl dX4_readNewName_76 h
      · refine r_aload_n 1 dX4_readNewName_57 rfl ?_
        refine r_iconst (v := 3) dX4_readNewName_58 rfl rfl ?_
        refine r_callV (K' := Y_X4_fail) (R' := R_X4_fail) (idx := 73) (n := 1) (b := a0) (as := [(0, 3)]) (rest := []) (C' := 0) (D' := 0) (cn := 4) rfl k0_X4_fail kV_X4_fail kl_X4_73 ⟨by decide, by decide⟩ dX4_readNewName_59 rfl rfl (Nat.le_of_ble_eq_true rfl) (by decide) (by decide) rfl h (fun r hr => m_X4_fail hl0 ⟨r, hr, hr⟩) (fun x19 τ20 _ h => ?_)
        exact r_zret rfl dX4_readNewName_62 h
    · refine r_aload_n 0 dX4_readNewName_26 rfl ?_
      refine r_iconst (v := 1) dX4_readNewName_27 rfl rfl ?_
      refine r_callV (K' := Y_X4_fail) (R' := R_X4_fail) (idx := 73) (n := 1) (b := a0) (as := [(0, 1)]) (rest := []) (C' := 0) (D' := 0) (cn := 4) rfl k0_X4_fail kV_X4_fail kl_X4_73 ⟨by decide, by decide⟩ dX4_readNewName_28 rfl rfl (Nat.le_of_ble_eq_true rfl) (by decide) (by decide) rfl h (fun r hr => m_X4_fail hl0 ⟨r, hr, hr⟩) (fun x21 τ22 _ h => ?_)
      exact r_zret rfl dX4_readNewName_31 h
  · refine r_aload_n 0 dX4_readNewName_9 rfl ?_
    refine r_iconst (v := 4) dX4_readNewName_10 rfl rfl ?_
    refine r_callV (K' := Y_X4_fail) (R' := R_X4_fail) (idx := 73) (n := 1) (b := a0) (as := [(0, 4)]) (rest := []) (C' := 0) (D' := 0) (cn := 4) rfl k0_X4_fail kV_X4_fail kl_X4_73 ⟨by decide, by decide⟩ dX4_readNewName_11 rfl rfl (Nat.le_of_ble_eq_true rfl) (by decide) (by decide) rfl h (fun r hr => m_X4_fail hl0 ⟨r, hr, hr⟩) (fun x23 τ24 _ h => ?_)
    exact r_zret rfl dX4_readNewName_14 h
theorem m_X4_readNewName {g : zF} (hl0 : g.2.2.2.1.stackTraces = false) {Q : zR × zS → Prop} {a0 a1 : Int} {σ : zS} (h : zo (f_X4_readNewName a0 a1 σ) Q) : zm g Y_X4_readNewName R_X4_readNewName [(4, a0), (4, a1)] σ Q := zm_of (by decide) rfl (Nat.le_of_ble_eq_true rfl) (t_X4_readNewName hl0 h)


/- X4_isNameOf -/

set_option maxRecDepth 100000 in
set_option maxHeartbeats 4000000 in
theorem t_X4_isNameOf {g : zF} (hl0 : g.2.2.2.1.stackTraces = false) {Q : zR × zS → Prop}   {a0 a1 : Int} {σ : zS} (h : zo (f_X4_isNameOf  a0 a1 σ) Q) : zw g Y_X4_isNameOf R_X4_isNameOf 0 [(0, (4, a0)), (1, (4, a1))] [] σ 0 0 Q := by
  unfold f_X4_isNameOf at h
  refine r_aload_n 0 dX4_isNameOf_0 rfl ?_
  refine r_callV (K' := Y_X4_isName) (R' := R_X4_isName) (idx := 122) (n := 0) (b := a0) (as := []) (rest := []) (C' := 0) (D' := 0) (cn := 4) rfl k0_X4_isName kV_X4_isName kl_X4_122 ⟨by decide, by decide⟩ dX4_isNameOf_1 rfl rfl (Nat.le_of_ble_eq_true rfl) (by decide) (by decide) rfl h (fun r hr => m_X4_isName hl0 ⟨r, hr, hr⟩) (fun x1 τ2 _ h => ?_)
  refine r_if_ne 13 dX4_isNameOf_4 (by decide) h (fun h => ?_) (fun h => ?_)
  · refine r_aload_n 0 dX4_isNameOf_13 rfl ?_
    refine r_aload_n 1 dX4_isNameOf_14 rfl ?_
    refine r_aload_n 0 dX4_isNameOf_15 rfl ?_
    refine r_getr fd_X4_15 rfl dX4_isNameOf_16 h (fun x3 h => ?_)
    refine r_aload_n 0 dX4_isNameOf_19 rfl ?_
    refine r_getf fd_X4_125 rfl dX4_isNameOf_20 h (fun x4 h => ?_)
    refine r_aload_n 0 dX4_isNameOf_23 rfl ?_
    refine r_getf fd_X4_23 rfl dX4_isNameOf_24 h (fun x5 h => ?_)
    refine r_callV (K' := Y_X0_nameCode) (R' := R_X0_nameCode) (idx := 128) (n := 2) (b := x3) (as := [(0, x4), (0, x5)]) (rest := [(4, a1), (4, a0)]) (C' := 0) (D' := 0) (cn := 0) rfl k0_X0_nameCode kV_X0_nameCode kl_X4_128 ⟨by decide, by decide⟩ dX4_isNameOf_27 rfl rfl (Nat.le_of_ble_eq_true rfl) (by decide) (by decide) rfl h (fun r hr => m_X0_nameCode hl0 ⟨r, hr, hr⟩) (fun x6 τ7 _ h => ?_)
    refine r_callV (K' := Y_X3_find) (R' := R_X3_find) (idx := 134) (n := 1) (b := a1) (as := [(0, x6)]) (rest := [(4, a0)]) (C' := 0) (D' := 0) (cn := 3) rfl k0_X3_find kV_X3_find kl_X4_134 ⟨by decide, by decide⟩ dX4_isNameOf_30 rfl rfl (Nat.le_of_ble_eq_true rfl) (by decide) (by decide) rfl h (fun r hr => m_X3_find hl0 ⟨r, hr, hr⟩) (fun x8 τ9 _ h => ?_)
    refine r_putf fd_X4_110 fp_X4_isNameOf_110 dX4_isNameOf_33 h (fun τ10 h => ?_)
    refine r_aload_n 0 dX4_isNameOf_36 rfl ?_
    refine r_getf fd_X4_110 rfl dX4_isNameOf_37 h (fun x11 h => ?_)
    refine r_iconst (v := (-1)) dX4_isNameOf_40 rfl rfl ?_
    refine r_icmp_ne 52 dX4_isNameOf_41 (by decide) h (fun h => ?_) (fun h => ?_)
    · refine r_iconst (v := 1) dX4_isNameOf_52 rfl rfl ?_
      refine r_goto 57 dX4_isNameOf_53 (by decide) ?_
      exact r_zretc (by decide) rfl dX4_isNameOf_57 h
    · refine r_aload_n 0 dX4_isNameOf_44 rfl ?_
      refine r_iconst (v := 3) dX4_isNameOf_45 rfl rfl ?_
      refine r_callV (K' := Y_X4_fail) (R' := R_X4_fail) (idx := 73) (n := 1) (b := a0) (as := [(0, 3)]) (rest := []) (C' := 0) (D' := 0) (cn := 4) rfl k0_X4_fail kV_X4_fail kl_X4_73 ⟨by decide, by decide⟩ dX4_isNameOf_46 rfl rfl (Nat.le_of_ble_eq_true rfl) (by decide) (by decide) rfl h (fun r hr => m_X4_fail hl0 ⟨r, hr, hr⟩) (fun x12 τ13 _ h => ?_)
      refine r_if_eq 56 dX4_isNameOf_49 (by decide) h (fun h => ?_) (fun h => ?_)
      · refine r_iconst (v := 0) dX4_isNameOf_56 rfl rfl ?_
        exact r_zretc (by decide) rfl dX4_isNameOf_57 h
      · refine r_iconst (v := 1) dX4_isNameOf_52 rfl rfl ?_
        refine r_goto 57 dX4_isNameOf_53 (by decide) ?_
        exact r_zretc (by decide) rfl dX4_isNameOf_57 h
  · refine r_aload_n 0 dX4_isNameOf_7 rfl ?_
    refine r_iconst (v := 1) dX4_isNameOf_8 rfl rfl ?_
    refine r_callV (K' := Y_X4_fail) (R' := R_X4_fail) (idx := 73) (n := 1) (b := a0) (as := [(0, 1)]) (rest := []) (C' := 0) (D' := 0) (cn := 4) rfl k0_X4_fail kV_X4_fail kl_X4_73 ⟨by decide, by decide⟩ dX4_isNameOf_9 rfl rfl (Nat.le_of_ble_eq_true rfl) (by decide) (by decide) rfl h (fun r hr => m_X4_fail hl0 ⟨r, hr, hr⟩) (fun x14 τ15 _ h => ?_)
    exact r_zret rfl dX4_isNameOf_12 h
theorem m_X4_isNameOf {g : zF} (hl0 : g.2.2.2.1.stackTraces = false) {Q : zR × zS → Prop} {a0 a1 : Int} {σ : zS} (h : zo (f_X4_isNameOf a0 a1 σ) Q) : zm g Y_X4_isNameOf R_X4_isNameOf [(4, a0), (4, a1)] σ Q := zm_of (by decide) rfl (Nat.le_of_ble_eq_true rfl) (t_X4_isNameOf hl0 h)


/- X4_readLink -/

set_option maxRecDepth 100000 in
set_option maxHeartbeats 4000000 in
theorem t_X4_readLink_67 {g : zF} (hl0 : g.2.2.2.1.stackTraces = false) {Q : zR × zS → Prop}   {a0 : Int} {σ : zS} (h : zo (f_X4_readLink_67  a0 σ) Q) : zw g Y_X4_readLink R_X4_readLink 67 [(0, (4, a0))] [] σ 0 0 Q := by
  unfold f_X4_readLink_67 at h
  refine r_aload_n 0 dX4_readLink_67 rfl ?_
  refine r_iconst (v := 3) dX4_readLink_68 rfl rfl ?_
  refine r_callV (K' := Y_X4_fail) (R' := R_X4_fail) (idx := 73) (n := 1) (b := a0) (as := [(0, 3)]) (rest := []) (C' := 0) (D' := 0) (cn := 4) rfl k0_X4_fail kV_X4_fail kl_X4_73 ⟨by decide, by decide⟩ dX4_readLink_69 rfl rfl (Nat.le_of_ble_eq_true rfl) (by decide) (by decide) rfl h (fun r hr => m_X4_fail hl0 ⟨r, hr, hr⟩) (fun x1 τ2 _ h => ?_)
  exact r_zret rfl dX4_readLink_72 h

set_option maxRecDepth 100000 in
set_option maxHeartbeats 4000000 in
theorem t_X4_readLink_109 {g : zF} (hl0 : g.2.2.2.1.stackTraces = false) {Q : zR × zS → Prop}   {a0 a1 a2 a3 : Int} {σ : zS} (h : zo (f_X4_readLink_109  a0 a1 a2 a3 σ) Q) : zw g Y_X4_readLink R_X4_readLink 109 [(0, (4, a0)), (1, (0, a1)), (2, (0, a2)), (3, (0, a3))] [] σ 0 0 Q := by
  unfold f_X4_readLink_109 at h
  refine r_aload_n 0 dX4_readLink_109 rfl ?_
  refine r_getr fd_X4_19 rfl dX4_readLink_110 h (fun x1 h => ?_)
  refine r_iload_n 1 dX4_readLink_113 rfl ?_
  refine r_iload_n 2 dX4_readLink_114 rfl ?_
  refine r_iload_n 3 dX4_readLink_115 rfl ?_
  refine r_callV (K' := Y_X1_putTrust) (R' := R_X1_putTrust) (idx := 150) (n := 3) (b := x1) (as := [(0, a1), (0, a2), (0, a3)]) (rest := []) (C' := 0) (D' := 0) (cn := 1) rfl k0_X1_putTrust kV_X1_putTrust kl_X4_150 ⟨by decide, by decide⟩ dX4_readLink_116 rfl rfl (Nat.le_of_ble_eq_true rfl) (by decide) (by decide) rfl h (fun r hr => m_X1_putTrust hl0 ⟨r, hr, hr⟩) (fun _ τ3 _ h => ?_)
  refine r_aload_n 0 dX4_readLink_119 rfl ?_
  refine r_getr fd_X4_19 rfl dX4_readLink_120 h (fun x4 h => ?_)
  refine r_iload_n 2 dX4_readLink_123 rfl ?_
  refine r_iload_n 1 dX4_readLink_124 rfl ?_
  refine r_iload_n 3 dX4_readLink_125 rfl ?_
  refine r_callV (K' := Y_X1_putTrust) (R' := R_X1_putTrust) (idx := 150) (n := 3) (b := x4) (as := [(0, a2), (0, a1), (0, a3)]) (rest := []) (C' := 0) (D' := 0) (cn := 1) rfl k0_X1_putTrust kV_X1_putTrust kl_X4_150 ⟨by decide, by decide⟩ dX4_readLink_126 rfl rfl (Nat.le_of_ble_eq_true rfl) (by decide) (by decide) rfl h (fun r hr => m_X1_putTrust hl0 ⟨r, hr, hr⟩) (fun _ τ6 _ h => ?_)
  refine r_aload_n 0 dX4_readLink_129 rfl ?_
  refine r_callV (K' := Y_X4_readSemicolon) (R' := R_X4_readSemicolon) (idx := 96) (n := 0) (b := a0) (as := []) (rest := []) (C' := 0) (D' := 0) (cn := 4) rfl k0_X4_readSemicolon kV_X4_readSemicolon kl_X4_96 ⟨by decide, by decide⟩ dX4_readLink_130 rfl rfl (Nat.le_of_ble_eq_true rfl) (by decide) (by decide) rfl h (fun r hr => m_X4_readSemicolon hl0 ⟨r, hr, hr⟩) (fun x7 τ8 _ h => ?_)
  exact r_zret rfl dX4_readLink_133 h

set_option maxRecDepth 100000 in
set_option maxHeartbeats 4000000 in
theorem t_X4_readLink {g : zF} (hl0 : g.2.2.2.1.stackTraces = false) {Q : zR × zS → Prop}   {a0 : Int} {σ : zS} (h : zo (f_X4_readLink  a0 σ) Q) : zw g Y_X4_readLink R_X4_readLink 0 [(0, (4, a0))] [] σ 0 0 Q := by
  unfold f_X4_readLink at h
  refine r_aload_n 0 dX4_readLink_0 rfl ?_
  refine r_callV (K' := Y_X4_next) (R' := R_X4_next) (idx := 34) (n := 0) (b := a0) (as := []) (rest := []) (C' := 0) (D' := 0) (cn := 4) rfl k0_X4_next kV_X4_next kl_X4_34 ⟨by decide, by decide⟩ dX4_readLink_1 rfl rfl (Nat.le_of_ble_eq_true rfl) (by decide) (by decide) rfl h (fun r hr => m_X4_next hl0 ⟨r, hr, hr⟩) (fun _ τ2 _ h => ?_)
  refine r_aload_n 0 dX4_readLink_4 rfl ?_
  refine r_aload_n 0 dX4_readLink_5 rfl ?_
  refine r_getr fd_X4_19 rfl dX4_readLink_6 h (fun x3 h => ?_)
  refine r_getr fd_X4_50 rfl dX4_readLink_9 h (fun x4 h => ?_)
  refine r_callV (K' := Y_X4_isNameOf) (R' := R_X4_isNameOf) (idx := 142) (n := 1) (b := a0) (as := [(4, x4)]) (rest := []) (C' := 0) (D' := 0) (cn := 4) rfl k0_X4_isNameOf kV_X4_isNameOf kl_X4_142 ⟨by decide, by decide⟩ dX4_readLink_12 rfl rfl (Nat.le_of_ble_eq_true rfl) (by decide) (by decide) rfl h (fun r hr => m_X4_isNameOf hl0 ⟨r, hr, hr⟩) (fun x5 τ6 _ h => ?_)
  refine r_if_ne 20 dX4_readLink_15 (by decide) h (fun h => ?_) (fun h => ?_)
  · refine r_aload_n 0 dX4_readLink_20 rfl ?_
    refine r_getf fd_X4_110 rfl dX4_readLink_21 h (fun x7 h => ?_)
    refine r_istore_n (L' := [(1, (0, x7)), (0, (4, a0))]) dX4_readLink_24 (by decide) rfl ?_
    refine r_aload_n 1 dX4_readLink_25 rfl ?_
    refine r_callV (K' := Y_X4_next) (R' := R_X4_next) (idx := 34) (n := 0) (b := a0) (as := []) (rest := []) (C' := 0) (D' := 0) (cn := 4) rfl k0_X4_next kV_X4_next kl_X4_34 ⟨by decide, by decide⟩ dX4_readLink_26 rfl rfl (Nat.le_of_ble_eq_true rfl) (by decide) (by decide) rfl h (fun r hr => m_X4_next hl0 ⟨r, hr, hr⟩) (fun _ τ9 _ h => ?_)
    refine r_aload_n 1 dX4_readLink_29 rfl ?_
    refine r_aload_n 1 dX4_readLink_30 rfl ?_
    refine r_getr fd_X4_19 rfl dX4_readLink_31 h (fun x10 h => ?_)
    refine r_getr fd_X4_50 rfl dX4_readLink_34 h (fun x11 h => ?_)
    refine r_callV (K' := Y_X4_isNameOf) (R' := R_X4_isNameOf) (idx := 142) (n := 1) (b := a0) (as := [(4, x11)]) (rest := []) (C' := 0) (D' := 0) (cn := 4) rfl k0_X4_isNameOf kV_X4_isNameOf kl_X4_142 ⟨by decide, by decide⟩ dX4_readLink_37 rfl rfl (Nat.le_of_ble_eq_true rfl) (by decide) (by decide) rfl h (fun r hr => m_X4_isNameOf hl0 ⟨r, hr, hr⟩) (fun x12 τ13 _ h => ?_)
    refine r_if_ne 45 dX4_readLink_40 (by decide) h (fun h => ?_) (fun h => ?_)
    · refine r_aload_n 1 dX4_readLink_45 rfl ?_
      refine r_getf fd_X4_110 rfl dX4_readLink_46 h (fun x14 h => ?_)
      refine r_istore_n (L' := [(2, (0, x14)), (1, (0, x7)), (0, (4, a0))]) dX4_readLink_49 (by decide) rfl ?_
      refine r_iload_n 0 dX4_readLink_50 rfl ?_
      refine r_iload_n 1 dX4_readLink_51 rfl ?_
      refine r_icmp_eq 67 dX4_readLink_52 (by decide) h (fun h => ?_) (fun h => ?_)
      · refine r_weak (L' := [(0, (4, a0))]) [2] rfl ?_
        refine r_room (C' := 0) (D' := 0) (by omega) (by omega) ?_
        exact t_X4_readLink_67 hl0    h
      · refine r_aload_n 2 dX4_readLink_55 rfl ?_
        refine r_getr fd_X4_19 rfl dX4_readLink_56 h (fun x15 h => ?_)
        refine r_iload_n 1 dX4_readLink_59 rfl ?_
        refine r_iload_n 0 dX4_readLink_60 rfl ?_
        refine r_callV (K' := Y_X1_isLinked) (R' := R_X1_isLinked) (idx := 145) (n := 2) (b := x15) (as := [(0, x7), (0, x14)]) (rest := []) (C' := 0) (D' := 0) (cn := 1) rfl k0_X1_isLinked kV_X1_isLinked kl_X4_145 ⟨by decide, by decide⟩ dX4_readLink_61 rfl rfl (Nat.le_of_ble_eq_true rfl) (by decide) (by decide) rfl h (fun r hr => m_X1_isLinked hl0 ⟨r, hr, hr⟩) (fun x16 τ17 _ h => ?_)
        refine r_if_eq 73 dX4_readLink_64 (by decide) h (fun h => ?_) (fun h => ?_)
        · refine r_aload_n 2 dX4_readLink_73 rfl ?_
          refine r_callV (K' := Y_X4_next) (R' := R_X4_next) (idx := 34) (n := 0) (b := a0) (as := []) (rest := []) (C' := 0) (D' := 0) (cn := 4) rfl k0_X4_next kV_X4_next kl_X4_34 ⟨by decide, by decide⟩ dX4_readLink_74 rfl rfl (Nat.le_of_ble_eq_true rfl) (by decide) (by decide) rfl h (fun r hr => m_X4_next hl0 ⟨r, hr, hr⟩) (fun _ τ19 _ h => ?_)
          refine r_iconst (v := 5) dX4_readLink_77 rfl rfl ?_
          refine r_istore_n (L' := [(3, (0, 5)), (2, (0, x14)), (1, (0, x7)), (0, (4, a0))]) dX4_readLink_78 (by decide) rfl ?_
          refine r_aload_n 3 dX4_readLink_79 rfl ?_
          refine r_ldcS (j := 9) (text := "trust") (by decide +kernel) dX4_readLink_80 ?_
          refine r_callV (K' := Y_X4_isWord) (R' := R_X4_isWord) (idx := 46) (n := 1) (b := a0) (as := [(6, (9 : Nat))]) (rest := []) (C' := 0) (D' := 0) (cn := 4) rfl k0_X4_isWord kV_X4_isWord kl_X4_46 ⟨by decide, by decide⟩ dX4_readLink_82 rfl rfl (Nat.le_of_ble_eq_true rfl) (by decide) (by decide) rfl h (fun r hr => m_X4_isWord hl0 ⟨r, hr, hr⟩) (fun x20 τ21 _ h => ?_)
          refine r_if_eq 109 dX4_readLink_85 (by decide) h (fun h => ?_) (fun h => ?_)
          · refine r_weak (L' := [(0, (4, a0)), (1, (0, x7)), (2, (0, x14)), (3, (0, 5))]) [3, 2, 1, 0] rfl ?_
            refine r_room (C' := 0) (D' := 0) (by omega) (by omega) ?_
            exact t_X4_readLink_109 hl0    h
          · refine r_aload_n 3 dX4_readLink_88 rfl ?_
            refine r_callV (K' := Y_X4_next) (R' := R_X4_next) (idx := 34) (n := 0) (b := a0) (as := []) (rest := []) (C' := 0) (D' := 0) (cn := 4) rfl k0_X4_next kV_X4_next kl_X4_34 ⟨by decide, by decide⟩ dX4_readLink_89 rfl rfl (Nat.le_of_ble_eq_true rfl) (by decide) (by decide) rfl h (fun r hr => m_X4_next hl0 ⟨r, hr, hr⟩) (fun _ τ23 _ h => ?_)
            refine r_aload_n 3 dX4_readLink_92 rfl ?_
            refine r_iconst (v := 0) dX4_readLink_93 rfl rfl ?_
            refine r_bipush (v := 10) dX4_readLink_94 rfl rfl ?_
            refine r_callV (K' := Y_X4_readNumber) (R' := R_X4_readNumber) (idx := 106) (n := 2) (b := a0) (as := [(0, 0), (0, 10)]) (rest := []) (C' := 0) (D' := 0) (cn := 4) rfl k0_X4_readNumber kV_X4_readNumber kl_X4_106 ⟨by decide, by decide⟩ dX4_readLink_96 rfl rfl (Nat.le_of_ble_eq_true rfl) (by decide) (by decide) rfl h (fun r hr => m_X4_readNumber hl0 ⟨r, hr, hr⟩) (fun x24 τ25 _ h => ?_)
            refine r_if_ne 104 dX4_readLink_99 (by decide) h (fun h => ?_) (fun h => ?_)
            · refine r_aload_n 3 dX4_readLink_104 rfl ?_
              refine r_getf fd_X4_110 rfl dX4_readLink_105 h (fun x26 h => ?_)
              refine r_istore_n (L' := [(3, (0, x26)), (2, (0, x14)), (1, (0, x7)), (0, (4, a0))]) dX4_readLink_108 (by decide) rfl ?_
              refine r_weak (L' := [(0, (4, a0)), (1, (0, x7)), (2, (0, x14)), (3, (0, x26))]) [3, 2, 1, 0] rfl ?_
              refine r_room (C' := 0) (D' := 0) (by omega) (by omega) ?_
              exact t_X4_readLink_109 hl0    h
            · refine r_iconst (v := 0) dX4_readLink_102 rfl rfl ?_
              exact r_zretc (by decide) rfl dX4_readLink_103 h
        · refine r_weak (L' := [(0, (4, a0))]) [2] rfl ?_
          refine r_room (C' := 0) (D' := 0) (by omega) (by omega) ?_
          exact t_X4_readLink_67 hl0    h
    · refine r_iconst (v := 0) dX4_readLink_43 rfl rfl ?_
      exact r_zretc (by decide) rfl dX4_readLink_44 h
  · refine r_iconst (v := 0) dX4_readLink_18 rfl rfl ?_
    exact r_zretc (by decide) rfl dX4_readLink_19 h
theorem m_X4_readLink {g : zF} (hl0 : g.2.2.2.1.stackTraces = false) {Q : zR × zS → Prop} {a0 : Int} {σ : zS} (h : zo (f_X4_readLink a0 σ) Q) : zm g Y_X4_readLink R_X4_readLink [(4, a0)] σ Q := zm_of (by decide) rfl (Nat.le_of_ble_eq_true rfl) (t_X4_readLink hl0 h)


/- X4_readProbe -/

set_option maxRecDepth 100000 in
set_option maxHeartbeats 4000000 in
theorem t_X4_readProbe {g : zF} (hl0 : g.2.2.2.1.stackTraces = false) {Q : zR × zS → Prop}   {a0 : Int} {σ : zS} (h : zo (f_X4_readProbe  a0 σ) Q) : zw g Y_X4_readProbe R_X4_readProbe 0 [(0, (4, a0))] [] σ 0 0 Q := by
  unfold f_X4_readProbe at h
  refine r_aload_n 0 dX4_readProbe_0 rfl ?_
  refine r_callV (K' := Y_X4_next) (R' := R_X4_next) (idx := 34) (n := 0) (b := a0) (as := []) (rest := []) (C' := 0) (D' := 0) (cn := 4) rfl k0_X4_next kV_X4_next kl_X4_34 ⟨by decide, by decide⟩ dX4_readProbe_1 rfl rfl (Nat.le_of_ble_eq_true rfl) (by decide) (by decide) rfl h (fun r hr => m_X4_next hl0 ⟨r, hr, hr⟩) (fun _ τ2 _ h => ?_)
  refine r_aload_n 0 dX4_readProbe_4 rfl ?_
  refine r_aload_n 0 dX4_readProbe_5 rfl ?_
  refine r_getr fd_X4_19 rfl dX4_readProbe_6 h (fun x3 h => ?_)
  refine r_getr fd_X4_50 rfl dX4_readProbe_9 h (fun x4 h => ?_)
  refine r_callV (K' := Y_X4_isNameOf) (R' := R_X4_isNameOf) (idx := 142) (n := 1) (b := a0) (as := [(4, x4)]) (rest := []) (C' := 0) (D' := 0) (cn := 4) rfl k0_X4_isNameOf kV_X4_isNameOf kl_X4_142 ⟨by decide, by decide⟩ dX4_readProbe_12 rfl rfl (Nat.le_of_ble_eq_true rfl) (by decide) (by decide) rfl h (fun r hr => m_X4_isNameOf hl0 ⟨r, hr, hr⟩) (fun x5 τ6 _ h => ?_)
  refine r_if_ne 20 dX4_readProbe_15 (by decide) h (fun h => ?_) (fun h => ?_)
  · refine r_aload_n 0 dX4_readProbe_20 rfl ?_
    refine r_getf fd_X4_110 rfl dX4_readProbe_21 h (fun x7 h => ?_)
    refine r_istore_n (L' := [(1, (0, x7)), (0, (4, a0))]) dX4_readProbe_24 (by decide) rfl ?_
    refine r_aload_n 1 dX4_readProbe_25 rfl ?_
    refine r_callV (K' := Y_X4_next) (R' := R_X4_next) (idx := 34) (n := 0) (b := a0) (as := []) (rest := []) (C' := 0) (D' := 0) (cn := 4) rfl k0_X4_next kV_X4_next kl_X4_34 ⟨by decide, by decide⟩ dX4_readProbe_26 rfl rfl (Nat.le_of_ble_eq_true rfl) (by decide) (by decide) rfl h (fun r hr => m_X4_next hl0 ⟨r, hr, hr⟩) (fun _ τ9 _ h => ?_)
    refine r_aload_n 1 dX4_readProbe_29 rfl ?_
    refine r_aload_n 1 dX4_readProbe_30 rfl ?_
    refine r_getr fd_X4_19 rfl dX4_readProbe_31 h (fun x10 h => ?_)
    refine r_getr fd_X4_60 rfl dX4_readProbe_34 h (fun x11 h => ?_)
    refine r_callV (K' := Y_X4_isNameOf) (R' := R_X4_isNameOf) (idx := 142) (n := 1) (b := a0) (as := [(4, x11)]) (rest := []) (C' := 0) (D' := 0) (cn := 4) rfl k0_X4_isNameOf kV_X4_isNameOf kl_X4_142 ⟨by decide, by decide⟩ dX4_readProbe_37 rfl rfl (Nat.le_of_ble_eq_true rfl) (by decide) (by decide) rfl h (fun r hr => m_X4_isNameOf hl0 ⟨r, hr, hr⟩) (fun x12 τ13 _ h => ?_)
    refine r_if_ne 45 dX4_readProbe_40 (by decide) h (fun h => ?_) (fun h => ?_)
    · refine r_aload_n 1 dX4_readProbe_45 rfl ?_
      refine r_getf fd_X4_110 rfl dX4_readProbe_46 h (fun x14 h => ?_)
      refine r_istore_n (L' := [(2, (0, x14)), (1, (0, x7)), (0, (4, a0))]) dX4_readProbe_49 (by decide) rfl ?_
      refine r_aload_n 2 dX4_readProbe_50 rfl ?_
      refine r_callV (K' := Y_X4_next) (R' := R_X4_next) (idx := 34) (n := 0) (b := a0) (as := []) (rest := []) (C' := 0) (D' := 0) (cn := 4) rfl k0_X4_next kV_X4_next kl_X4_34 ⟨by decide, by decide⟩ dX4_readProbe_51 rfl rfl (Nat.le_of_ble_eq_true rfl) (by decide) (by decide) rfl h (fun r hr => m_X4_next hl0 ⟨r, hr, hr⟩) (fun _ τ16 _ h => ?_)
      refine r_aload_n 2 dX4_readProbe_54 rfl ?_
      refine r_iconst (v := 0) dX4_readProbe_55 rfl rfl ?_
      refine r_sipush (v := 999) dX4_readProbe_56 rfl rfl ?_
      refine r_callV (K' := Y_X4_readNumber) (R' := R_X4_readNumber) (idx := 106) (n := 2) (b := a0) (as := [(0, 0), (0, 999)]) (rest := []) (C' := 0) (D' := 0) (cn := 4) rfl k0_X4_readNumber kV_X4_readNumber kl_X4_106 ⟨by decide, by decide⟩ dX4_readProbe_59 rfl rfl (Nat.le_of_ble_eq_true rfl) (by decide) (by decide) rfl h (fun r hr => m_X4_readNumber hl0 ⟨r, hr, hr⟩) (fun x17 τ18 _ h => ?_)
      refine r_if_ne 67 dX4_readProbe_62 (by decide) h (fun h => ?_) (fun h => ?_)
      · refine r_aload_n 2 dX4_readProbe_67 rfl ?_
        refine r_getf fd_X4_110 rfl dX4_readProbe_68 h (fun x19 h => ?_)
        refine r_istore_n (L' := [(3, (0, x19)), (2, (0, x14)), (1, (0, x7)), (0, (4, a0))]) dX4_readProbe_71 (by decide) rfl ?_
        refine r_aload_n 3 dX4_readProbe_72 rfl ?_
        refine r_iload_n 0 dX4_readProbe_73 rfl ?_
        refine r_sipush (v := 999) dX4_readProbe_74 rfl rfl ?_
        refine r_callV (K' := Y_X4_readNumber) (R' := R_X4_readNumber) (idx := 106) (n := 2) (b := a0) (as := [(0, x19), (0, 999)]) (rest := []) (C' := 0) (D' := 0) (cn := 4) rfl k0_X4_readNumber kV_X4_readNumber kl_X4_106 ⟨by decide, by decide⟩ dX4_readProbe_77 rfl rfl (Nat.le_of_ble_eq_true rfl) (by decide) (by decide) rfl h (fun r hr => m_X4_readNumber hl0 ⟨r, hr, hr⟩) (fun x20 τ21 _ h => ?_)
        refine r_if_ne 85 dX4_readProbe_80 (by decide) h (fun h => ?_) (fun h => ?_)
        · refine r_aload_n 3 dX4_readProbe_85 rfl ?_
          refine r_getr fd_X4_19 rfl dX4_readProbe_86 h (fun x22 h => ?_)
          refine r_iload_n 2 dX4_readProbe_89 rfl ?_
          refine r_iload_n 1 dX4_readProbe_90 rfl ?_
          refine r_iload_n 0 dX4_readProbe_91 rfl ?_
          refine r_aload_n 3 dX4_readProbe_92 rfl ?_
          refine r_getf fd_X4_110 rfl dX4_readProbe_93 h (fun x23 h => ?_)
          refine r_callV (K' := Y_X1_makeProbe) (R' := R_X1_makeProbe) (idx := 154) (n := 4) (b := x22) (as := [(0, x7), (0, x14), (0, x19), (0, x23)]) (rest := []) (C' := 0) (D' := 0) (cn := 1) rfl k0_X1_makeProbe kV_X1_makeProbe kl_X4_154 ⟨by decide, by decide⟩ dX4_readProbe_96 rfl rfl (Nat.le_of_ble_eq_true rfl) (by decide) (by decide) rfl h (fun r hr => m_X1_makeProbe hl0 ⟨r, hr, hr⟩) (fun x24 τ25 _ h => ?_)
          refine r_pop dX4_readProbe_99 rfl ?_
          refine r_aload_n 3 dX4_readProbe_100 rfl ?_
          refine r_callV (K' := Y_X4_readSemicolon) (R' := R_X4_readSemicolon) (idx := 96) (n := 0) (b := a0) (as := []) (rest := []) (C' := 0) (D' := 0) (cn := 4) rfl k0_X4_readSemicolon kV_X4_readSemicolon kl_X4_96 ⟨by decide, by decide⟩ dX4_readProbe_101 rfl rfl (Nat.le_of_ble_eq_true rfl) (by decide) (by decide) rfl h (fun r hr => m_X4_readSemicolon hl0 ⟨r, hr, hr⟩) (fun x26 τ27 _ h => ?_)
          exact r_zret rfl dX4_readProbe_104 h
        · refine r_iconst (v := 0) dX4_readProbe_83 rfl rfl ?_
          exact r_zretc (by decide) rfl dX4_readProbe_84 h
      · refine r_iconst (v := 0) dX4_readProbe_65 rfl rfl ?_
        exact r_zretc (by decide) rfl dX4_readProbe_66 h
    · refine r_iconst (v := 0) dX4_readProbe_43 rfl rfl ?_
      exact r_zretc (by decide) rfl dX4_readProbe_44 h
  · refine r_iconst (v := 0) dX4_readProbe_18 rfl rfl ?_
    exact r_zretc (by decide) rfl dX4_readProbe_19 h
theorem m_X4_readProbe {g : zF} (hl0 : g.2.2.2.1.stackTraces = false) {Q : zR × zS → Prop} {a0 : Int} {σ : zS} (h : zo (f_X4_readProbe a0 σ) Q) : zm g Y_X4_readProbe R_X4_readProbe [(4, a0)] σ Q := zm_of (by decide) rfl (Nat.le_of_ble_eq_true rfl) (t_X4_readProbe hl0 h)


/- X4_parse -/

set_option maxRecDepth 100000 in
set_option maxHeartbeats 4000000 in
theorem t_X4_parse_139 {g : zF} (hl0 : g.2.2.2.1.stackTraces = false) {Q : zR × zS → Prop} (r33 : Int → Int → Int → zS → zFn) (hr33 : ∀ b0 b1 b2 τ, zo (r33 b0 b1 b2 τ) Q → zw g Y_X4_parse R_X4_parse 33 [(0, (4, b0)), (1, (0, b1)), (2, (0, b2))] [] τ 0 0 Q) {a0 a1 a2 : Int} {σ : zS} (h : zo (f_X4_parse_139 r33 a0 a1 a2 σ) Q) : zw g Y_X4_parse R_X4_parse 139 [(0, (4, a0)), (1, (0, a1)), (2, (0, a2))] [] σ 0 0 Q := by
  unfold f_X4_parse_139 at h
  refine r_iinc (L' := [(2, (0, (w32 (a2 + 1)))), (0, (4, a0)), (1, (0, a1))]) 2 dX4_parse_139 rfl (by decide) rfl ?_
  refine r_goto 33 dX4_parse_142 (by decide) ?_
  refine r_weak (L' := [(0, (4, a0)), (1, (0, a1)), (2, (0, (w32 (a2 + 1))))]) [1, 2, 0] rfl ?_
  refine r_room (C' := 0) (D' := 0) (by omega) (by omega) ?_
  exact hr33 _ _ _ _ h

set_option maxRecDepth 100000 in
set_option maxHeartbeats 4000000 in
theorem t_X4_parse_33 {g : zF} (hl0 : g.2.2.2.1.stackTraces = false) {Q : zR × zS → Prop}   : ∀ (n : Nat) (a0 a1 a2 : Int) (σ : zS), zo (f_X4_parse_33  n a0 a1 a2 σ) Q → zw g Y_X4_parse R_X4_parse 33 [(0, (4, a0)), (1, (0, a1)), (2, (0, a2))] [] σ 0 0 Q := by
  intro n
  induction n with
  | zero => intro a0 a1 a2 σ h; obtain ⟨r, h, -⟩ := h; cases h
  | succ n ih =>
    intro a0 a1 a2 σ h
    unfold f_X4_parse_33 at h
    refine r_iload_n 2 dX4_parse_33 rfl ?_
    refine r_sipush (v := 600) dX4_parse_34 rfl rfl ?_
    refine r_icmp_ge 145 dX4_parse_37 (by decide) h (fun h => ?_) (fun h => ?_)
    · refine r_iload_n 1 dX4_parse_145 rfl ?_
      exact r_zret rfl dX4_parse_146 h
    · refine r_iload_n 1 dX4_parse_40 rfl ?_
      refine r_if_eq 145 dX4_parse_41 (by decide) h (fun h => ?_) (fun h => ?_)
      · refine r_iload_n 1 dX4_parse_145 rfl ?_
        exact r_zret rfl dX4_parse_146 h
      · refine r_aload_n 0 dX4_parse_44 rfl ?_
        refine r_getf fd_X4_41 rfl dX4_parse_45 h (fun x1 h => ?_)
        refine r_if_eq 145 dX4_parse_48 (by decide) h (fun h => ?_) (fun h => ?_)
        · refine r_iload_n 1 dX4_parse_145 rfl ?_
          exact r_zret rfl dX4_parse_146 h
        · refine r_aload_n 0 dX4_parse_51 rfl ?_
          refine r_ldcS (j := 6) (text := "agent") (by decide +kernel) dX4_parse_52 ?_
          refine r_callV (K' := Y_X4_isWord) (R' := R_X4_isWord) (idx := 46) (n := 1) (b := a0) (as := [(6, (6 : Nat))]) (rest := []) (C' := 0) (D' := 0) (cn := 4) rfl k0_X4_isWord kV_X4_isWord kl_X4_46 ⟨by decide, by decide⟩ dX4_parse_54 rfl rfl (Nat.le_of_ble_eq_true rfl) (by decide) (by decide) rfl h (fun r hr => m_X4_isWord hl0 ⟨r, hr, hr⟩) (fun x2 τ3 _ h => ?_)
          refine r_if_eq 75 dX4_parse_57 (by decide) h (fun h => ?_) (fun h => ?_)
          · refine r_aload_n 0 dX4_parse_75 rfl ?_
            refine r_ldcS (j := 7) (text := "way") (by decide +kernel) dX4_parse_76 ?_
            refine r_callV (K' := Y_X4_isWord) (R' := R_X4_isWord) (idx := 46) (n := 1) (b := a0) (as := [(6, (7 : Nat))]) (rest := []) (C' := 0) (D' := 0) (cn := 4) rfl k0_X4_isWord kV_X4_isWord kl_X4_46 ⟨by decide, by decide⟩ dX4_parse_78 rfl rfl (Nat.le_of_ble_eq_true rfl) (by decide) (by decide) rfl h (fun r hr => m_X4_isWord hl0 ⟨r, hr, hr⟩) (fun x4 τ5 _ h => ?_)
            refine r_if_eq 99 dX4_parse_81 (by decide) h (fun h => ?_) (fun h => ?_)
            · refine r_aload_n 0 dX4_parse_99 rfl ?_
              refine r_ldcS (j := 8) (text := "link") (by decide +kernel) dX4_parse_100 ?_
              refine r_callV (K' := Y_X4_isWord) (R' := R_X4_isWord) (idx := 46) (n := 1) (b := a0) (as := [(6, (8 : Nat))]) (rest := []) (C' := 0) (D' := 0) (cn := 4) rfl k0_X4_isWord kV_X4_isWord kl_X4_46 ⟨by decide, by decide⟩ dX4_parse_102 rfl rfl (Nat.le_of_ble_eq_true rfl) (by decide) (by decide) rfl h (fun r hr => m_X4_isWord hl0 ⟨r, hr, hr⟩) (fun x6 τ7 _ h => ?_)
              refine r_if_eq 116 dX4_parse_105 (by decide) h (fun h => ?_) (fun h => ?_)
              · refine r_aload_n 0 dX4_parse_116 rfl ?_
                refine r_ldcS (j := 10) (text := "probe") (by decide +kernel) dX4_parse_117 ?_
                refine r_callV (K' := Y_X4_isWord) (R' := R_X4_isWord) (idx := 46) (n := 1) (b := a0) (as := [(6, (10 : Nat))]) (rest := []) (C' := 0) (D' := 0) (cn := 4) rfl k0_X4_isWord kV_X4_isWord kl_X4_46 ⟨by decide, by decide⟩ dX4_parse_119 rfl rfl (Nat.le_of_ble_eq_true rfl) (by decide) (by decide) rfl h (fun r hr => m_X4_isWord hl0 ⟨r, hr, hr⟩) (fun x8 τ9 _ h => ?_)
                refine r_if_eq 133 dX4_parse_122 (by decide) h (fun h => ?_) (fun h => ?_)
                · refine r_aload_n 0 dX4_parse_133 rfl ?_
                  refine r_iconst (v := 1) dX4_parse_134 rfl rfl ?_
                  refine r_callV (K' := Y_X4_fail) (R' := R_X4_fail) (idx := 73) (n := 1) (b := a0) (as := [(0, 1)]) (rest := []) (C' := 0) (D' := 0) (cn := 4) rfl k0_X4_fail kV_X4_fail kl_X4_73 ⟨by decide, by decide⟩ dX4_parse_135 rfl rfl (Nat.le_of_ble_eq_true rfl) (by decide) (by decide) rfl h (fun r hr => m_X4_fail hl0 ⟨r, hr, hr⟩) (fun x10 τ11 _ h => ?_)
                  refine r_istore_n (L' := [(1, (0, x10)), (0, (4, a0)), (2, (0, a2))]) dX4_parse_138 (by decide) rfl ?_
                  refine r_weak (L' := [(0, (4, a0)), (1, (0, x10)), (2, (0, a2))]) [1, 0, 2] rfl ?_
                  refine r_room (C' := 0) (D' := 0) (by omega) (by omega) ?_
                  exact t_X4_parse_139 hl0  (f_X4_parse_33  n) (fun b0 b1 b2 τ h => ih b0 b1 b2 τ h) h
                · refine r_aload_n 0 dX4_parse_125 rfl ?_
                  refine r_callV (K' := Y_X4_readProbe) (R' := R_X4_readProbe) (idx := 70) (n := 0) (b := a0) (as := []) (rest := []) (C' := 0) (D' := 0) (cn := 4) rfl k0_X4_readProbe kV_X4_readProbe kl_X4_70 ⟨by decide, by decide⟩ dX4_parse_126 rfl rfl (Nat.le_of_ble_eq_true rfl) (by decide) (by decide) rfl h (fun r hr => m_X4_readProbe hl0 ⟨r, hr, hr⟩) (fun x12 τ13 _ h => ?_)
                  refine r_istore_n (L' := [(1, (0, x12)), (0, (4, a0)), (2, (0, a2))]) dX4_parse_129 (by decide) rfl ?_
                  refine r_goto 139 dX4_parse_130 (by decide) ?_
                  refine r_weak (L' := [(0, (4, a0)), (1, (0, x12)), (2, (0, a2))]) [1, 0, 2] rfl ?_
                  refine r_room (C' := 0) (D' := 0) (by omega) (by omega) ?_
                  exact t_X4_parse_139 hl0  (f_X4_parse_33  n) (fun b0 b1 b2 τ h => ih b0 b1 b2 τ h) h
              · refine r_aload_n 0 dX4_parse_108 rfl ?_
                refine r_callV (K' := Y_X4_readLink) (R' := R_X4_readLink) (idx := 65) (n := 0) (b := a0) (as := []) (rest := []) (C' := 0) (D' := 0) (cn := 4) rfl k0_X4_readLink kV_X4_readLink kl_X4_65 ⟨by decide, by decide⟩ dX4_parse_109 rfl rfl (Nat.le_of_ble_eq_true rfl) (by decide) (by decide) rfl h (fun r hr => m_X4_readLink hl0 ⟨r, hr, hr⟩) (fun x14 τ15 _ h => ?_)
                refine r_istore_n (L' := [(1, (0, x14)), (0, (4, a0)), (2, (0, a2))]) dX4_parse_112 (by decide) rfl ?_
                refine r_goto 139 dX4_parse_113 (by decide) ?_
                refine r_weak (L' := [(0, (4, a0)), (1, (0, x14)), (2, (0, a2))]) [1, 0, 2] rfl ?_
                refine r_room (C' := 0) (D' := 0) (by omega) (by omega) ?_
                exact t_X4_parse_139 hl0  (f_X4_parse_33  n) (fun b0 b1 b2 τ h => ih b0 b1 b2 τ h) h
            · refine r_aload_n 0 dX4_parse_84 rfl ?_
              refine r_aload_n 0 dX4_parse_85 rfl ?_
              refine r_getr fd_X4_19 rfl dX4_parse_86 h (fun x16 h => ?_)
              refine r_getr fd_X4_60 rfl dX4_parse_89 h (fun x17 h => ?_)
              refine r_callV (K' := Y_X4_readNewName) (R' := R_X4_readNewName) (idx := 54) (n := 1) (b := a0) (as := [(4, x17)]) (rest := []) (C' := 0) (D' := 0) (cn := 4) rfl k0_X4_readNewName kV_X4_readNewName kl_X4_54 ⟨by decide, by decide⟩ dX4_parse_92 rfl rfl (Nat.le_of_ble_eq_true rfl) (by decide) (by decide) rfl h (fun r hr => m_X4_readNewName hl0 ⟨r, hr, hr⟩) (fun x18 τ19 _ h => ?_)
              refine r_istore_n (L' := [(1, (0, x18)), (0, (4, a0)), (2, (0, a2))]) dX4_parse_95 (by decide) rfl ?_
              refine r_goto 139 dX4_parse_96 (by decide) ?_
              refine r_weak (L' := [(0, (4, a0)), (1, (0, x18)), (2, (0, a2))]) [1, 0, 2] rfl ?_
              refine r_room (C' := 0) (D' := 0) (by omega) (by omega) ?_
              exact t_X4_parse_139 hl0  (f_X4_parse_33  n) (fun b0 b1 b2 τ h => ih b0 b1 b2 τ h) h
          · refine r_aload_n 0 dX4_parse_60 rfl ?_
            refine r_aload_n 0 dX4_parse_61 rfl ?_
            refine r_getr fd_X4_19 rfl dX4_parse_62 h (fun x20 h => ?_)
            refine r_getr fd_X4_50 rfl dX4_parse_65 h (fun x21 h => ?_)
            refine r_callV (K' := Y_X4_readNewName) (R' := R_X4_readNewName) (idx := 54) (n := 1) (b := a0) (as := [(4, x21)]) (rest := []) (C' := 0) (D' := 0) (cn := 4) rfl k0_X4_readNewName kV_X4_readNewName kl_X4_54 ⟨by decide, by decide⟩ dX4_parse_68 rfl rfl (Nat.le_of_ble_eq_true rfl) (by decide) (by decide) rfl h (fun r hr => m_X4_readNewName hl0 ⟨r, hr, hr⟩) (fun x22 τ23 _ h => ?_)
            refine r_istore_n (L' := [(1, (0, x22)), (0, (4, a0)), (2, (0, a2))]) dX4_parse_71 (by decide) rfl ?_
            refine r_goto 139 dX4_parse_72 (by decide) ?_
            refine r_weak (L' := [(0, (4, a0)), (1, (0, x22)), (2, (0, a2))]) [1, 0, 2] rfl ?_
            refine r_room (C' := 0) (D' := 0) (by omega) (by omega) ?_
            exact t_X4_parse_139 hl0  (f_X4_parse_33  n) (fun b0 b1 b2 τ h => ih b0 b1 b2 τ h) h

set_option maxRecDepth 100000 in
set_option maxHeartbeats 4000000 in
theorem t_X4_parse {g : zF} (hl0 : g.2.2.2.1.stackTraces = false) {Q : zR × zS → Prop}   {a0 : Int} {σ : zS} (h : zo (f_X4_parse  a0 σ) Q) : zw g Y_X4_parse R_X4_parse 0 [(0, (4, a0))] [] σ 0 0 Q := by
  unfold f_X4_parse at h
  refine r_aload_n 0 dX4_parse_0 rfl ?_
  refine r_iconst (v := 0) dX4_parse_1 rfl rfl ?_
  refine r_putf fd_X4_23 fp_X4_parse_23 dX4_parse_2 h (fun τ1 h => ?_)
  refine r_aload_n 0 dX4_parse_5 rfl ?_
  refine r_iconst (v := 0) dX4_parse_6 rfl rfl ?_
  refine r_putf fd_X4_26 fp_X4_parse_26 dX4_parse_7 h (fun τ2 h => ?_)
  refine r_aload_n 0 dX4_parse_10 rfl ?_
  refine r_iconst (v := (-1)) dX4_parse_11 rfl rfl ?_
  refine r_putf fd_X4_9 fp_X4_parse_9 dX4_parse_12 h (fun τ3 h => ?_)
  refine r_aload_n 0 dX4_parse_15 rfl ?_
  refine r_getr fd_X4_19 rfl dX4_parse_16 h (fun x4 h => ?_)
  refine r_callV (K' := Y_X1_reset) (R' := R_X1_reset) (idx := 29) (n := 0) (b := x4) (as := []) (rest := []) (C' := 0) (D' := 0) (cn := 1) rfl k0_X1_reset kV_X1_reset kl_X4_29 ⟨by decide, by decide⟩ dX4_parse_19 rfl rfl (Nat.le_of_ble_eq_true rfl) (by decide) (by decide) rfl h (fun r hr => m_X1_reset hl0 ⟨r, hr, hr⟩) (fun _ τ6 _ h => ?_)
  refine r_aload_n 0 dX4_parse_22 rfl ?_
  refine r_callV (K' := Y_X4_next) (R' := R_X4_next) (idx := 34) (n := 0) (b := a0) (as := []) (rest := []) (C' := 0) (D' := 0) (cn := 4) rfl k0_X4_next kV_X4_next kl_X4_34 ⟨by decide, by decide⟩ dX4_parse_23 rfl rfl (Nat.le_of_ble_eq_true rfl) (by decide) (by decide) rfl h (fun r hr => m_X4_next hl0 ⟨r, hr, hr⟩) (fun _ τ8 _ h => ?_)
  refine r_aload_n 0 dX4_parse_26 rfl ?_
  refine r_callV (K' := Y_X4_readRules) (R' := R_X4_readRules) (idx := 37) (n := 0) (b := a0) (as := []) (rest := []) (C' := 0) (D' := 0) (cn := 4) rfl k0_X4_readRules kV_X4_readRules kl_X4_37 ⟨by decide, by decide⟩ dX4_parse_27 rfl rfl (Nat.le_of_ble_eq_true rfl) (by decide) (by decide) rfl h (fun r hr => m_X4_readRules hl0 ⟨r, hr, hr⟩) (fun x9 τ10 _ h => ?_)
  refine r_istore_n (L' := [(1, (0, x9)), (0, (4, a0))]) dX4_parse_30 (by decide) rfl ?_
  refine r_iconst (v := 0) dX4_parse_31 rfl rfl ?_
  refine r_istore_n (L' := [(2, (0, 0)), (1, (0, x9)), (0, (4, a0))]) dX4_parse_32 (by decide) rfl ?_
  refine r_weak (L' := [(0, (4, a0)), (1, (0, x9)), (2, (0, 0))]) [2, 1, 0] rfl ?_
  refine r_room (C' := 0) (D' := 0) (by omega) (by omega) ?_
  exact t_X4_parse_33 hl0    zFU _ _ _ _ h
theorem m_X4_parse {g : zF} (hl0 : g.2.2.2.1.stackTraces = false) {Q : zR × zS → Prop} {a0 : Int} {σ : zS} (h : zo (f_X4_parse a0 σ) Q) : zm g Y_X4_parse R_X4_parse [(4, a0)] σ Q := zm_of (by decide) rfl (Nat.le_of_ble_eq_true rfl) (t_X4_parse hl0 h)


/- X7_contains -/

set_option maxRecDepth 100000 in
set_option maxHeartbeats 4000000 in
theorem t_X7_contains {g : zF} (hl0 : g.2.2.2.1.stackTraces = false) {Q : zR × zS → Prop}   {a0 a1 : Int} {σ : zS} (h : zo (f_X7_contains  a0 a1 σ) Q) : zw g Y_X7_contains R_X7_contains 0 [(0, (0, a0)), (1, (0, a1))] [] σ 0 0 Q := by
  unfold f_X7_contains at h
  refine r_iload_n 0 dX7_contains_0 rfl ?_
  refine r_iload_n 1 dX7_contains_1 rfl ?_
  refine r_ishr dX7_contains_2 ?_
  refine r_iconst (v := 1) dX7_contains_3 rfl rfl ?_
  refine r_iand dX7_contains_4 ?_
  refine r_iconst (v := 1) dX7_contains_5 rfl rfl ?_
  refine r_icmp_ne 13 dX7_contains_6 (by decide) h (fun h => ?_) (fun h => ?_)
  · refine r_iconst (v := 0) dX7_contains_13 rfl rfl ?_
    exact r_zretc (by decide) rfl dX7_contains_14 h
  · refine r_iconst (v := 1) dX7_contains_9 rfl rfl ?_
    refine r_goto 14 dX7_contains_10 (by decide) ?_
    exact r_zretc (by decide) rfl dX7_contains_14 h
theorem m_X7_contains {g : zF} (hl0 : g.2.2.2.1.stackTraces = false) {Q : zR × zS → Prop} {a0 a1 : Int} {σ : zS} (h : zo (f_X7_contains a0 a1 σ) Q) : zm g Y_X7_contains R_X7_contains [(0, a0), (0, a1)] σ Q := zm_of (by decide) rfl (Nat.le_of_ble_eq_true rfl) (t_X7_contains hl0 h)


/- X5_removeAll -/

set_option maxRecDepth 100000 in
set_option maxHeartbeats 4000000 in
theorem t_X5_removeAll_46 {g : zF} (hl0 : g.2.2.2.1.stackTraces = false) {Q : zR × zS → Prop} (r10 : Int → Int → Int → Int → Int → zS → zFn) (hr10 : ∀ b0 b1 b2 b3 b4 τ, zo (r10 b0 b1 b2 b3 b4 τ) Q → zw g Y_X5_removeAll R_X5_removeAll 10 [(0, (4, b0)), (1, (0, b1)), (2, (0, b2)), (3, (0, b3)), (4, (0, b4))] [] τ 0 0 Q) {a0 a1 a2 a3 a4 : Int} {σ : zS} (h : zo (f_X5_removeAll_46 r10 a0 a1 a2 a3 a4 σ) Q) : zw g Y_X5_removeAll R_X5_removeAll 46 [(0, (4, a0)), (1, (0, a1)), (2, (0, a2)), (3, (0, a3)), (4, (0, a4))] [] σ 0 0 Q := by
  unfold f_X5_removeAll_46 at h
  refine r_iinc (L' := [(4, (0, (w32 (a4 + (-1))))), (0, (4, a0)), (1, (0, a1)), (2, (0, a2)), (3, (0, a3))]) 4 dX5_removeAll_46 rfl (by decide) rfl ?_
  refine r_goto 10 dX5_removeAll_49 (by decide) ?_
  refine r_weak (L' := [(0, (4, a0)), (1, (0, a1)), (2, (0, a2)), (3, (0, a3)), (4, (0, (w32 (a4 + (-1)))))]) [1, 2, 3, 4, 0] rfl ?_
  refine r_room (C' := 0) (D' := 0) (by omega) (by omega) ?_
  exact hr10 _ _ _ _ _ _ h

set_option maxRecDepth 100000 in
set_option maxHeartbeats 4000000 in
theorem t_X5_removeAll_10 {g : zF} (hl0 : g.2.2.2.1.stackTraces = false) {Q : zR × zS → Prop}   : ∀ (n : Nat) (a0 a1 a2 a3 a4 : Int) (σ : zS), zo (f_X5_removeAll_10  n a0 a1 a2 a3 a4 σ) Q → zw g Y_X5_removeAll R_X5_removeAll 10 [(0, (4, a0)), (1, (0, a1)), (2, (0, a2)), (3, (0, a3)), (4, (0, a4))] [] σ 0 0 Q := by
  intro n
  induction n with
  | zero => intro a0 a1 a2 a3 a4 σ h; obtain ⟨r, h, -⟩ := h; cases h
  | succ n ih =>
    intro a0 a1 a2 a3 a4 σ h
    unfold f_X5_removeAll_10 at h
    refine r_iload 4 dX5_removeAll_10 rfl ?_
    refine r_if_lt 52 dX5_removeAll_12 (by decide) h (fun h => ?_) (fun h => ?_)
    · refine r_iload_n 3 dX5_removeAll_52 rfl ?_
      refine r_aload_n 0 dX5_removeAll_53 rfl ?_
      refine r_getf fd_X5_15 rfl dX5_removeAll_54 h (fun x1 h => ?_)
      refine r_isub dX5_removeAll_57 ?_
      exact r_iret rfl dX5_removeAll_58 h
    · refine r_aload_n 0 dX5_removeAll_15 rfl ?_
      refine r_iload 4 dX5_removeAll_16 rfl ?_
      refine r_iconst (v := 3) dX5_removeAll_18 rfl rfl ?_
      refine r_callV (K' := Y_X5_get) (R' := R_X5_get) (idx := 19) (n := 2) (b := a0) (as := [(0, a4), (0, 3)]) (rest := []) (C' := 0) (D' := 0) (cn := 5) rfl k0_X5_get kV_X5_get kl_X5_19 ⟨by decide, by decide⟩ dX5_removeAll_19 rfl rfl (Nat.le_of_ble_eq_true rfl) (by decide) (by decide) rfl h (fun r hr => m_X5_get hl0 ⟨r, hr, hr⟩) (fun x2 τ3 _ h => ?_)
      refine r_iload_n 1 dX5_removeAll_22 rfl ?_
      refine r_icmp_ne 46 dX5_removeAll_23 (by decide) h (fun h => ?_) (fun h => ?_)
      · refine r_room (C' := 0) (D' := 0) (by omega) (by omega) ?_
        exact t_X5_removeAll_46 hl0  (f_X5_removeAll_10  n) (fun b0 b1 b2 b3 b4 τ h => ih b0 b1 b2 b3 b4 τ h) h
      · refine r_iload_n 2 dX5_removeAll_26 rfl ?_
        refine r_aload_n 0 dX5_removeAll_27 rfl ?_
        refine r_iload 4 dX5_removeAll_28 rfl ?_
        refine r_iconst (v := 0) dX5_removeAll_30 rfl rfl ?_
        refine r_callV (K' := Y_X5_get) (R' := R_X5_get) (idx := 19) (n := 2) (b := a0) (as := [(0, a4), (0, 0)]) (rest := [(0, a2)]) (C' := 0) (D' := 0) (cn := 5) rfl k0_X5_get kV_X5_get kl_X5_19 ⟨by decide, by decide⟩ dX5_removeAll_31 rfl rfl (Nat.le_of_ble_eq_true rfl) (by decide) (by decide) rfl h (fun r hr => m_X5_get hl0 ⟨r, hr, hr⟩) (fun x4 τ5 _ h => ?_)
        refine r_callS (K' := Y_X7_contains) (R' := R_X7_contains) (idx := 53) (n := 2) (as := [(0, a2), (0, x4)]) (rest := []) (C' := 0) (D' := 0) rfl k0_X7_contains wd_1126 kl_X5_53 ⟨by decide, by decide⟩ dX5_removeAll_34 rfl rfl (Nat.le_of_ble_eq_true rfl) (by decide) (by decide) h (fun r hr => m_X7_contains hl0 ⟨r, hr, hr⟩) (fun x6 τ7 _ h => ?_)
        refine r_if_eq 46 dX5_removeAll_37 (by decide) h (fun h => ?_) (fun h => ?_)
        · refine r_room (C' := 0) (D' := 0) (by omega) (by omega) ?_
          exact t_X5_removeAll_46 hl0  (f_X5_removeAll_10  n) (fun b0 b1 b2 b3 b4 τ h => ih b0 b1 b2 b3 b4 τ h) h
        · refine r_aload_n 0 dX5_removeAll_40 rfl ?_
          refine r_iload 4 dX5_removeAll_41 rfl ?_
          refine r_callV (K' := Y_X5_removeRow) (R' := R_X5_removeRow) (idx := 57) (n := 1) (b := a0) (as := [(0, a4)]) (rest := []) (C' := 0) (D' := 0) (cn := 5) rfl k0_X5_removeRow kV_X5_removeRow kl_X5_57 ⟨by decide, by decide⟩ dX5_removeAll_43 rfl rfl (Nat.le_of_ble_eq_true rfl) (by decide) (by decide) rfl h (fun r hr => m_X5_removeRow hl0 ⟨r, hr, hr⟩) (fun _ τ9 _ h => ?_)
          refine r_room (C' := 0) (D' := 0) (by omega) (by omega) ?_
          exact t_X5_removeAll_46 hl0  (f_X5_removeAll_10  n) (fun b0 b1 b2 b3 b4 τ h => ih b0 b1 b2 b3 b4 τ h) h

set_option maxRecDepth 100000 in
set_option maxHeartbeats 4000000 in
theorem t_X5_removeAll {g : zF} (hl0 : g.2.2.2.1.stackTraces = false) {Q : zR × zS → Prop}   {a0 a1 a2 : Int} {σ : zS} (h : zo (f_X5_removeAll  a0 a1 a2 σ) Q) : zw g Y_X5_removeAll R_X5_removeAll 0 [(0, (4, a0)), (1, (0, a1)), (2, (0, a2))] [] σ 0 0 Q := by
  unfold f_X5_removeAll at h
  refine r_aload_n 0 dX5_removeAll_0 rfl ?_
  refine r_getf fd_X5_15 rfl dX5_removeAll_1 h (fun x1 h => ?_)
  refine r_istore_n (L' := [(3, (0, x1)), (0, (4, a0)), (1, (0, a1)), (2, (0, a2))]) dX5_removeAll_4 (by decide) rfl ?_
  refine r_iload_n 0 dX5_removeAll_5 rfl ?_
  refine r_iconst (v := 1) dX5_removeAll_6 rfl rfl ?_
  refine r_isub dX5_removeAll_7 ?_
  refine r_istore (L' := [(4, (0, (w32 (x1 - 1)))), (3, (0, x1)), (0, (4, a0)), (1, (0, a1)), (2, (0, a2))]) dX5_removeAll_8 (by decide) rfl ?_
  refine r_weak (L' := [(0, (4, a0)), (1, (0, a1)), (2, (0, a2)), (3, (0, x1)), (4, (0, (w32 (x1 - 1))))]) [2, 3, 4, 1, 0] rfl ?_
  refine r_room (C' := 0) (D' := 0) (by omega) (by omega) ?_
  exact t_X5_removeAll_10 hl0    zFU _ _ _ _ _ _ h
theorem m_X5_removeAll {g : zF} (hl0 : g.2.2.2.1.stackTraces = false) {Q : zR × zS → Prop} {a0 a1 a2 : Int} {σ : zS} (h : zo (f_X5_removeAll a0 a1 a2 σ) Q) : zm g Y_X5_removeAll R_X5_removeAll [(4, a0), (0, a1), (0, a2)] σ Q := zm_of (by decide) rfl (Nat.le_of_ble_eq_true rfl) (t_X5_removeAll hl0 h)


/- X6_init -/

set_option maxRecDepth 100000 in
set_option maxHeartbeats 4000000 in
theorem t_X6_init {g : zF} (hl0 : g.2.2.2.1.stackTraces = false) {Q : zR × zS → Prop}   {a0 : Int} {σ : zS} (h : zo (f_X6_init  a0 σ) Q) : zw g Y_X6_init R_X6_init 0 [(0, (4, a0))] [] σ 6 36 Q := by
  unfold f_X6_init at h
  refine r_aload_n 0 dX6_init_0 rfl ?_
  refine r_objinit oi_X6_3 ⟨by decide, Nat.le_of_ble_eq_true rfl⟩ dX6_init_1 h (fun h => ?_)
  refine r_aload_n 0 dX6_init_4 rfl ?_
  refine r_bipush (v := 6) dX6_init_5 rfl rfl ?_
  refine r_newa1 (C' := 5) (D' := 30) (N := 6) wd_165 dX6_init_7 (by decide) (by decide) (by decide) h (fun x1 τ2 h => ?_)
  refine r_putr fd_X6_9 fp_X6_init_9 dX6_init_9 h (fun τ3 h => ?_)
  refine r_aload_n 0 dX6_init_12 rfl ?_
  refine r_bipush (v := 6) dX6_init_13 rfl rfl ?_
  refine r_newa1 (C' := 4) (D' := 24) (N := 6) wd_165 dX6_init_15 (by decide) (by decide) (by decide) h (fun x4 τ5 h => ?_)
  refine r_putr fd_X6_15 fp_X6_init_15 dX6_init_17 h (fun τ6 h => ?_)
  refine r_aload_n 0 dX6_init_20 rfl ?_
  refine r_bipush (v := 6) dX6_init_21 rfl rfl ?_
  refine r_newa1 (C' := 3) (D' := 18) (N := 6) wd_165 dX6_init_23 (by decide) (by decide) (by decide) h (fun x7 τ8 h => ?_)
  refine r_putr fd_X6_18 fp_X6_init_18 dX6_init_25 h (fun τ9 h => ?_)
  refine r_aload_n 0 dX6_init_28 rfl ?_
  refine r_bipush (v := 6) dX6_init_29 rfl rfl ?_
  refine r_newa1 (C' := 2) (D' := 12) (N := 6) wd_165 dX6_init_31 (by decide) (by decide) (by decide) h (fun x10 τ11 h => ?_)
  refine r_putr fd_X6_21 fp_X6_init_21 dX6_init_33 h (fun τ12 h => ?_)
  refine r_aload_n 0 dX6_init_36 rfl ?_
  refine r_bipush (v := 6) dX6_init_37 rfl rfl ?_
  refine r_newa1 (C' := 1) (D' := 6) (N := 6) wd_165 dX6_init_39 (by decide) (by decide) (by decide) h (fun x13 τ14 h => ?_)
  refine r_putr fd_X6_24 fp_X6_init_24 dX6_init_41 h (fun τ15 h => ?_)
  refine r_aload_n 0 dX6_init_44 rfl ?_
  refine r_bipush (v := 6) dX6_init_45 rfl rfl ?_
  refine r_newa1 (C' := 0) (D' := 0) (N := 6) wd_165 dX6_init_47 (by decide) (by decide) (by decide) h (fun x16 τ17 h => ?_)
  refine r_putr fd_X6_27 fp_X6_init_27 dX6_init_49 h (fun τ18 h => ?_)
  exact r_vret rfl dX6_init_52 h
theorem m_X6_init {g : zF} (hl0 : g.2.2.2.1.stackTraces = false) {Q : zR × zS → Prop} {a0 : Int} {σ : zS} (h : zo (f_X6_init a0 σ) Q) : zm g Y_X6_init R_X6_init [(4, a0)] σ Q := zm_of (by decide) rfl (Nat.le_of_ble_eq_true rfl) (t_X6_init hl0 h)


/- X6_note -/

set_option maxRecDepth 100000 in
set_option maxHeartbeats 4000000 in
theorem t_X6_note_78 {g : zF} (hl0 : g.2.2.2.1.stackTraces = false) {Q : zR × zS → Prop}   {a0 a3 a4 a5 a7 a8 s0 : Int} {σ : zS} (h : zo (f_X6_note_78  a0 a3 a4 a5 a7 a8 s0 σ) Q) : zw g Y_X6_note R_X6_note 78 [(0, (4, a0)), (3, (0, a3)), (4, (0, a4)), (5, (4, a5)), (7, (0, a7)), (8, (0, a8))] [(0, s0)] σ 0 0 Q := by
  unfold f_X6_note_78 at h
  refine r_istore (L' := [(9, (0, s0)), (0, (4, a0)), (3, (0, a3)), (4, (0, a4)), (5, (4, a5)), (7, (0, a7)), (8, (0, a8))]) dX6_note_78 (by decide) rfl ?_
  refine r_aload_n 1 dX6_note_80 rfl ?_
  refine r_getr fd_X6_9 rfl dX6_note_81 h (fun x1 h => ?_)
  refine r_iload 3 dX6_note_84 rfl ?_
  refine r_iload_n 2 dX6_note_86 rfl ?_
  refine r_iast dX6_note_87 h (fun τ2 h => ?_)
  refine r_aload_n 1 dX6_note_88 rfl ?_
  refine r_getr fd_X6_15 rfl dX6_note_89 h (fun x3 h => ?_)
  refine r_iload 3 dX6_note_92 rfl ?_
  refine r_aload 4 dX6_note_94 rfl ?_
  refine r_iload_n 2 dX6_note_96 rfl ?_
  refine r_iconst (v := 0) dX6_note_97 rfl rfl ?_
  refine r_callV (K' := Y_X5_get) (R' := R_X5_get) (idx := 49) (n := 2) (b := a5) (as := [(0, a3), (0, 0)]) (rest := [(0, a4), (4, x3)]) (C' := 0) (D' := 0) (cn := 5) rfl k0_X5_get kV_X5_get kl_X6_49 ⟨by decide, by decide⟩ dX6_note_98 rfl rfl (Nat.le_of_ble_eq_true rfl) (by decide) (by decide) rfl h (fun r hr => m_X5_get hl0 ⟨r, hr, hr⟩) (fun x4 τ5 _ h => ?_)
  refine r_iast dX6_note_101 h (fun τ6 h => ?_)
  refine r_aload_n 1 dX6_note_102 rfl ?_
  refine r_getr fd_X6_18 rfl dX6_note_103 h (fun x7 h => ?_)
  refine r_iload 3 dX6_note_106 rfl ?_
  refine r_bipush (v := 10) dX6_note_108 rfl rfl ?_
  refine r_iload 5 dX6_note_110 rfl ?_
  refine r_isub dX6_note_112 ?_
  refine r_bipush (v := 100) dX6_note_113 rfl rfl ?_
  refine r_imul dX6_note_115 ?_
  refine r_aload 4 dX6_note_116 rfl ?_
  refine r_iload_n 2 dX6_note_118 rfl ?_
  refine r_iconst (v := 2) dX6_note_119 rfl rfl ?_
  refine r_callV (K' := Y_X5_get) (R' := R_X5_get) (idx := 49) (n := 2) (b := a5) (as := [(0, a3), (0, 2)]) (rest := [(0, (w32 ((w32 (10 - a7)) * 100))), (0, a4), (4, x7)]) (C' := 0) (D' := 0) (cn := 5) rfl k0_X5_get kV_X5_get kl_X6_49 ⟨by decide, by decide⟩ dX6_note_120 rfl rfl (Nat.le_of_ble_eq_true rfl) (by decide) (by decide) rfl h (fun r hr => m_X5_get hl0 ⟨r, hr, hr⟩) (fun x8 τ9 _ h => ?_)
  refine r_bipush (v := 10) dX6_note_123 rfl rfl ?_
  refine r_imul dX6_note_125 ?_
  refine r_iadd dX6_note_126 ?_
  refine r_aload_n 1 dX6_note_127 rfl ?_
  refine r_getr fd_X6_15 rfl dX6_note_128 h (fun x10 h => ?_)
  refine r_iload 3 dX6_note_131 rfl ?_
  refine r_iald dX6_note_133 h (fun x11 h => ?_)
  refine r_iadd dX6_note_134 ?_
  refine r_iast dX6_note_135 h (fun τ12 h => ?_)
  refine r_aload_n 1 dX6_note_136 rfl ?_
  refine r_getr fd_X6_21 rfl dX6_note_137 h (fun x13 h => ?_)
  refine r_iload 3 dX6_note_140 rfl ?_
  refine r_aload 4 dX6_note_142 rfl ?_
  refine r_iload_n 2 dX6_note_144 rfl ?_
  refine r_iload 6 dX6_note_145 rfl ?_
  refine r_callV (K' := Y_X5_lowMoved) (R' := R_X5_lowMoved) (idx := 75) (n := 2) (b := a5) (as := [(0, a3), (0, a8)]) (rest := [(0, a4), (4, x13)]) (C' := 0) (D' := 0) (cn := 5) rfl k0_X5_lowMoved kV_X5_lowMoved kl_X6_75 ⟨by decide, by decide⟩ dX6_note_147 rfl rfl (Nat.le_of_ble_eq_true rfl) (by decide) (by decide) rfl h (fun r hr => m_X5_lowMoved hl0 ⟨r, hr, hr⟩) (fun x14 τ15 _ h => ?_)
  refine r_iast dX6_note_150 h (fun τ16 h => ?_)
  refine r_aload_n 1 dX6_note_151 rfl ?_
  refine r_getr fd_X6_24 rfl dX6_note_152 h (fun x17 h => ?_)
  refine r_iload 3 dX6_note_155 rfl ?_
  refine r_aload 4 dX6_note_157 rfl ?_
  refine r_iload_n 2 dX6_note_159 rfl ?_
  refine r_iload 6 dX6_note_160 rfl ?_
  refine r_callV (K' := Y_X5_highMoved) (R' := R_X5_highMoved) (idx := 78) (n := 2) (b := a5) (as := [(0, a3), (0, a8)]) (rest := [(0, a4), (4, x17)]) (C' := 0) (D' := 0) (cn := 5) rfl k0_X5_highMoved kV_X5_highMoved kl_X6_78 ⟨by decide, by decide⟩ dX6_note_162 rfl rfl (Nat.le_of_ble_eq_true rfl) (by decide) (by decide) rfl h (fun r hr => m_X5_highMoved hl0 ⟨r, hr, hr⟩) (fun x18 τ19 _ h => ?_)
  refine r_iast dX6_note_165 h (fun τ20 h => ?_)
  refine r_aload_n 1 dX6_note_166 rfl ?_
  refine r_getr fd_X6_27 rfl dX6_note_167 h (fun x21 h => ?_)
  refine r_iload 3 dX6_note_170 rfl ?_
  refine r_iload 0 dX6_note_172 rfl ?_
  refine r_if_eq 181 dX6_note_174 (by decide) h (fun h => ?_) (fun h => ?_)
  · refine r_iconst (v := 3) dX6_note_181 rfl rfl ?_
    refine r_iast dX6_note_182 h (fun τ22 h => ?_)
    exact r_vret rfl dX6_note_183 h
  · refine r_iconst (v := 2) dX6_note_177 rfl rfl ?_
    refine r_goto 182 dX6_note_178 (by decide) ?_
    refine r_iast dX6_note_182 h (fun τ23 h => ?_)
    exact r_vret rfl dX6_note_183 h

set_option maxRecDepth 100000 in
set_option maxHeartbeats 4000000 in
theorem t_X6_note_73 {g : zF} (hl0 : g.2.2.2.1.stackTraces = false) {Q : zR × zS → Prop}   {a0 a3 a4 a5 a7 a8 : Int} {σ : zS} (h : zo (f_X6_note_73  a0 a3 a4 a5 a7 a8 σ) Q) : zw g Y_X6_note R_X6_note 73 [(0, (4, a0)), (3, (0, a3)), (4, (0, a4)), (5, (4, a5)), (7, (0, a7)), (8, (0, a8))] [] σ 0 0 Q := by
  unfold f_X6_note_73 at h
  refine r_iconst (v := 1) dX6_note_73 rfl rfl ?_
  refine r_goto 78 dX6_note_74 (by decide) ?_
  refine r_room (C' := 0) (D' := 0) (by omega) (by omega) ?_
  exact t_X6_note_78 hl0    h

set_option maxRecDepth 100000 in
set_option maxHeartbeats 4000000 in
theorem t_X6_note_47 {g : zF} (hl0 : g.2.2.2.1.stackTraces = false) {Q : zR × zS → Prop}   {a0 a1 a2 a3 a4 a5 s0 : Int} {σ : zS} (h : zo (f_X6_note_47  a0 a1 a2 a3 a4 a5 s0 σ) Q) : zw g Y_X6_note R_X6_note 47 [(0, (4, a0)), (1, (4, a1)), (2, (0, a2)), (3, (0, a3)), (4, (0, a4)), (5, (4, a5))] [(0, s0)] σ 0 0 Q := by
  unfold f_X6_note_47 at h
  refine r_istore (L' := [(7, (0, s0)), (0, (4, a0)), (1, (4, a1)), (2, (0, a2)), (3, (0, a3)), (4, (0, a4)), (5, (4, a5))]) dX6_note_47 (by decide) rfl ?_
  refine r_aload_n 2 dX6_note_49 rfl ?_
  refine r_iload_n 3 dX6_note_50 rfl ?_
  refine r_iload_n 4 dX6_note_51 rfl ?_
  refine r_callV (K' := Y_X1_beliefSpread) (R' := R_X1_beliefSpread) (idx := 68) (n := 2) (b := a1) (as := [(0, a2), (0, a3)]) (rest := []) (C' := 0) (D' := 0) (cn := 1) rfl k0_X1_beliefSpread kV_X1_beliefSpread kl_X6_68 ⟨by decide, by decide⟩ dX6_note_52 rfl rfl (Nat.le_of_ble_eq_true rfl) (by decide) (by decide) rfl h (fun r hr => m_X1_beliefSpread hl0 ⟨r, hr, hr⟩) (fun x1 τ2 _ h => ?_)
  refine r_istore (L' := [(8, (0, x1)), (7, (0, s0)), (0, (4, a0)), (1, (4, a1)), (2, (0, a2)), (3, (0, a3)), (4, (0, a4)), (5, (4, a5))]) dX6_note_55 (by decide) rfl ?_
  refine r_iload 1 dX6_note_57 rfl ?_
  refine r_iconst (v := (-1)) dX6_note_59 rfl rfl ?_
  refine r_icmp_eq 73 dX6_note_60 (by decide) h (fun h => ?_) (fun h => ?_)
  · refine r_weak (L' := [(0, (4, a0)), (3, (0, a3)), (4, (0, a4)), (5, (4, a5)), (7, (0, s0)), (8, (0, x1))]) [2, 5, 6, 7, 1, 0] rfl ?_
    refine r_room (C' := 0) (D' := 0) (by omega) (by omega) ?_
    exact t_X6_note_73 hl0    h
  · refine r_iload 1 dX6_note_63 rfl ?_
    refine r_aload_n 3 dX6_note_65 rfl ?_
    refine r_iconst (v := 2) dX6_note_66 rfl rfl ?_
    refine r_callV (K' := Y_X1_rule) (R' := R_X1_rule) (idx := 71) (n := 1) (b := a1) (as := [(0, 2)]) (rest := [(0, s0)]) (C' := 0) (D' := 0) (cn := 1) rfl k0_X1_rule kV_X1_rule kl_X6_71 ⟨by decide, by decide⟩ dX6_note_67 rfl rfl (Nat.le_of_ble_eq_true rfl) (by decide) (by decide) rfl h (fun r hr => m_X1_rule hl0 ⟨r, hr, hr⟩) (fun x3 τ4 _ h => ?_)
    refine r_icmp_ge 77 dX6_note_70 (by decide) h (fun h => ?_) (fun h => ?_)
    · refine r_iconst (v := 0) dX6_note_77 rfl rfl ?_
      refine r_weak (L' := [(0, (4, a0)), (3, (0, a3)), (4, (0, a4)), (5, (4, a5)), (7, (0, s0)), (8, (0, x1))]) [2, 5, 6, 7, 1, 0] rfl ?_
      refine r_room (C' := 0) (D' := 0) (by omega) (by omega) ?_
      exact t_X6_note_78 hl0    h
    · refine r_weak (L' := [(0, (4, a0)), (3, (0, a3)), (4, (0, a4)), (5, (4, a5)), (7, (0, s0)), (8, (0, x1))]) [2, 5, 6, 7, 1, 0] rfl ?_
      refine r_room (C' := 0) (D' := 0) (by omega) (by omega) ?_
      exact t_X6_note_73 hl0    h

set_option maxRecDepth 100000 in
set_option maxHeartbeats 4000000 in
theorem t_X6_note {g : zF} (hl0 : g.2.2.2.1.stackTraces = false) {Q : zR × zS → Prop}   {a0 a1 a2 a3 a4 : Int} {σ : zS} (h : zo (f_X6_note  a0 a1 a2 a3 a4 σ) Q) : zw g Y_X6_note R_X6_note 0 [(0, (4, a0)), (1, (4, a1)), (2, (0, a2)), (3, (0, a3)), (4, (0, a4))] [] σ 0 0 Q := by
  unfold f_X6_note at h
  refine r_iload 4 dX6_note_0 rfl ?_
  refine r_if_lt 12 dX6_note_2 (by decide) h (fun h => ?_) (fun h => ?_)
  · exact r_vret rfl dX6_note_12 h
  · refine r_iload 4 dX6_note_5 rfl ?_
    refine r_bipush (v := 6) dX6_note_7 rfl rfl ?_
    refine r_icmp_lt 13 dX6_note_9 (by decide) h (fun h => ?_) (fun h => ?_)
    · refine r_aload_n 1 dX6_note_13 rfl ?_
      refine r_iload_n 2 dX6_note_14 rfl ?_
      refine r_callV (K' := Y_X1_listOf) (R' := R_X1_listOf) (idx := 40) (n := 1) (b := a1) (as := [(0, a2)]) (rest := []) (C' := 0) (D' := 0) (cn := 1) rfl k0_X1_listOf kV_X1_listOf kl_X6_40 ⟨by decide, by decide⟩ dX6_note_15 rfl rfl (Nat.le_of_ble_eq_true rfl) (by decide) (by decide) rfl h (fun r hr => m_X1_listOf hl0 ⟨r, hr, hr⟩) (fun x1 τ2 _ h => ?_)
      refine r_astore (L' := [(5, (4, x1)), (0, (4, a0)), (1, (4, a1)), (2, (0, a2)), (3, (0, a3)), (4, (0, a4))]) dX6_note_18 (by decide) rfl ?_
      refine r_aload 0 dX6_note_20 rfl ?_
      refine r_iload_n 4 dX6_note_22 rfl ?_
      refine r_iconst (v := 1) dX6_note_23 rfl rfl ?_
      refine r_callV (K' := Y_X5_get) (R' := R_X5_get) (idx := 49) (n := 2) (b := x1) (as := [(0, a3), (0, 1)]) (rest := []) (C' := 0) (D' := 0) (cn := 5) rfl k0_X5_get kV_X5_get kl_X6_49 ⟨by decide, by decide⟩ dX6_note_24 rfl rfl (Nat.le_of_ble_eq_true rfl) (by decide) (by decide) rfl h (fun r hr => m_X5_get hl0 ⟨r, hr, hr⟩) (fun x3 τ4 _ h => ?_)
      refine r_istore (L' := [(6, (0, x3)), (5, (4, x1)), (0, (4, a0)), (1, (4, a1)), (2, (0, a2)), (3, (0, a3)), (4, (0, a4))]) dX6_note_27 (by decide) rfl ?_
      refine r_iload 0 dX6_note_29 rfl ?_
      refine r_iload_n 4 dX6_note_31 rfl ?_
      refine r_icmp_ne 40 dX6_note_32 (by decide) h (fun h => ?_) (fun h => ?_)
      · refine r_aload_n 3 dX6_note_40 rfl ?_
        refine r_iload_n 4 dX6_note_41 rfl ?_
        refine r_iload 0 dX6_note_42 rfl ?_
        refine r_callV (K' := Y_X1_trustIn) (R' := R_X1_trustIn) (idx := 65) (n := 2) (b := a1) (as := [(0, a2), (0, x3)]) (rest := []) (C' := 0) (D' := 0) (cn := 1) rfl k0_X1_trustIn kV_X1_trustIn kl_X6_65 ⟨by decide, by decide⟩ dX6_note_44 rfl rfl (Nat.le_of_ble_eq_true rfl) (by decide) (by decide) rfl h (fun r hr => m_X1_trustIn hl0 ⟨r, hr, hr⟩) (fun x5 τ6 _ h => ?_)
        refine r_weak (L' := [(0, (4, a0)), (1, (4, a1)), (2, (0, a2)), (3, (0, a3)), (4, (0, a4)), (5, (4, x1))]) [2, 3, 4, 5, 6, 1] rfl ?_
        refine r_room (C' := 0) (D' := 0) (by omega) (by omega) ?_
        exact t_X6_note_47 hl0    h
      · refine r_bipush (v := 11) dX6_note_35 rfl rfl ?_
        refine r_goto 47 dX6_note_37 (by decide) ?_
        refine r_weak (L' := [(0, (4, a0)), (1, (4, a1)), (2, (0, a2)), (3, (0, a3)), (4, (0, a4)), (5, (4, x1))]) [2, 3, 4, 5, 6, 1] rfl ?_
        refine r_room (C' := 0) (D' := 0) (by omega) (by omega) ?_
        exact t_X6_note_47 hl0    h
    · exact r_vret rfl dX6_note_12 h
theorem m_X6_note {g : zF} (hl0 : g.2.2.2.1.stackTraces = false) {Q : zR × zS → Prop} {a0 a1 a2 a3 a4 : Int} {σ : zS} (h : zo (f_X6_note a0 a1 a2 a3 a4 σ) Q) : zm g Y_X6_note R_X6_note [(4, a0), (4, a1), (0, a2), (0, a3), (0, a4)] σ Q := zm_of (by decide) rfl (Nat.le_of_ble_eq_true rfl) (t_X6_note hl0 h)

