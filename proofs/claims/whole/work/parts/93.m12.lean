/- X8_parseRules -/

set_option maxRecDepth 100000 in
set_option maxHeartbeats 4000000 in
theorem t_X8_parseRules_15 {g : zF} (hl0 : g.2.2.2.1.stackTraces = false) {Q : zR × zS → Prop}   {a0 : Int} {σ : zS} (h : zo (f_X8_parseRules_15  a0 σ) Q) : zw g Y_X8_parseRules R_X8_parseRules 15 [(0, (4, a0))] [] σ 0 0 Q := by
  unfold f_X8_parseRules_15 at h
  refine r_aload_n 0 dX8_parseRules_15 rfl ?_
  refine r_callV (K' := Y_X8_goOn) (R' := R_X8_goOn) (idx := 270) (n := 0) (b := a0) (as := []) (rest := []) (C' := 0) (D' := 0) (cn := 8) rfl k0_X8_goOn kV_X8_goOn kl_X8_270 ⟨by decide, by decide⟩ dX8_parseRules_16 rfl rfl (Nat.le_of_ble_eq_true rfl) (by decide) (by decide) rfl h (fun r hr => m_X8_goOn hl0 ⟨r, hr, hr⟩) (fun _ τ2 _ h => ?_)
  refine r_aload_n 0 dX8_parseRules_19 rfl ?_
  refine r_getr fd_X8_24 rfl dX8_parseRules_20 h (fun x3 h => ?_)
  refine r_iconst (v := 3) dX8_parseRules_23 rfl rfl ?_
  refine r_aload_n 0 dX8_parseRules_24 rfl ?_
  refine r_ldcSW (j := 1) (text := "drift") (by decide +kernel) dX8_parseRules_25 ?_
  refine r_iconst (v := 0) dX8_parseRules_28 rfl rfl ?_
  refine r_bipush (v := 20) dX8_parseRules_29 rfl rfl ?_
  refine r_callV (K' := Y_X8_numberBehind) (R' := R_X8_numberBehind) (idx := 309) (n := 3) (b := a0) (as := [(6, (1 : Nat)), (0, 0), (0, 20)]) (rest := [(0, 3), (4, x3)]) (C' := 0) (D' := 0) (cn := 8) rfl k0_X8_numberBehind kV_X8_numberBehind kl_X8_309 ⟨by decide, by decide⟩ dX8_parseRules_31 rfl rfl (Nat.le_of_ble_eq_true rfl) (by decide) (by decide) rfl h (fun r hr => m_X8_numberBehind hl0 ⟨r, hr, hr⟩) (fun x4 τ5 _ h => ?_)
  refine r_iast dX8_parseRules_34 h (fun τ6 h => ?_)
  refine r_aload_n 0 dX8_parseRules_35 rfl ?_
  refine r_getr fd_X8_24 rfl dX8_parseRules_36 h (fun x7 h => ?_)
  refine r_iconst (v := 4) dX8_parseRules_39 rfl rfl ?_
  refine r_aload_n 0 dX8_parseRules_40 rfl ?_
  refine r_ldcSW (j := 2) (text := "slack") (by decide +kernel) dX8_parseRules_41 ?_
  refine r_iconst (v := 0) dX8_parseRules_44 rfl rfl ?_
  refine r_bipush (v := 50) dX8_parseRules_45 rfl rfl ?_
  refine r_callV (K' := Y_X8_numberBehind) (R' := R_X8_numberBehind) (idx := 309) (n := 3) (b := a0) (as := [(6, (2 : Nat)), (0, 0), (0, 50)]) (rest := [(0, 4), (4, x7)]) (C' := 0) (D' := 0) (cn := 8) rfl k0_X8_numberBehind kV_X8_numberBehind kl_X8_309 ⟨by decide, by decide⟩ dX8_parseRules_47 rfl rfl (Nat.le_of_ble_eq_true rfl) (by decide) (by decide) rfl h (fun r hr => m_X8_numberBehind hl0 ⟨r, hr, hr⟩) (fun x8 τ9 _ h => ?_)
  refine r_iast dX8_parseRules_50 h (fun τ10 h => ?_)
  refine r_aload_n 0 dX8_parseRules_51 rfl ?_
  refine r_getr fd_X8_24 rfl dX8_parseRules_52 h (fun x11 h => ?_)
  refine r_iconst (v := 5) dX8_parseRules_55 rfl rfl ?_
  refine r_aload_n 0 dX8_parseRules_56 rfl ?_
  refine r_ldcSW (j := 3) (text := "least") (by decide +kernel) dX8_parseRules_57 ?_
  refine r_iconst (v := 0) dX8_parseRules_60 rfl rfl ?_
  refine r_bipush (v := 10) dX8_parseRules_61 rfl rfl ?_
  refine r_callV (K' := Y_X8_numberBehind) (R' := R_X8_numberBehind) (idx := 309) (n := 3) (b := a0) (as := [(6, (3 : Nat)), (0, 0), (0, 10)]) (rest := [(0, 5), (4, x11)]) (C' := 0) (D' := 0) (cn := 8) rfl k0_X8_numberBehind kV_X8_numberBehind kl_X8_309 ⟨by decide, by decide⟩ dX8_parseRules_63 rfl rfl (Nat.le_of_ble_eq_true rfl) (by decide) (by decide) rfl h (fun r hr => m_X8_numberBehind hl0 ⟨r, hr, hr⟩) (fun x12 τ13 _ h => ?_)
  refine r_iast dX8_parseRules_66 h (fun τ14 h => ?_)
  refine r_aload_n 0 dX8_parseRules_67 rfl ?_
  refine r_getr fd_X8_24 rfl dX8_parseRules_68 h (fun x15 h => ?_)
  refine r_bipush (v := 6) dX8_parseRules_71 rfl rfl ?_
  refine r_aload_n 0 dX8_parseRules_73 rfl ?_
  refine r_ldcSW (j := 4) (text := "age") (by decide +kernel) dX8_parseRules_74 ?_
  refine r_iconst (v := 1) dX8_parseRules_77 rfl rfl ?_
  refine r_bipush (v := 99) dX8_parseRules_78 rfl rfl ?_
  refine r_callV (K' := Y_X8_numberBehind) (R' := R_X8_numberBehind) (idx := 309) (n := 3) (b := a0) (as := [(6, (4 : Nat)), (0, 1), (0, 99)]) (rest := [(0, 6), (4, x15)]) (C' := 0) (D' := 0) (cn := 8) rfl k0_X8_numberBehind kV_X8_numberBehind kl_X8_309 ⟨by decide, by decide⟩ dX8_parseRules_80 rfl rfl (Nat.le_of_ble_eq_true rfl) (by decide) (by decide) rfl h (fun r hr => m_X8_numberBehind hl0 ⟨r, hr, hr⟩) (fun x16 τ17 _ h => ?_)
  refine r_iast dX8_parseRules_83 h (fun τ18 h => ?_)
  refine r_aload_n 0 dX8_parseRules_84 rfl ?_
  refine r_getr fd_X8_24 rfl dX8_parseRules_85 h (fun x19 h => ?_)
  refine r_bipush (v := 7) dX8_parseRules_88 rfl rfl ?_
  refine r_aload_n 0 dX8_parseRules_90 rfl ?_
  refine r_ldcSW (j := 5) (text := "hops") (by decide +kernel) dX8_parseRules_91 ?_
  refine r_iconst (v := 1) dX8_parseRules_94 rfl rfl ?_
  refine r_iconst (v := 3) dX8_parseRules_95 rfl rfl ?_
  refine r_callV (K' := Y_X8_numberBehind) (R' := R_X8_numberBehind) (idx := 309) (n := 3) (b := a0) (as := [(6, (5 : Nat)), (0, 1), (0, 3)]) (rest := [(0, 7), (4, x19)]) (C' := 0) (D' := 0) (cn := 8) rfl k0_X8_numberBehind kV_X8_numberBehind kl_X8_309 ⟨by decide, by decide⟩ dX8_parseRules_96 rfl rfl (Nat.le_of_ble_eq_true rfl) (by decide) (by decide) rfl h (fun r hr => m_X8_numberBehind hl0 ⟨r, hr, hr⟩) (fun x20 τ21 _ h => ?_)
  refine r_iast dX8_parseRules_99 h (fun τ22 h => ?_)
  exact r_vret rfl dX8_parseRules_100 h

set_option maxRecDepth 100000 in
set_option maxHeartbeats 4000000 in
theorem t_X8_parseRules {g : zF} (hl0 : g.2.2.2.1.stackTraces = false) {Q : zR × zS → Prop}   {a0 : Int} {σ : zS} (h : zo (f_X8_parseRules  a0 σ) Q) : zw g Y_X8_parseRules R_X8_parseRules 0 [(0, (4, a0))] [] σ 0 0 Q := by
  unfold f_X8_parseRules at h
  refine r_aload_n 0 dX8_parseRules_0 rfl ?_
  refine r_ldcSW (j := 0) (text := "rules") (by decide +kernel) dX8_parseRules_1 ?_
  refine r_callV (K' := Y_X8_isWord) (R' := R_X8_isWord) (idx := 273) (n := 1) (b := a0) (as := [(6, (0 : Nat))]) (rest := []) (C' := 0) (D' := 0) (cn := 8) rfl k0_X8_isWord kV_X8_isWord kl_X8_273 ⟨by decide, by decide⟩ dX8_parseRules_4 rfl rfl (Nat.le_of_ble_eq_true rfl) (by decide) (by decide) rfl h (fun r hr => m_X8_isWord hl0 ⟨r, hr, hr⟩) (fun x1 τ2 _ h => ?_)
  refine r_if_ne 15 dX8_parseRules_7 (by decide) h (fun h => ?_) (fun h => ?_)
  · exact t_X8_parseRules_15 hl0   h
  · refine r_aload_n 0 dX8_parseRules_10 rfl ?_
    refine r_iconst (v := 1) dX8_parseRules_11 rfl rfl ?_
    refine r_callV (K' := Y_X8_errs) (R' := R_X8_errs) (idx := 267) (n := 1) (b := a0) (as := [(0, 1)]) (rest := []) (C' := 0) (D' := 0) (cn := 8) rfl k0_X8_errs kV_X8_errs kl_X8_267 ⟨by decide, by decide⟩ dX8_parseRules_12 rfl rfl (Nat.le_of_ble_eq_true rfl) (by decide) (by decide) rfl h (fun r hr => m_X8_errs hl0 ⟨r, hr, hr⟩) (fun _ τ4 _ h => ?_)
    exact t_X8_parseRules_15 hl0   h
theorem m_X8_parseRules {g : zF} (hl0 : g.2.2.2.1.stackTraces = false) {Q : zR × zS → Prop} {a0 : Int} {σ : zS} (h : zo (f_X8_parseRules a0 σ) Q) : zm g Y_X8_parseRules R_X8_parseRules [(4, a0)] σ Q := zm_of (by decide) rfl (Nat.le_of_ble_eq_true rfl) (t_X8_parseRules hl0 h)


/- X8_parseNew -/

set_option maxRecDepth 100000 in
set_option maxHeartbeats 4000000 in
theorem t_X8_parseNew_53 {g : zF} (hl0 : g.2.2.2.1.stackTraces = false) {Q : zR × zS → Prop}   {a0 a1 a2 a3 : Int} {σ : zS} (h : zo (f_X8_parseNew_53  a0 a1 a2 a3 σ) Q) : zw g Y_X8_parseNew R_X8_parseNew 53 [(0, (4, a0)), (1, (0, a1)), (2, (0, a2)), (3, (0, a3))] [] σ 0 0 Q := by
  unfold f_X8_parseNew_53 at h
  refine r_aload_n 0 dX8_parseNew_53 rfl ?_
  refine r_callV (K' := Y_X8_good) (R' := R_X8_good) (idx := 226) (n := 0) (b := a0) (as := []) (rest := []) (C' := 0) (D' := 0) (cn := 8) rfl k0_X8_good kV_X8_good kl_X8_226 ⟨by decide, by decide⟩ dX8_parseNew_54 rfl rfl (Nat.le_of_ble_eq_true rfl) (by decide) (by decide) rfl h (fun r hr => m_X8_good hl0 ⟨r, hr, hr⟩) (fun x1 τ2 _ h => ?_)
  refine r_if_ne 61 dX8_parseNew_57 (by decide) h (fun h => ?_) (fun h => ?_)
  · refine r_aload_n 0 dX8_parseNew_61 rfl ?_
    refine r_getr fd_X8_24 rfl dX8_parseNew_62 h (fun x3 h => ?_)
    refine r_iload_n 2 dX8_parseNew_65 rfl ?_
    refine r_aload_n 0 dX8_parseNew_66 rfl ?_
    refine r_getr fd_X8_24 rfl dX8_parseNew_67 h (fun x4 h => ?_)
    refine r_iload_n 1 dX8_parseNew_70 rfl ?_
    refine r_iald dX8_parseNew_71 h (fun x5 h => ?_)
    refine r_iadd dX8_parseNew_72 ?_
    refine r_iload_n 3 dX8_parseNew_73 rfl ?_
    refine r_iast dX8_parseNew_74 h (fun τ6 h => ?_)
    refine r_aload_n 0 dX8_parseNew_75 rfl ?_
    refine r_getr fd_X8_24 rfl dX8_parseNew_76 h (fun x7 h => ?_)
    refine r_iload_n 1 dX8_parseNew_79 rfl ?_
    refine r_dup2 dX8_parseNew_80 rfl rfl ?_
    refine r_iald dX8_parseNew_81 h (fun x8 h => ?_)
    refine r_iconst (v := 1) dX8_parseNew_82 rfl rfl ?_
    refine r_iadd dX8_parseNew_83 ?_
    refine r_iast dX8_parseNew_84 h (fun τ9 h => ?_)
    refine r_aload_n 0 dX8_parseNew_85 rfl ?_
    refine r_callV (K' := Y_X8_goOn) (R' := R_X8_goOn) (idx := 270) (n := 0) (b := a0) (as := []) (rest := []) (C' := 0) (D' := 0) (cn := 8) rfl k0_X8_goOn kV_X8_goOn kl_X8_270 ⟨by decide, by decide⟩ dX8_parseNew_86 rfl rfl (Nat.le_of_ble_eq_true rfl) (by decide) (by decide) rfl h (fun r hr => m_X8_goOn hl0 ⟨r, hr, hr⟩) (fun _ τ11 _ h => ?_)
    exact r_vret rfl dX8_parseNew_89 h
  · exact r_vret rfl dX8_parseNew_60 h

set_option maxRecDepth 100000 in
set_option maxHeartbeats 4000000 in
theorem t_X8_parseNew_16 {g : zF} (hl0 : g.2.2.2.1.stackTraces = false) {Q : zR × zS → Prop}   {a0 a1 a2 : Int} {σ : zS} (h : zo (f_X8_parseNew_16  a0 a1 a2 σ) Q) : zw g Y_X8_parseNew R_X8_parseNew 16 [(0, (4, a0)), (1, (0, a1)), (2, (0, a2))] [] σ 0 0 Q := by
  unfold f_X8_parseNew_16 at h
  refine r_aload_n 0 dX8_parseNew_16 rfl ?_
  refine r_callV (K' := Y_X8_goOn) (R' := R_X8_goOn) (idx := 270) (n := 0) (b := a0) (as := []) (rest := []) (C' := 0) (D' := 0) (cn := 8) rfl k0_X8_goOn kV_X8_goOn kl_X8_270 ⟨by decide, by decide⟩ dX8_parseNew_17 rfl rfl (Nat.le_of_ble_eq_true rfl) (by decide) (by decide) rfl h (fun r hr => m_X8_goOn hl0 ⟨r, hr, hr⟩) (fun _ τ2 _ h => ?_)
  refine r_aload_n 0 dX8_parseNew_20 rfl ?_
  refine r_callV (K' := Y_X8_nameHere) (R' := R_X8_nameHere) (idx := 313) (n := 0) (b := a0) (as := []) (rest := []) (C' := 0) (D' := 0) (cn := 8) rfl k0_X8_nameHere kV_X8_nameHere kl_X8_313 ⟨by decide, by decide⟩ dX8_parseNew_21 rfl rfl (Nat.le_of_ble_eq_true rfl) (by decide) (by decide) rfl h (fun r hr => m_X8_nameHere hl0 ⟨r, hr, hr⟩) (fun x3 τ4 _ h => ?_)
  refine r_istore_n (L' := [(3, (0, x3)), (0, (4, a0)), (1, (0, a1)), (2, (0, a2))]) dX8_parseNew_24 (by decide) rfl ?_
  refine r_aload_n 1 dX8_parseNew_25 rfl ?_
  refine r_callV (K' := Y_X8_good) (R' := R_X8_good) (idx := 226) (n := 0) (b := a0) (as := []) (rest := []) (C' := 0) (D' := 0) (cn := 8) rfl k0_X8_good kV_X8_good kl_X8_226 ⟨by decide, by decide⟩ dX8_parseNew_26 rfl rfl (Nat.le_of_ble_eq_true rfl) (by decide) (by decide) rfl h (fun r hr => m_X8_good hl0 ⟨r, hr, hr⟩) (fun x5 τ6 _ h => ?_)
  refine r_if_eq 53 dX8_parseNew_29 (by decide) h (fun h => ?_) (fun h => ?_)
  · refine r_weak (L' := [(0, (4, a0)), (1, (0, a1)), (2, (0, a2)), (3, (0, x3))]) [1, 2, 3, 0] rfl ?_
    exact t_X8_parseNew_53 hl0   h
  · refine r_aload_n 1 dX8_parseNew_32 rfl ?_
    refine r_iload_n 0 dX8_parseNew_33 rfl ?_
    refine r_iload_n 3 dX8_parseNew_34 rfl ?_
    refine r_aload_n 1 dX8_parseNew_35 rfl ?_
    refine r_getr fd_X8_24 rfl dX8_parseNew_36 h (fun x7 h => ?_)
    refine r_iload_n 2 dX8_parseNew_39 rfl ?_
    refine r_iald dX8_parseNew_40 h (fun x8 h => ?_)
    refine r_callV (K' := Y_X8_withName) (R' := R_X8_withName) (idx := 316) (n := 3) (b := a0) (as := [(0, x3), (0, a2), (0, x8)]) (rest := []) (C' := 0) (D' := 0) (cn := 8) rfl k0_X8_withName kV_X8_withName kl_X8_316 ⟨by decide, by decide⟩ dX8_parseNew_41 rfl rfl (Nat.le_of_ble_eq_true rfl) (by decide) (by decide) rfl h (fun r hr => m_X8_withName hl0 ⟨r, hr, hr⟩) (fun x9 τ10 _ h => ?_)
    refine r_iconst (v := (-1)) dX8_parseNew_44 rfl rfl ?_
    refine r_icmp_eq 53 dX8_parseNew_45 (by decide) h (fun h => ?_) (fun h => ?_)
    · refine r_weak (L' := [(0, (4, a0)), (1, (0, a1)), (2, (0, a2)), (3, (0, x3))]) [1, 2, 3, 0] rfl ?_
      exact t_X8_parseNew_53 hl0   h
    · refine r_aload_n 1 dX8_parseNew_48 rfl ?_
      refine r_iconst (v := 3) dX8_parseNew_49 rfl rfl ?_
      refine r_callV (K' := Y_X8_errs) (R' := R_X8_errs) (idx := 267) (n := 1) (b := a0) (as := [(0, 3)]) (rest := []) (C' := 0) (D' := 0) (cn := 8) rfl k0_X8_errs kV_X8_errs kl_X8_267 ⟨by decide, by decide⟩ dX8_parseNew_50 rfl rfl (Nat.le_of_ble_eq_true rfl) (by decide) (by decide) rfl h (fun r hr => m_X8_errs hl0 ⟨r, hr, hr⟩) (fun _ τ12 _ h => ?_)
      refine r_weak (L' := [(0, (4, a0)), (1, (0, a1)), (2, (0, a2)), (3, (0, x3))]) [1, 2, 3, 0] rfl ?_
      exact t_X8_parseNew_53 hl0   h

set_option maxRecDepth 100000 in
set_option maxHeartbeats 4000000 in
theorem t_X8_parseNew {g : zF} (hl0 : g.2.2.2.1.stackTraces = false) {Q : zR × zS → Prop}   {a0 a1 a2 : Int} {σ : zS} (h : zo (f_X8_parseNew  a0 a1 a2 σ) Q) : zw g Y_X8_parseNew R_X8_parseNew 0 [(0, (4, a0)), (1, (0, a1)), (2, (0, a2))] [] σ 0 0 Q := by
  unfold f_X8_parseNew at h
  refine r_aload_n 0 dX8_parseNew_0 rfl ?_
  refine r_getr fd_X8_24 rfl dX8_parseNew_1 h (fun x1 h => ?_)
  refine r_iload_n 1 dX8_parseNew_4 rfl ?_
  refine r_iald dX8_parseNew_5 h (fun x2 h => ?_)
  refine r_bipush (v := 6) dX8_parseNew_6 rfl rfl ?_
  refine r_icmp_ne 16 dX8_parseNew_8 (by decide) h (fun h => ?_) (fun h => ?_)
  · exact t_X8_parseNew_16 hl0   h
  · refine r_aload_n 0 dX8_parseNew_11 rfl ?_
    refine r_iconst (v := 4) dX8_parseNew_12 rfl rfl ?_
    refine r_callV (K' := Y_X8_errs) (R' := R_X8_errs) (idx := 267) (n := 1) (b := a0) (as := [(0, 4)]) (rest := []) (C' := 0) (D' := 0) (cn := 8) rfl k0_X8_errs kV_X8_errs kl_X8_267 ⟨by decide, by decide⟩ dX8_parseNew_13 rfl rfl (Nat.le_of_ble_eq_true rfl) (by decide) (by decide) rfl h (fun r hr => m_X8_errs hl0 ⟨r, hr, hr⟩) (fun _ τ4 _ h => ?_)
    exact t_X8_parseNew_16 hl0   h
theorem m_X8_parseNew {g : zF} (hl0 : g.2.2.2.1.stackTraces = false) {Q : zR × zS → Prop} {a0 a1 a2 : Int} {σ : zS} (h : zo (f_X8_parseNew a0 a1 a2 σ) Q) : zm g Y_X8_parseNew R_X8_parseNew [(4, a0), (0, a1), (0, a2)] σ Q := zm_of (by decide) rfl (Nat.le_of_ble_eq_true rfl) (t_X8_parseNew hl0 h)


/- X8_told -/

set_option maxRecDepth 100000 in
set_option maxHeartbeats 4000000 in
theorem t_X8_told_41 {g : zF} (hl0 : g.2.2.2.1.stackTraces = false) {Q : zR × zS → Prop}   {a0 a4 : Int} {σ : zS} (h : zo (f_X8_told_41  a0 a4 σ) Q) : zw g Y_X8_told R_X8_told 41 [(0, (4, a0)), (4, (0, a4))] [] σ 0 0 Q := by
  unfold f_X8_told_41 at h
  refine r_aload_n 0 dX8_told_41 rfl ?_
  refine r_callV (K' := Y_X8_good) (R' := R_X8_good) (idx := 226) (n := 0) (b := a0) (as := []) (rest := []) (C' := 0) (D' := 0) (cn := 8) rfl k0_X8_good kV_X8_good kl_X8_226 ⟨by decide, by decide⟩ dX8_told_42 rfl rfl (Nat.le_of_ble_eq_true rfl) (by decide) (by decide) rfl h (fun r hr => m_X8_good hl0 ⟨r, hr, hr⟩) (fun x1 τ2 _ h => ?_)
  refine r_if_eq 53 dX8_told_45 (by decide) h (fun h => ?_) (fun h => ?_)
  · refine r_iconst (v := 0) dX8_told_53 rfl rfl ?_
    exact r_iret rfl dX8_told_54 h
  · refine r_iload 1 dX8_told_48 rfl ?_
    refine r_goto 54 dX8_told_50 (by decide) ?_
    exact r_iret rfl dX8_told_54 h

set_option maxRecDepth 100000 in
set_option maxHeartbeats 4000000 in
theorem t_X8_told_28 {g : zF} (hl0 : g.2.2.2.1.stackTraces = false) {Q : zR × zS → Prop}   {a0 s0 : Int} {σ : zS} (h : zo (f_X8_told_28  a0 s0 σ) Q) : zw g Y_X8_told R_X8_told 28 [(0, (4, a0))] [(0, s0)] σ 0 0 Q := by
  unfold f_X8_told_28 at h
  refine r_istore (L' := [(4, (0, s0)), (0, (4, a0))]) dX8_told_28 (by decide) rfl ?_
  refine r_iload 0 dX8_told_30 rfl ?_
  refine r_iconst (v := (-1)) dX8_told_32 rfl rfl ?_
  refine r_icmp_ne 41 dX8_told_33 (by decide) h (fun h => ?_) (fun h => ?_)
  · refine r_weak (L' := [(0, (4, a0)), (4, (0, s0))]) [1, 0] rfl ?_
    exact t_X8_told_41 hl0   h
  · refine r_aload_n 1 dX8_told_36 rfl ?_
    refine r_iconst (v := 3) dX8_told_37 rfl rfl ?_
    refine r_callV (K' := Y_X8_errs) (R' := R_X8_errs) (idx := 267) (n := 1) (b := a0) (as := [(0, 3)]) (rest := []) (C' := 0) (D' := 0) (cn := 8) rfl k0_X8_errs kV_X8_errs kl_X8_267 ⟨by decide, by decide⟩ dX8_told_38 rfl rfl (Nat.le_of_ble_eq_true rfl) (by decide) (by decide) rfl h (fun r hr => m_X8_errs hl0 ⟨r, hr, hr⟩) (fun _ τ2 _ h => ?_)
    refine r_weak (L' := [(0, (4, a0)), (4, (0, s0))]) [1, 0] rfl ?_
    exact t_X8_told_41 hl0   h

set_option maxRecDepth 100000 in
set_option maxHeartbeats 4000000 in
theorem t_X8_told {g : zF} (hl0 : g.2.2.2.1.stackTraces = false) {Q : zR × zS → Prop}   {a0 a1 a2 : Int} {σ : zS} (h : zo (f_X8_told  a0 a1 a2 σ) Q) : zw g Y_X8_told R_X8_told 0 [(0, (4, a0)), (1, (0, a1)), (2, (0, a2))] [] σ 0 0 Q := by
  unfold f_X8_told at h
  refine r_aload_n 0 dX8_told_0 rfl ?_
  refine r_callV (K' := Y_X8_nameHere) (R' := R_X8_nameHere) (idx := 313) (n := 0) (b := a0) (as := []) (rest := []) (C' := 0) (D' := 0) (cn := 8) rfl k0_X8_nameHere kV_X8_nameHere kl_X8_313 ⟨by decide, by decide⟩ dX8_told_1 rfl rfl (Nat.le_of_ble_eq_true rfl) (by decide) (by decide) rfl h (fun r hr => m_X8_nameHere hl0 ⟨r, hr, hr⟩) (fun x1 τ2 _ h => ?_)
  refine r_istore_n (L' := [(3, (0, x1)), (0, (4, a0)), (1, (0, a1)), (2, (0, a2))]) dX8_told_4 (by decide) rfl ?_
  refine r_aload_n 1 dX8_told_5 rfl ?_
  refine r_callV (K' := Y_X8_good) (R' := R_X8_good) (idx := 226) (n := 0) (b := a0) (as := []) (rest := []) (C' := 0) (D' := 0) (cn := 8) rfl k0_X8_good kV_X8_good kl_X8_226 ⟨by decide, by decide⟩ dX8_told_6 rfl rfl (Nat.le_of_ble_eq_true rfl) (by decide) (by decide) rfl h (fun r hr => m_X8_good hl0 ⟨r, hr, hr⟩) (fun x3 τ4 _ h => ?_)
  refine r_if_eq 27 dX8_told_9 (by decide) h (fun h => ?_) (fun h => ?_)
  · refine r_iconst (v := (-1)) dX8_told_27 rfl rfl ?_
    refine r_weak (L' := [(0, (4, a0))]) [1] rfl ?_
    exact t_X8_told_28 hl0   h
  · refine r_aload_n 1 dX8_told_12 rfl ?_
    refine r_iload_n 0 dX8_told_13 rfl ?_
    refine r_iload_n 3 dX8_told_14 rfl ?_
    refine r_aload_n 1 dX8_told_15 rfl ?_
    refine r_getr fd_X8_24 rfl dX8_told_16 h (fun x5 h => ?_)
    refine r_iload_n 2 dX8_told_19 rfl ?_
    refine r_iald dX8_told_20 h (fun x6 h => ?_)
    refine r_callV (K' := Y_X8_withName) (R' := R_X8_withName) (idx := 316) (n := 3) (b := a0) (as := [(0, x1), (0, a2), (0, x6)]) (rest := []) (C' := 0) (D' := 0) (cn := 8) rfl k0_X8_withName kV_X8_withName kl_X8_316 ⟨by decide, by decide⟩ dX8_told_21 rfl rfl (Nat.le_of_ble_eq_true rfl) (by decide) (by decide) rfl h (fun r hr => m_X8_withName hl0 ⟨r, hr, hr⟩) (fun x7 τ8 _ h => ?_)
    refine r_goto 28 dX8_told_24 (by decide) ?_
    refine r_weak (L' := [(0, (4, a0))]) [1] rfl ?_
    exact t_X8_told_28 hl0   h
theorem m_X8_told {g : zF} (hl0 : g.2.2.2.1.stackTraces = false) {Q : zR × zS → Prop} {a0 a1 a2 : Int} {σ : zS} (h : zo (f_X8_told a0 a1 a2 σ) Q) : zm g Y_X8_told R_X8_told [(4, a0), (0, a1), (0, a2)] σ Q := zm_of (by decide) rfl (Nat.le_of_ble_eq_true rfl) (t_X8_told hl0 h)


/- X8_parseLink -/

set_option maxRecDepth 100000 in
set_option maxHeartbeats 4000000 in
theorem t_X8_parseLink_78 {g : zF} (hl0 : g.2.2.2.1.stackTraces = false) {Q : zR × zS → Prop}   {a0 a1 a2 s0 : Int} {σ : zS} (h : zo (f_X8_parseLink_78  a0 a1 a2 s0 σ) Q) : zw g Y_X8_parseLink R_X8_parseLink 78 [(0, (4, a0)), (1, (0, a1)), (2, (0, a2))] [(0, s0)] σ 0 0 Q := by
  unfold f_X8_parseLink_78 at h
  refine r_istore_n (L' := [(3, (0, s0)), (0, (4, a0)), (1, (0, a1)), (2, (0, a2))]) dX8_parseLink_78 (by decide) rfl ?_
  refine r_aload_n 1 dX8_parseLink_79 rfl ?_
  refine r_callV (K' := Y_X8_good) (R' := R_X8_good) (idx := 226) (n := 0) (b := a0) (as := []) (rest := []) (C' := 0) (D' := 0) (cn := 8) rfl k0_X8_good kV_X8_good kl_X8_226 ⟨by decide, by decide⟩ dX8_parseLink_80 rfl rfl (Nat.le_of_ble_eq_true rfl) (by decide) (by decide) rfl h (fun r hr => m_X8_good hl0 ⟨r, hr, hr⟩) (fun x1 τ2 _ h => ?_)
  refine r_if_ne 87 dX8_parseLink_83 (by decide) h (fun h => ?_) (fun h => ?_)
  · refine r_aload_n 1 dX8_parseLink_87 rfl ?_
    refine r_iload_n 2 dX8_parseLink_88 rfl ?_
    refine r_iload_n 3 dX8_parseLink_89 rfl ?_
    refine r_iload_n 0 dX8_parseLink_90 rfl ?_
    refine r_callV (K' := Y_X8_putTrust) (R' := R_X8_putTrust) (idx := 139) (n := 3) (b := a0) (as := [(0, a1), (0, a2), (0, s0)]) (rest := []) (C' := 0) (D' := 0) (cn := 8) rfl k0_X8_putTrust kV_X8_putTrust kl_X8_139 ⟨by decide, by decide⟩ dX8_parseLink_91 rfl rfl (Nat.le_of_ble_eq_true rfl) (by decide) (by decide) rfl h (fun r hr => m_X8_putTrust hl0 ⟨r, hr, hr⟩) (fun _ τ4 _ h => ?_)
    refine r_aload_n 1 dX8_parseLink_94 rfl ?_
    refine r_iload_n 3 dX8_parseLink_95 rfl ?_
    refine r_iload_n 2 dX8_parseLink_96 rfl ?_
    refine r_iload_n 0 dX8_parseLink_97 rfl ?_
    refine r_callV (K' := Y_X8_putTrust) (R' := R_X8_putTrust) (idx := 139) (n := 3) (b := a0) (as := [(0, a2), (0, a1), (0, s0)]) (rest := []) (C' := 0) (D' := 0) (cn := 8) rfl k0_X8_putTrust kV_X8_putTrust kl_X8_139 ⟨by decide, by decide⟩ dX8_parseLink_98 rfl rfl (Nat.le_of_ble_eq_true rfl) (by decide) (by decide) rfl h (fun r hr => m_X8_putTrust hl0 ⟨r, hr, hr⟩) (fun _ τ6 _ h => ?_)
    exact r_vret rfl dX8_parseLink_101 h
  · exact r_vret rfl dX8_parseLink_86 h

set_option maxRecDepth 100000 in
set_option maxHeartbeats 4000000 in
theorem t_X8_parseLink_50 {g : zF} (hl0 : g.2.2.2.1.stackTraces = false) {Q : zR × zS → Prop}   {a0 a1 a2 : Int} {σ : zS} (h : zo (f_X8_parseLink_50  a0 a1 a2 σ) Q) : zw g Y_X8_parseLink R_X8_parseLink 50 [(0, (4, a0)), (1, (0, a1)), (2, (0, a2))] [] σ 0 0 Q := by
  unfold f_X8_parseLink_50 at h
  refine r_aload_n 0 dX8_parseLink_50 rfl ?_
  refine r_callV (K' := Y_X8_goOn) (R' := R_X8_goOn) (idx := 270) (n := 0) (b := a0) (as := []) (rest := []) (C' := 0) (D' := 0) (cn := 8) rfl k0_X8_goOn kV_X8_goOn kl_X8_270 ⟨by decide, by decide⟩ dX8_parseLink_51 rfl rfl (Nat.le_of_ble_eq_true rfl) (by decide) (by decide) rfl h (fun r hr => m_X8_goOn hl0 ⟨r, hr, hr⟩) (fun _ τ2 _ h => ?_)
  refine r_aload_n 0 dX8_parseLink_54 rfl ?_
  refine r_ldcSW (j := 9) (text := "trust") (by decide +kernel) dX8_parseLink_55 ?_
  refine r_callV (K' := Y_X8_isWord) (R' := R_X8_isWord) (idx := 273) (n := 1) (b := a0) (as := [(6, (9 : Nat))]) (rest := []) (C' := 0) (D' := 0) (cn := 8) rfl k0_X8_isWord kV_X8_isWord kl_X8_273 ⟨by decide, by decide⟩ dX8_parseLink_58 rfl rfl (Nat.le_of_ble_eq_true rfl) (by decide) (by decide) rfl h (fun r hr => m_X8_isWord hl0 ⟨r, hr, hr⟩) (fun x3 τ4 _ h => ?_)
  refine r_if_eq 77 dX8_parseLink_61 (by decide) h (fun h => ?_) (fun h => ?_)
  · refine r_iconst (v := 5) dX8_parseLink_77 rfl rfl ?_
    exact t_X8_parseLink_78 hl0   h
  · refine r_aload_n 0 dX8_parseLink_64 rfl ?_
    refine r_ldcSW (j := 9) (text := "trust") (by decide +kernel) dX8_parseLink_65 ?_
    refine r_iconst (v := 0) dX8_parseLink_68 rfl rfl ?_
    refine r_bipush (v := 10) dX8_parseLink_69 rfl rfl ?_
    refine r_callV (K' := Y_X8_numberBehind) (R' := R_X8_numberBehind) (idx := 309) (n := 3) (b := a0) (as := [(6, (9 : Nat)), (0, 0), (0, 10)]) (rest := []) (C' := 0) (D' := 0) (cn := 8) rfl k0_X8_numberBehind kV_X8_numberBehind kl_X8_309 ⟨by decide, by decide⟩ dX8_parseLink_71 rfl rfl (Nat.le_of_ble_eq_true rfl) (by decide) (by decide) rfl h (fun r hr => m_X8_numberBehind hl0 ⟨r, hr, hr⟩) (fun x5 τ6 _ h => ?_)
    refine r_goto 78 dX8_parseLink_74 (by decide) ?_
    exact t_X8_parseLink_78 hl0   h

set_option maxRecDepth 100000 in
set_option maxHeartbeats 4000000 in
theorem t_X8_parseLink_45 {g : zF} (hl0 : g.2.2.2.1.stackTraces = false) {Q : zR × zS → Prop}   {a0 a1 a2 : Int} {σ : zS} (h : zo (f_X8_parseLink_45  a0 a1 a2 σ) Q) : zw g Y_X8_parseLink R_X8_parseLink 45 [(0, (4, a0)), (1, (0, a1)), (2, (0, a2))] [] σ 0 0 Q := by
  unfold f_X8_parseLink_45 at h
  refine r_aload_n 0 dX8_parseLink_45 rfl ?_
  refine r_iconst (v := 3) dX8_parseLink_46 rfl rfl ?_
  refine r_callV (K' := Y_X8_errs) (R' := R_X8_errs) (idx := 267) (n := 1) (b := a0) (as := [(0, 3)]) (rest := []) (C' := 0) (D' := 0) (cn := 8) rfl k0_X8_errs kV_X8_errs kl_X8_267 ⟨by decide, by decide⟩ dX8_parseLink_47 rfl rfl (Nat.le_of_ble_eq_true rfl) (by decide) (by decide) rfl h (fun r hr => m_X8_errs hl0 ⟨r, hr, hr⟩) (fun _ τ2 _ h => ?_)
  exact t_X8_parseLink_50 hl0   h

set_option maxRecDepth 100000 in
set_option maxHeartbeats 4000000 in
theorem t_X8_parseLink {g : zF} (hl0 : g.2.2.2.1.stackTraces = false) {Q : zR × zS → Prop}   {a0 : Int} {σ : zS} (h : zo (f_X8_parseLink  a0 σ) Q) : zw g Y_X8_parseLink R_X8_parseLink 0 [(0, (4, a0))] [] σ 0 0 Q := by
  unfold f_X8_parseLink at h
  refine r_aload_n 0 dX8_parseLink_0 rfl ?_
  refine r_callV (K' := Y_X8_goOn) (R' := R_X8_goOn) (idx := 270) (n := 0) (b := a0) (as := []) (rest := []) (C' := 0) (D' := 0) (cn := 8) rfl k0_X8_goOn kV_X8_goOn kl_X8_270 ⟨by decide, by decide⟩ dX8_parseLink_1 rfl rfl (Nat.le_of_ble_eq_true rfl) (by decide) (by decide) rfl h (fun r hr => m_X8_goOn hl0 ⟨r, hr, hr⟩) (fun _ τ2 _ h => ?_)
  refine r_aload_n 0 dX8_parseLink_4 rfl ?_
  refine r_iconst (v := 0) dX8_parseLink_5 rfl rfl ?_
  refine r_bipush (v := 9) dX8_parseLink_6 rfl rfl ?_
  refine r_callV (K' := Y_X8_told) (R' := R_X8_told) (idx := 319) (n := 2) (b := a0) (as := [(0, 0), (0, 9)]) (rest := []) (C' := 0) (D' := 0) (cn := 8) rfl k0_X8_told kV_X8_told kl_X8_319 ⟨by decide, by decide⟩ dX8_parseLink_8 rfl rfl (Nat.le_of_ble_eq_true rfl) (by decide) (by decide) rfl h (fun r hr => m_X8_told hl0 ⟨r, hr, hr⟩) (fun x3 τ4 _ h => ?_)
  refine r_istore_n (L' := [(1, (0, x3)), (0, (4, a0))]) dX8_parseLink_11 (by decide) rfl ?_
  refine r_aload_n 1 dX8_parseLink_12 rfl ?_
  refine r_callV (K' := Y_X8_goOn) (R' := R_X8_goOn) (idx := 270) (n := 0) (b := a0) (as := []) (rest := []) (C' := 0) (D' := 0) (cn := 8) rfl k0_X8_goOn kV_X8_goOn kl_X8_270 ⟨by decide, by decide⟩ dX8_parseLink_13 rfl rfl (Nat.le_of_ble_eq_true rfl) (by decide) (by decide) rfl h (fun r hr => m_X8_goOn hl0 ⟨r, hr, hr⟩) (fun _ τ6 _ h => ?_)
  refine r_aload_n 1 dX8_parseLink_16 rfl ?_
  refine r_iconst (v := 0) dX8_parseLink_17 rfl rfl ?_
  refine r_bipush (v := 9) dX8_parseLink_18 rfl rfl ?_
  refine r_callV (K' := Y_X8_told) (R' := R_X8_told) (idx := 319) (n := 2) (b := a0) (as := [(0, 0), (0, 9)]) (rest := []) (C' := 0) (D' := 0) (cn := 8) rfl k0_X8_told kV_X8_told kl_X8_319 ⟨by decide, by decide⟩ dX8_parseLink_20 rfl rfl (Nat.le_of_ble_eq_true rfl) (by decide) (by decide) rfl h (fun r hr => m_X8_told hl0 ⟨r, hr, hr⟩) (fun x7 τ8 _ h => ?_)
  refine r_istore_n (L' := [(2, (0, x7)), (1, (0, x3)), (0, (4, a0))]) dX8_parseLink_23 (by decide) rfl ?_
  refine r_aload_n 2 dX8_parseLink_24 rfl ?_
  refine r_callV (K' := Y_X8_good) (R' := R_X8_good) (idx := 226) (n := 0) (b := a0) (as := []) (rest := []) (C' := 0) (D' := 0) (cn := 8) rfl k0_X8_good kV_X8_good kl_X8_226 ⟨by decide, by decide⟩ dX8_parseLink_25 rfl rfl (Nat.le_of_ble_eq_true rfl) (by decide) (by decide) rfl h (fun r hr => m_X8_good hl0 ⟨r, hr, hr⟩) (fun x9 τ10 _ h => ?_)
  refine r_if_eq 50 dX8_parseLink_28 (by decide) h (fun h => ?_) (fun h => ?_)
  · refine r_weak (L' := [(0, (4, a0)), (1, (0, x3)), (2, (0, x7))]) [2, 1, 0] rfl ?_
    exact t_X8_parseLink_50 hl0   h
  · refine r_iload_n 1 dX8_parseLink_31 rfl ?_
    refine r_iload_n 0 dX8_parseLink_32 rfl ?_
    refine r_icmp_eq 45 dX8_parseLink_33 (by decide) h (fun h => ?_) (fun h => ?_)
    · refine r_weak (L' := [(0, (4, a0)), (1, (0, x3)), (2, (0, x7))]) [2, 1, 0] rfl ?_
      exact t_X8_parseLink_45 hl0   h
    · refine r_aload_n 2 dX8_parseLink_36 rfl ?_
      refine r_iload_n 1 dX8_parseLink_37 rfl ?_
      refine r_iload_n 0 dX8_parseLink_38 rfl ?_
      refine r_callV (K' := Y_X8_areLinked) (R' := R_X8_areLinked) (idx := 131) (n := 2) (b := a0) (as := [(0, x3), (0, x7)]) (rest := []) (C' := 0) (D' := 0) (cn := 8) rfl k0_X8_areLinked kV_X8_areLinked kl_X8_131 ⟨by decide, by decide⟩ dX8_parseLink_39 rfl rfl (Nat.le_of_ble_eq_true rfl) (by decide) (by decide) rfl h (fun r hr => m_X8_areLinked hl0 ⟨r, hr, hr⟩) (fun x11 τ12 _ h => ?_)
      refine r_if_eq 50 dX8_parseLink_42 (by decide) h (fun h => ?_) (fun h => ?_)
      · refine r_weak (L' := [(0, (4, a0)), (1, (0, x3)), (2, (0, x7))]) [2, 1, 0] rfl ?_
        exact t_X8_parseLink_50 hl0   h
      · refine r_weak (L' := [(0, (4, a0)), (1, (0, x3)), (2, (0, x7))]) [2, 1, 0] rfl ?_
        exact t_X8_parseLink_45 hl0   h
theorem m_X8_parseLink {g : zF} (hl0 : g.2.2.2.1.stackTraces = false) {Q : zR × zS → Prop} {a0 : Int} {σ : zS} (h : zo (f_X8_parseLink a0 σ) Q) : zm g Y_X8_parseLink R_X8_parseLink [(4, a0)] σ Q := zm_of (by decide) rfl (Nat.le_of_ble_eq_true rfl) (t_X8_parseLink hl0 h)


/- X8_parseProbe -/

set_option maxRecDepth 100000 in
set_option maxHeartbeats 4000000 in
theorem t_X8_parseProbe {g : zF} (hl0 : g.2.2.2.1.stackTraces = false) {Q : zR × zS → Prop}   {a0 : Int} {σ : zS} (h : zo (f_X8_parseProbe  a0 σ) Q) : zw g Y_X8_parseProbe R_X8_parseProbe 0 [(0, (4, a0))] [] σ 0 0 Q := by
  unfold f_X8_parseProbe at h
  refine r_aload_n 0 dX8_parseProbe_0 rfl ?_
  refine r_callV (K' := Y_X8_goOn) (R' := R_X8_goOn) (idx := 270) (n := 0) (b := a0) (as := []) (rest := []) (C' := 0) (D' := 0) (cn := 8) rfl k0_X8_goOn kV_X8_goOn kl_X8_270 ⟨by decide, by decide⟩ dX8_parseProbe_1 rfl rfl (Nat.le_of_ble_eq_true rfl) (by decide) (by decide) rfl h (fun r hr => m_X8_goOn hl0 ⟨r, hr, hr⟩) (fun _ τ2 _ h => ?_)
  refine r_aload_n 0 dX8_parseProbe_4 rfl ?_
  refine r_iconst (v := 0) dX8_parseProbe_5 rfl rfl ?_
  refine r_bipush (v := 9) dX8_parseProbe_6 rfl rfl ?_
  refine r_callV (K' := Y_X8_told) (R' := R_X8_told) (idx := 319) (n := 2) (b := a0) (as := [(0, 0), (0, 9)]) (rest := []) (C' := 0) (D' := 0) (cn := 8) rfl k0_X8_told kV_X8_told kl_X8_319 ⟨by decide, by decide⟩ dX8_parseProbe_8 rfl rfl (Nat.le_of_ble_eq_true rfl) (by decide) (by decide) rfl h (fun r hr => m_X8_told hl0 ⟨r, hr, hr⟩) (fun x3 τ4 _ h => ?_)
  refine r_istore_n (L' := [(1, (0, x3)), (0, (4, a0))]) dX8_parseProbe_11 (by decide) rfl ?_
  refine r_aload_n 1 dX8_parseProbe_12 rfl ?_
  refine r_callV (K' := Y_X8_goOn) (R' := R_X8_goOn) (idx := 270) (n := 0) (b := a0) (as := []) (rest := []) (C' := 0) (D' := 0) (cn := 8) rfl k0_X8_goOn kV_X8_goOn kl_X8_270 ⟨by decide, by decide⟩ dX8_parseProbe_13 rfl rfl (Nat.le_of_ble_eq_true rfl) (by decide) (by decide) rfl h (fun r hr => m_X8_goOn hl0 ⟨r, hr, hr⟩) (fun _ τ6 _ h => ?_)
  refine r_aload_n 1 dX8_parseProbe_16 rfl ?_
  refine r_iconst (v := 1) dX8_parseProbe_17 rfl rfl ?_
  refine r_bipush (v := 15) dX8_parseProbe_18 rfl rfl ?_
  refine r_callV (K' := Y_X8_told) (R' := R_X8_told) (idx := 319) (n := 2) (b := a0) (as := [(0, 1), (0, 15)]) (rest := []) (C' := 0) (D' := 0) (cn := 8) rfl k0_X8_told kV_X8_told kl_X8_319 ⟨by decide, by decide⟩ dX8_parseProbe_20 rfl rfl (Nat.le_of_ble_eq_true rfl) (by decide) (by decide) rfl h (fun r hr => m_X8_told hl0 ⟨r, hr, hr⟩) (fun x7 τ8 _ h => ?_)
  refine r_istore_n (L' := [(2, (0, x7)), (1, (0, x3)), (0, (4, a0))]) dX8_parseProbe_23 (by decide) rfl ?_
  refine r_aload_n 2 dX8_parseProbe_24 rfl ?_
  refine r_callV (K' := Y_X8_goOn) (R' := R_X8_goOn) (idx := 270) (n := 0) (b := a0) (as := []) (rest := []) (C' := 0) (D' := 0) (cn := 8) rfl k0_X8_goOn kV_X8_goOn kl_X8_270 ⟨by decide, by decide⟩ dX8_parseProbe_25 rfl rfl (Nat.le_of_ble_eq_true rfl) (by decide) (by decide) rfl h (fun r hr => m_X8_goOn hl0 ⟨r, hr, hr⟩) (fun _ τ10 _ h => ?_)
  refine r_aload_n 2 dX8_parseProbe_28 rfl ?_
  refine r_iconst (v := 0) dX8_parseProbe_29 rfl rfl ?_
  refine r_sipush (v := 999) dX8_parseProbe_30 rfl rfl ?_
  refine r_callV (K' := Y_X8_number) (R' := R_X8_number) (idx := 277) (n := 2) (b := a0) (as := [(0, 0), (0, 999)]) (rest := []) (C' := 0) (D' := 0) (cn := 8) rfl k0_X8_number kV_X8_number kl_X8_277 ⟨by decide, by decide⟩ dX8_parseProbe_33 rfl rfl (Nat.le_of_ble_eq_true rfl) (by decide) (by decide) rfl h (fun r hr => m_X8_number hl0 ⟨r, hr, hr⟩) (fun x11 τ12 _ h => ?_)
  refine r_istore_n (L' := [(3, (0, x11)), (2, (0, x7)), (1, (0, x3)), (0, (4, a0))]) dX8_parseProbe_36 (by decide) rfl ?_
  refine r_aload_n 3 dX8_parseProbe_37 rfl ?_
  refine r_iload_n 0 dX8_parseProbe_38 rfl ?_
  refine r_sipush (v := 999) dX8_parseProbe_39 rfl rfl ?_
  refine r_callV (K' := Y_X8_number) (R' := R_X8_number) (idx := 277) (n := 2) (b := a0) (as := [(0, x11), (0, 999)]) (rest := []) (C' := 0) (D' := 0) (cn := 8) rfl k0_X8_number kV_X8_number kl_X8_277 ⟨by decide, by decide⟩ dX8_parseProbe_42 rfl rfl (Nat.le_of_ble_eq_true rfl) (by decide) (by decide) rfl h (fun r hr => m_X8_number hl0 ⟨r, hr, hr⟩) (fun x13 τ14 _ h => ?_)
  refine r_istore (L' := [(4, (0, x13)), (3, (0, x11)), (2, (0, x7)), (1, (0, x3)), (0, (4, a0))]) dX8_parseProbe_45 (by decide) rfl ?_
  refine r_aload_n 4 dX8_parseProbe_47 rfl ?_
  refine r_callV (K' := Y_X8_good) (R' := R_X8_good) (idx := 226) (n := 0) (b := a0) (as := []) (rest := []) (C' := 0) (D' := 0) (cn := 8) rfl k0_X8_good kV_X8_good kl_X8_226 ⟨by decide, by decide⟩ dX8_parseProbe_48 rfl rfl (Nat.le_of_ble_eq_true rfl) (by decide) (by decide) rfl h (fun r hr => m_X8_good hl0 ⟨r, hr, hr⟩) (fun x15 τ16 _ h => ?_)
  refine r_if_eq 65 dX8_parseProbe_51 (by decide) h (fun h => ?_) (fun h => ?_)
  · exact r_vret rfl dX8_parseProbe_65 h
  · refine r_aload_n 4 dX8_parseProbe_54 rfl ?_
    refine r_iload_n 3 dX8_parseProbe_55 rfl ?_
    refine r_iload_n 2 dX8_parseProbe_56 rfl ?_
    refine r_iload_n 1 dX8_parseProbe_57 rfl ?_
    refine r_iload 0 dX8_parseProbe_58 rfl ?_
    refine r_callV (K' := Y_X8_doProbe) (R' := R_X8_doProbe) (idx := 322) (n := 4) (b := a0) (as := [(0, x3), (0, x7), (0, x11), (0, x13)]) (rest := []) (C' := 0) (D' := 0) (cn := 8) rfl k0_X8_doProbe kV_X8_doProbe kl_X8_322 ⟨by decide, by decide⟩ dX8_parseProbe_60 rfl rfl (Nat.le_of_ble_eq_true rfl) (by decide) (by decide) rfl h (fun r hr => m_X8_doProbe hl0 ⟨r, hr, hr⟩) (fun x17 τ18 _ h => ?_)
    refine r_istore (L' := [(5, (0, x17)), (4, (0, x13)), (3, (0, x11)), (2, (0, x7)), (1, (0, x3)), (0, (4, a0))]) dX8_parseProbe_63 (by decide) rfl ?_
    exact r_vret rfl dX8_parseProbe_65 h
theorem m_X8_parseProbe {g : zF} (hl0 : g.2.2.2.1.stackTraces = false) {Q : zR × zS → Prop} {a0 : Int} {σ : zS} (h : zo (f_X8_parseProbe a0 σ) Q) : zm g Y_X8_parseProbe R_X8_parseProbe [(4, a0)] σ Q := zm_of (by decide) rfl (Nat.le_of_ble_eq_true rfl) (t_X8_parseProbe hl0 h)


/- X8_parseStatement -/

set_option maxRecDepth 100000 in
set_option maxHeartbeats 4000000 in
theorem t_X8_parseStatement_79 {g : zF} (hl0 : g.2.2.2.1.stackTraces = false) {Q : zR × zS → Prop}   {a0 : Int} {σ : zS} (h : zo (f_X8_parseStatement_79  a0 σ) Q) : zw g Y_X8_parseStatement R_X8_parseStatement 79 [(0, (4, a0))] [] σ 0 0 Q := by
  unfold f_X8_parseStatement_79 at h
  refine r_aload_n 0 dX8_parseStatement_79 rfl ?_
  refine r_callV (K' := Y_X8_semicolon) (R' := R_X8_semicolon) (idx := 335) (n := 0) (b := a0) (as := []) (rest := []) (C' := 0) (D' := 0) (cn := 8) rfl k0_X8_semicolon kV_X8_semicolon kl_X8_335 ⟨by decide, by decide⟩ dX8_parseStatement_80 rfl rfl (Nat.le_of_ble_eq_true rfl) (by decide) (by decide) rfl h (fun r hr => m_X8_semicolon hl0 ⟨r, hr, hr⟩) (fun _ τ2 _ h => ?_)
  exact r_vret rfl dX8_parseStatement_83 h

set_option maxRecDepth 100000 in
set_option maxHeartbeats 4000000 in
theorem t_X8_parseStatement {g : zF} (hl0 : g.2.2.2.1.stackTraces = false) {Q : zR × zS → Prop}   {a0 : Int} {σ : zS} (h : zo (f_X8_parseStatement  a0 σ) Q) : zw g Y_X8_parseStatement R_X8_parseStatement 0 [(0, (4, a0))] [] σ 0 0 Q := by
  unfold f_X8_parseStatement at h
  refine r_aload_n 0 dX8_parseStatement_0 rfl ?_
  refine r_ldcSW (j := 6) (text := "agent") (by decide +kernel) dX8_parseStatement_1 ?_
  refine r_callV (K' := Y_X8_isWord) (R' := R_X8_isWord) (idx := 273) (n := 1) (b := a0) (as := [(6, (6 : Nat))]) (rest := []) (C' := 0) (D' := 0) (cn := 8) rfl k0_X8_isWord kV_X8_isWord kl_X8_273 ⟨by decide, by decide⟩ dX8_parseStatement_4 rfl rfl (Nat.le_of_ble_eq_true rfl) (by decide) (by decide) rfl h (fun r hr => m_X8_isWord hl0 ⟨r, hr, hr⟩) (fun x1 τ2 _ h => ?_)
  refine r_if_eq 20 dX8_parseStatement_7 (by decide) h (fun h => ?_) (fun h => ?_)
  · refine r_aload_n 0 dX8_parseStatement_20 rfl ?_
    refine r_ldcSW (j := 7) (text := "way") (by decide +kernel) dX8_parseStatement_21 ?_
    refine r_callV (K' := Y_X8_isWord) (R' := R_X8_isWord) (idx := 273) (n := 1) (b := a0) (as := [(6, (7 : Nat))]) (rest := []) (C' := 0) (D' := 0) (cn := 8) rfl k0_X8_isWord kV_X8_isWord kl_X8_273 ⟨by decide, by decide⟩ dX8_parseStatement_24 rfl rfl (Nat.le_of_ble_eq_true rfl) (by decide) (by decide) rfl h (fun r hr => m_X8_isWord hl0 ⟨r, hr, hr⟩) (fun x3 τ4 _ h => ?_)
    refine r_if_eq 40 dX8_parseStatement_27 (by decide) h (fun h => ?_) (fun h => ?_)
    · refine r_aload_n 0 dX8_parseStatement_40 rfl ?_
      refine r_ldcSW (j := 8) (text := "link") (by decide +kernel) dX8_parseStatement_41 ?_
      refine r_callV (K' := Y_X8_isWord) (R' := R_X8_isWord) (idx := 273) (n := 1) (b := a0) (as := [(6, (8 : Nat))]) (rest := []) (C' := 0) (D' := 0) (cn := 8) rfl k0_X8_isWord kV_X8_isWord kl_X8_273 ⟨by decide, by decide⟩ dX8_parseStatement_44 rfl rfl (Nat.le_of_ble_eq_true rfl) (by decide) (by decide) rfl h (fun r hr => m_X8_isWord hl0 ⟨r, hr, hr⟩) (fun x5 τ6 _ h => ?_)
      refine r_if_eq 57 dX8_parseStatement_47 (by decide) h (fun h => ?_) (fun h => ?_)
      · refine r_aload_n 0 dX8_parseStatement_57 rfl ?_
        refine r_ldcSW (j := 10) (text := "probe") (by decide +kernel) dX8_parseStatement_58 ?_
        refine r_callV (K' := Y_X8_isWord) (R' := R_X8_isWord) (idx := 273) (n := 1) (b := a0) (as := [(6, (10 : Nat))]) (rest := []) (C' := 0) (D' := 0) (cn := 8) rfl k0_X8_isWord kV_X8_isWord kl_X8_273 ⟨by decide, by decide⟩ dX8_parseStatement_61 rfl rfl (Nat.le_of_ble_eq_true rfl) (by decide) (by decide) rfl h (fun r hr => m_X8_isWord hl0 ⟨r, hr, hr⟩) (fun x7 τ8 _ h => ?_)
        refine r_if_eq 74 dX8_parseStatement_64 (by decide) h (fun h => ?_) (fun h => ?_)
        · refine r_aload_n 0 dX8_parseStatement_74 rfl ?_
          refine r_iconst (v := 1) dX8_parseStatement_75 rfl rfl ?_
          refine r_callV (K' := Y_X8_errs) (R' := R_X8_errs) (idx := 267) (n := 1) (b := a0) (as := [(0, 1)]) (rest := []) (C' := 0) (D' := 0) (cn := 8) rfl k0_X8_errs kV_X8_errs kl_X8_267 ⟨by decide, by decide⟩ dX8_parseStatement_76 rfl rfl (Nat.le_of_ble_eq_true rfl) (by decide) (by decide) rfl h (fun r hr => m_X8_errs hl0 ⟨r, hr, hr⟩) (fun _ τ10 _ h => ?_)
          exact t_X8_parseStatement_79 hl0   h
        · refine r_aload_n 0 dX8_parseStatement_67 rfl ?_
          refine r_callV (K' := Y_X8_parseProbe) (R' := R_X8_parseProbe) (idx := 332) (n := 0) (b := a0) (as := []) (rest := []) (C' := 0) (D' := 0) (cn := 8) rfl k0_X8_parseProbe kV_X8_parseProbe kl_X8_332 ⟨by decide, by decide⟩ dX8_parseStatement_68 rfl rfl (Nat.le_of_ble_eq_true rfl) (by decide) (by decide) rfl h (fun r hr => m_X8_parseProbe hl0 ⟨r, hr, hr⟩) (fun _ τ12 _ h => ?_)
          refine r_goto 79 dX8_parseStatement_71 (by decide) ?_
          exact t_X8_parseStatement_79 hl0   h
      · refine r_aload_n 0 dX8_parseStatement_50 rfl ?_
        refine r_callV (K' := Y_X8_parseLink) (R' := R_X8_parseLink) (idx := 329) (n := 0) (b := a0) (as := []) (rest := []) (C' := 0) (D' := 0) (cn := 8) rfl k0_X8_parseLink kV_X8_parseLink kl_X8_329 ⟨by decide, by decide⟩ dX8_parseStatement_51 rfl rfl (Nat.le_of_ble_eq_true rfl) (by decide) (by decide) rfl h (fun r hr => m_X8_parseLink hl0 ⟨r, hr, hr⟩) (fun _ τ14 _ h => ?_)
        refine r_goto 79 dX8_parseStatement_54 (by decide) ?_
        exact t_X8_parseStatement_79 hl0   h
    · refine r_aload_n 0 dX8_parseStatement_30 rfl ?_
      refine r_iconst (v := 1) dX8_parseStatement_31 rfl rfl ?_
      refine r_bipush (v := 15) dX8_parseStatement_32 rfl rfl ?_
      refine r_callV (K' := Y_X8_parseNew) (R' := R_X8_parseNew) (idx := 326) (n := 2) (b := a0) (as := [(0, 1), (0, 15)]) (rest := []) (C' := 0) (D' := 0) (cn := 8) rfl k0_X8_parseNew kV_X8_parseNew kl_X8_326 ⟨by decide, by decide⟩ dX8_parseStatement_34 rfl rfl (Nat.le_of_ble_eq_true rfl) (by decide) (by decide) rfl h (fun r hr => m_X8_parseNew hl0 ⟨r, hr, hr⟩) (fun _ τ16 _ h => ?_)
      refine r_goto 79 dX8_parseStatement_37 (by decide) ?_
      exact t_X8_parseStatement_79 hl0   h
  · refine r_aload_n 0 dX8_parseStatement_10 rfl ?_
    refine r_iconst (v := 0) dX8_parseStatement_11 rfl rfl ?_
    refine r_bipush (v := 9) dX8_parseStatement_12 rfl rfl ?_
    refine r_callV (K' := Y_X8_parseNew) (R' := R_X8_parseNew) (idx := 326) (n := 2) (b := a0) (as := [(0, 0), (0, 9)]) (rest := []) (C' := 0) (D' := 0) (cn := 8) rfl k0_X8_parseNew kV_X8_parseNew kl_X8_326 ⟨by decide, by decide⟩ dX8_parseStatement_14 rfl rfl (Nat.le_of_ble_eq_true rfl) (by decide) (by decide) rfl h (fun r hr => m_X8_parseNew hl0 ⟨r, hr, hr⟩) (fun _ τ18 _ h => ?_)
    refine r_goto 79 dX8_parseStatement_17 (by decide) ?_
    exact t_X8_parseStatement_79 hl0   h
theorem m_X8_parseStatement {g : zF} (hl0 : g.2.2.2.1.stackTraces = false) {Q : zR × zS → Prop} {a0 : Int} {σ : zS} (h : zo (f_X8_parseStatement a0 σ) Q) : zm g Y_X8_parseStatement R_X8_parseStatement [(4, a0)] σ Q := zm_of (by decide) rfl (Nat.le_of_ble_eq_true rfl) (t_X8_parseStatement hl0 h)


/- X8_remember -/

set_option maxRecDepth 100000 in
set_option maxHeartbeats 4000000 in
theorem t_X8_remember_88 {g : zF} (hl0 : g.2.2.2.1.stackTraces = false) {Q : zR × zS → Prop}   {a0 : Int} {σ : zS} (h : zo (f_X8_remember_88  a0 σ) Q) : zw g Y_X8_remember R_X8_remember 88 [(0, (4, a0))] [] σ 0 0 Q := by
  unfold f_X8_remember_88 at h
  refine r_aload_n 0 dX8_remember_88 rfl ?_
  refine r_dup dX8_remember_89 rfl ?_
  refine r_getf fd_X8_468 rfl dX8_remember_90 h (fun x1 h => ?_)
  refine r_iconst (v := 1) dX8_remember_93 rfl rfl ?_
  refine r_iadd dX8_remember_94 ?_
  refine r_putf fd_X8_468 fp_X8_remember_468 dX8_remember_95 h (fun τ2 h => ?_)
  exact r_vret rfl dX8_remember_98 h

set_option maxRecDepth 100000 in
set_option maxHeartbeats 4000000 in
theorem t_X8_remember_54 {g : zF} (hl0 : g.2.2.2.1.stackTraces = false) {Q : zR × zS → Prop}   : ∀ (n : Nat) (a0 a1 : Int) (σ : zS), zo (f_X8_remember_54  n a0 a1 σ) Q → zw g Y_X8_remember R_X8_remember 54 [(0, (4, a0)), (1, (0, a1))] [] σ 0 0 Q := by
  intro n
  induction n with
  | zero => intro a0 a1 σ h; obtain ⟨r, h, -⟩ := h; cases h
  | succ n ih =>
    intro a0 a1 σ h
    unfold f_X8_remember_54 at h
    refine r_iload_n 1 dX8_remember_54 rfl ?_
    refine r_sipush (v := 2405) dX8_remember_55 rfl rfl ?_
    refine r_icmp_ge 88 dX8_remember_58 (by decide) h (fun h => ?_) (fun h => ?_)
    · refine r_weak (L' := [(0, (4, a0))]) [0] rfl ?_
      exact t_X8_remember_88 hl0   h
    · refine r_aload_n 0 dX8_remember_61 rfl ?_
      refine r_getr fd_X8_56 rfl dX8_remember_62 h (fun x1 h => ?_)
      refine r_sipush (v := 2405) dX8_remember_65 rfl rfl ?_
      refine r_aload_n 0 dX8_remember_68 rfl ?_
      refine r_getf fd_X8_468 rfl dX8_remember_69 h (fun x2 h => ?_)
      refine r_imul dX8_remember_72 ?_
      refine r_iload_n 1 dX8_remember_73 rfl ?_
      refine r_iadd dX8_remember_74 ?_
      refine r_aload_n 0 dX8_remember_75 rfl ?_
      refine r_getr fd_X8_17 rfl dX8_remember_76 h (fun x3 h => ?_)
      refine r_iload_n 1 dX8_remember_79 rfl ?_
      refine r_iald dX8_remember_80 h (fun x4 h => ?_)
      refine r_iast dX8_remember_81 h (fun τ5 h => ?_)
      refine r_iinc (L' := [(1, (0, (w32 (a1 + 1)))), (0, (4, a0))]) 1 dX8_remember_82 rfl (by decide) rfl ?_
      refine r_goto 54 dX8_remember_85 (by decide) ?_
      refine r_weak (L' := [(0, (4, a0)), (1, (0, (w32 (a1 + 1))))]) [1, 0] rfl ?_
      exact ih _ _ _ h

set_option maxRecDepth 100000 in
set_option maxHeartbeats 4000000 in
theorem t_X8_remember_52 {g : zF} (hl0 : g.2.2.2.1.stackTraces = false) {Q : zR × zS → Prop}   {a0 : Int} {σ : zS} (h : zo (f_X8_remember_52  a0 σ) Q) : zw g Y_X8_remember R_X8_remember 52 [(0, (4, a0))] [] σ 0 0 Q := by
  unfold f_X8_remember_52 at h
  refine r_iconst (v := 0) dX8_remember_52 rfl rfl ?_
  refine r_istore_n (L' := [(1, (0, 0)), (0, (4, a0))]) dX8_remember_53 (by decide) rfl ?_
  refine r_weak (L' := [(0, (4, a0)), (1, (0, 0))]) [1, 0] rfl ?_
  exact t_X8_remember_54 hl0   zFU _ _ _ h

set_option maxRecDepth 100000 in
set_option maxHeartbeats 4000000 in
theorem t_X8_remember_42 {g : zF} (hl0 : g.2.2.2.1.stackTraces = false) {Q : zR × zS → Prop}   {a0 : Int} {σ : zS} (h : zo (f_X8_remember_42  a0 σ) Q) : zw g Y_X8_remember R_X8_remember 42 [(0, (4, a0))] [] σ 0 0 Q := by
  unfold f_X8_remember_42 at h
  refine r_aload_n 0 dX8_remember_42 rfl ?_
  refine r_dup dX8_remember_43 rfl ?_
  refine r_getf fd_X8_468 rfl dX8_remember_44 h (fun x1 h => ?_)
  refine r_iconst (v := 1) dX8_remember_47 rfl rfl ?_
  refine r_isub dX8_remember_48 ?_
  refine r_putf fd_X8_468 fp_X8_remember_468 dX8_remember_49 h (fun τ2 h => ?_)
  exact t_X8_remember_52 hl0   h

set_option maxRecDepth 100000 in
set_option maxHeartbeats 4000000 in
theorem t_X8_remember_13 {g : zF} (hl0 : g.2.2.2.1.stackTraces = false) {Q : zR × zS → Prop}   : ∀ (n : Nat) (a0 a1 : Int) (σ : zS), zo (f_X8_remember_13  n a0 a1 σ) Q → zw g Y_X8_remember R_X8_remember 13 [(0, (4, a0)), (1, (0, a1))] [] σ 0 0 Q := by
  intro n
  induction n with
  | zero => intro a0 a1 σ h; obtain ⟨r, h, -⟩ := h; cases h
  | succ n ih =>
    intro a0 a1 σ h
    unfold f_X8_remember_13 at h
    refine r_iload_n 1 dX8_remember_13 rfl ?_
    refine r_sipush (v := 14430) dX8_remember_14 rfl rfl ?_
    refine r_icmp_ge 42 dX8_remember_17 (by decide) h (fun h => ?_) (fun h => ?_)
    · refine r_weak (L' := [(0, (4, a0))]) [0] rfl ?_
      exact t_X8_remember_42 hl0   h
    · refine r_aload_n 0 dX8_remember_20 rfl ?_
      refine r_getr fd_X8_56 rfl dX8_remember_21 h (fun x1 h => ?_)
      refine r_iload_n 1 dX8_remember_24 rfl ?_
      refine r_sipush (v := 2405) dX8_remember_25 rfl rfl ?_
      refine r_isub dX8_remember_28 ?_
      refine r_aload_n 0 dX8_remember_29 rfl ?_
      refine r_getr fd_X8_56 rfl dX8_remember_30 h (fun x2 h => ?_)
      refine r_iload_n 1 dX8_remember_33 rfl ?_
      refine r_iald dX8_remember_34 h (fun x3 h => ?_)
      refine r_iast dX8_remember_35 h (fun τ4 h => ?_)
      refine r_iinc (L' := [(1, (0, (w32 (a1 + 1)))), (0, (4, a0))]) 1 dX8_remember_36 rfl (by decide) rfl ?_
      refine r_goto 13 dX8_remember_39 (by decide) ?_
      refine r_weak (L' := [(0, (4, a0)), (1, (0, (w32 (a1 + 1))))]) [1, 0] rfl ?_
      exact ih _ _ _ h

set_option maxRecDepth 100000 in
set_option maxHeartbeats 4000000 in
theorem t_X8_remember {g : zF} (hl0 : g.2.2.2.1.stackTraces = false) {Q : zR × zS → Prop}   {a0 : Int} {σ : zS} (h : zo (f_X8_remember  a0 σ) Q) : zw g Y_X8_remember R_X8_remember 0 [(0, (4, a0))] [] σ 0 0 Q := by
  unfold f_X8_remember at h
  refine r_aload_n 0 dX8_remember_0 rfl ?_
  refine r_getf fd_X8_468 rfl dX8_remember_1 h (fun x1 h => ?_)
  refine r_bipush (v := 6) dX8_remember_4 rfl rfl ?_
  refine r_icmp_ne 52 dX8_remember_6 (by decide) h (fun h => ?_) (fun h => ?_)
  · exact t_X8_remember_52 hl0   h
  · refine r_sipush (v := 2405) dX8_remember_9 rfl rfl ?_
    refine r_istore_n (L' := [(1, (0, 2405)), (0, (4, a0))]) dX8_remember_12 (by decide) rfl ?_
    refine r_weak (L' := [(0, (4, a0)), (1, (0, 2405))]) [1, 0] rfl ?_
    exact t_X8_remember_13 hl0   zFU _ _ _ h
theorem m_X8_remember {g : zF} (hl0 : g.2.2.2.1.stackTraces = false) {Q : zR × zS → Prop} {a0 : Int} {σ : zS} (h : zo (f_X8_remember a0 σ) Q) : zm g Y_X8_remember R_X8_remember [(4, a0)] σ Q := zm_of (by decide) rfl (Nat.le_of_ble_eq_true rfl) (t_X8_remember hl0 h)


/- X8_load -/

set_option maxRecDepth 100000 in
set_option maxHeartbeats 4000000 in
theorem t_X8_load_130 {g : zF} (hl0 : g.2.2.2.1.stackTraces = false) {Q : zR × zS → Prop}   {a0 : Int} {σ : zS} (h : zo (f_X8_load_130  a0 σ) Q) : zw g Y_X8_load R_X8_load 130 [(0, (4, a0))] [] σ 0 0 Q := by
  unfold f_X8_load_130 at h
  refine r_aload_n 0 dX8_load_130 rfl ?_
  refine r_callV (K' := Y_X8_agents) (R' := R_X8_agents) (idx := 66) (n := 0) (b := a0) (as := []) (rest := []) (C' := 0) (D' := 0) (cn := 8) rfl k0_X8_agents kV_X8_agents kl_X8_66 ⟨by decide, by decide⟩ dX8_load_131 rfl rfl (Nat.le_of_ble_eq_true rfl) (by decide) (by decide) rfl h (fun r hr => m_X8_agents hl0 ⟨r, hr, hr⟩) (fun x1 τ2 _ h => ?_)
  exact r_iret rfl dX8_load_134 h

set_option maxRecDepth 100000 in
set_option maxHeartbeats 4000000 in
theorem t_X8_load_105 {g : zF} (hl0 : g.2.2.2.1.stackTraces = false) {Q : zR × zS → Prop}   : ∀ (n : Nat) (a0 a1 : Int) (σ : zS), zo (f_X8_load_105  n a0 a1 σ) Q → zw g Y_X8_load R_X8_load 105 [(0, (4, a0)), (1, (0, a1))] [] σ 0 0 Q := by
  intro n
  induction n with
  | zero => intro a0 a1 σ h; obtain ⟨r, h, -⟩ := h; cases h
  | succ n ih =>
    intro a0 a1 σ h
    unfold f_X8_load_105 at h
    refine r_iload_n 1 dX8_load_105 rfl ?_
    refine r_sipush (v := 2405) dX8_load_106 rfl rfl ?_
    refine r_icmp_ge 130 dX8_load_109 (by decide) h (fun h => ?_) (fun h => ?_)
    · refine r_weak (L' := [(0, (4, a0))]) [0] rfl ?_
      exact t_X8_load_130 hl0   h
    · refine r_aload_n 0 dX8_load_112 rfl ?_
      refine r_getr fd_X8_17 rfl dX8_load_113 h (fun x1 h => ?_)
      refine r_iload_n 1 dX8_load_116 rfl ?_
      refine r_aload_n 0 dX8_load_117 rfl ?_
      refine r_getr fd_X8_21 rfl dX8_load_118 h (fun x2 h => ?_)
      refine r_iload_n 1 dX8_load_121 rfl ?_
      refine r_iald dX8_load_122 h (fun x3 h => ?_)
      refine r_iast dX8_load_123 h (fun τ4 h => ?_)
      refine r_iinc (L' := [(1, (0, (w32 (a1 + 1)))), (0, (4, a0))]) 1 dX8_load_124 rfl (by decide) rfl ?_
      refine r_goto 105 dX8_load_127 (by decide) ?_
      refine r_weak (L' := [(0, (4, a0)), (1, (0, (w32 (a1 + 1))))]) [1, 0] rfl ?_
      exact ih _ _ _ h

set_option maxRecDepth 100000 in
set_option maxHeartbeats 4000000 in
theorem t_X8_load_81 {g : zF} (hl0 : g.2.2.2.1.stackTraces = false) {Q : zR × zS → Prop}   {a0 : Int} {σ : zS} (h : zo (f_X8_load_81  a0 σ) Q) : zw g Y_X8_load R_X8_load 81 [(0, (4, a0))] [] σ 0 0 Q := by
  unfold f_X8_load_81 at h
  refine r_aload_n 0 dX8_load_81 rfl ?_
  refine r_aload_n 0 dX8_load_82 rfl ?_
  refine r_getr fd_X8_17 rfl dX8_load_83 h (fun x1 h => ?_)
  refine r_putr fd_X8_24 fp_X8_load_24 dX8_load_86 h (fun τ2 h => ?_)
  refine r_aload_n 0 dX8_load_89 rfl ?_
  refine r_callV (K' := Y_X8_good) (R' := R_X8_good) (idx := 226) (n := 0) (b := a0) (as := []) (rest := []) (C' := 0) (D' := 0) (cn := 8) rfl k0_X8_good kV_X8_good kl_X8_226 ⟨by decide, by decide⟩ dX8_load_90 rfl rfl (Nat.le_of_ble_eq_true rfl) (by decide) (by decide) rfl h (fun r hr => m_X8_good hl0 ⟨r, hr, hr⟩) (fun x3 τ4 _ h => ?_)
  refine r_if_ne 99 dX8_load_93 (by decide) h (fun h => ?_) (fun h => ?_)
  · refine r_aload_n 0 dX8_load_99 rfl ?_
    refine r_callV (K' := Y_X8_remember) (R' := R_X8_remember) (idx := 344) (n := 0) (b := a0) (as := []) (rest := []) (C' := 0) (D' := 0) (cn := 8) rfl k0_X8_remember kV_X8_remember kl_X8_344 ⟨by decide, by decide⟩ dX8_load_100 rfl rfl (Nat.le_of_ble_eq_true rfl) (by decide) (by decide) rfl h (fun r hr => m_X8_remember hl0 ⟨r, hr, hr⟩) (fun _ τ6 _ h => ?_)
    refine r_iconst (v := 0) dX8_load_103 rfl rfl ?_
    refine r_istore_n (L' := [(1, (0, 0)), (0, (4, a0))]) dX8_load_104 (by decide) rfl ?_
    refine r_weak (L' := [(0, (4, a0)), (1, (0, 0))]) [1, 0] rfl ?_
    exact t_X8_load_105 hl0   zFU _ _ _ h
  · refine r_bipush (v := (-4)) dX8_load_96 rfl rfl ?_
    exact r_iret rfl dX8_load_98 h

set_option maxRecDepth 100000 in
set_option maxHeartbeats 4000000 in
theorem t_X8_load_60 {g : zF} (hl0 : g.2.2.2.1.stackTraces = false) {Q : zR × zS → Prop}   : ∀ (n : Nat) (a0 : Int) (σ : zS), zo (f_X8_load_60  n a0 σ) Q → zw g Y_X8_load R_X8_load 60 [(0, (4, a0))] [] σ 0 0 Q := by
  intro n
  induction n with
  | zero => intro a0 σ h; obtain ⟨r, h, -⟩ := h; cases h
  | succ n ih =>
    intro a0 σ h
    unfold f_X8_load_60 at h
    refine r_aload_n 0 dX8_load_60 rfl ?_
    refine r_callV (K' := Y_X8_good) (R' := R_X8_good) (idx := 226) (n := 0) (b := a0) (as := []) (rest := []) (C' := 0) (D' := 0) (cn := 8) rfl k0_X8_good kV_X8_good kl_X8_226 ⟨by decide, by decide⟩ dX8_load_61 rfl rfl (Nat.le_of_ble_eq_true rfl) (by decide) (by decide) rfl h (fun r hr => m_X8_good hl0 ⟨r, hr, hr⟩) (fun x1 τ2 _ h => ?_)
    refine r_if_eq 81 dX8_load_64 (by decide) h (fun h => ?_) (fun h => ?_)
    · exact t_X8_load_81 hl0   h
    · refine r_aload_n 0 dX8_load_67 rfl ?_
      refine r_getf fd_X8_241 rfl dX8_load_68 h (fun x3 h => ?_)
      refine r_if_eq 81 dX8_load_71 (by decide) h (fun h => ?_) (fun h => ?_)
      · exact t_X8_load_81 hl0   h
      · refine r_aload_n 0 dX8_load_74 rfl ?_
        refine r_callV (K' := Y_X8_parseStatement) (R' := R_X8_parseStatement) (idx := 341) (n := 0) (b := a0) (as := []) (rest := []) (C' := 0) (D' := 0) (cn := 8) rfl k0_X8_parseStatement kV_X8_parseStatement kl_X8_341 ⟨by decide, by decide⟩ dX8_load_75 rfl rfl (Nat.le_of_ble_eq_true rfl) (by decide) (by decide) rfl h (fun r hr => m_X8_parseStatement hl0 ⟨r, hr, hr⟩) (fun _ τ5 _ h => ?_)
        refine r_goto 60 dX8_load_78 (by decide) ?_
        exact ih _ _ h

set_option maxRecDepth 100000 in
set_option maxHeartbeats 4000000 in
theorem t_X8_load {g : zF} (hl0 : g.2.2.2.1.stackTraces = false) {Q : zR × zS → Prop}   {a0 : Int} {σ : zS} (h : zo (f_X8_load  a0 σ) Q) : zw g Y_X8_load R_X8_load 0 [(0, (4, a0))] [] σ 0 0 Q := by
  unfold f_X8_load at h
  refine r_aload_n 0 dX8_load_0 rfl ?_
  refine r_iconst (v := 0) dX8_load_1 rfl rfl ?_
  refine r_putf fd_X8_3 fp_X8_load_3 dX8_load_2 h (fun τ1 h => ?_)
  refine r_aload_n 0 dX8_load_5 rfl ?_
  refine r_aload_n 0 dX8_load_6 rfl ?_
  refine r_getf fd_X8_212 rfl dX8_load_7 h (fun x2 h => ?_)
  refine r_putf fd_X8_232 fp_X8_load_232 dX8_load_10 h (fun τ3 h => ?_)
  refine r_aload_n 0 dX8_load_13 rfl ?_
  refine r_iconst (v := 0) dX8_load_14 rfl rfl ?_
  refine r_putf fd_X8_212 fp_X8_load_212 dX8_load_15 h (fun τ4 h => ?_)
  refine r_aload_n 0 dX8_load_18 rfl ?_
  refine r_iconst (v := 0) dX8_load_19 rfl rfl ?_
  refine r_putf fd_X8_235 fp_X8_load_235 dX8_load_20 h (fun τ5 h => ?_)
  refine r_aload_n 0 dX8_load_23 rfl ?_
  refine r_iconst (v := 0) dX8_load_24 rfl rfl ?_
  refine r_putf fd_X8_223 fp_X8_load_223 dX8_load_25 h (fun τ6 h => ?_)
  refine r_aload_n 0 dX8_load_28 rfl ?_
  refine r_iconst (v := (-1)) dX8_load_29 rfl rfl ?_
  refine r_putf fd_X8_44 fp_X8_load_44 dX8_load_30 h (fun τ7 h => ?_)
  refine r_aload_n 0 dX8_load_33 rfl ?_
  refine r_getr fd_X8_21 rfl dX8_load_34 h (fun x8 h => ?_)
  refine r_callS (K' := Y_X8_clear) (R' := R_X8_clear) (idx := 62) (n := 1) (as := [(4, x8)]) (rest := []) (C' := 0) (D' := 0) rfl k0_X8_clear wd_1453 kl_X8_62 ⟨by decide, by decide⟩ dX8_load_37 rfl rfl (Nat.le_of_ble_eq_true rfl) (by decide) (by decide) h (fun r hr => m_X8_clear hl0 ⟨r, hr, hr⟩) (fun _ τ10 _ h => ?_)
  refine r_aload_n 0 dX8_load_40 rfl ?_
  refine r_aload_n 0 dX8_load_41 rfl ?_
  refine r_getr fd_X8_21 rfl dX8_load_42 h (fun x11 h => ?_)
  refine r_putr fd_X8_24 fp_X8_load_24 dX8_load_45 h (fun τ12 h => ?_)
  refine r_aload_n 0 dX8_load_48 rfl ?_
  refine r_callV (K' := Y_X8_scan) (R' := R_X8_scan) (idx := 255) (n := 0) (b := a0) (as := []) (rest := []) (C' := 0) (D' := 0) (cn := 8) rfl k0_X8_scan kV_X8_scan kl_X8_255 ⟨by decide, by decide⟩ dX8_load_49 rfl rfl (Nat.le_of_ble_eq_true rfl) (by decide) (by decide) rfl h (fun r hr => m_X8_scan hl0 ⟨r, hr, hr⟩) (fun _ τ14 _ h => ?_)
  refine r_aload_n 0 dX8_load_52 rfl ?_
  refine r_callV (K' := Y_X8_parseRules) (R' := R_X8_parseRules) (idx := 338) (n := 0) (b := a0) (as := []) (rest := []) (C' := 0) (D' := 0) (cn := 8) rfl k0_X8_parseRules kV_X8_parseRules kl_X8_338 ⟨by decide, by decide⟩ dX8_load_53 rfl rfl (Nat.le_of_ble_eq_true rfl) (by decide) (by decide) rfl h (fun r hr => m_X8_parseRules hl0 ⟨r, hr, hr⟩) (fun _ τ16 _ h => ?_)
  refine r_aload_n 0 dX8_load_56 rfl ?_
  refine r_callV (K' := Y_X8_semicolon) (R' := R_X8_semicolon) (idx := 335) (n := 0) (b := a0) (as := []) (rest := []) (C' := 0) (D' := 0) (cn := 8) rfl k0_X8_semicolon kV_X8_semicolon kl_X8_335 ⟨by decide, by decide⟩ dX8_load_57 rfl rfl (Nat.le_of_ble_eq_true rfl) (by decide) (by decide) rfl h (fun r hr => m_X8_semicolon hl0 ⟨r, hr, hr⟩) (fun _ τ18 _ h => ?_)
  exact t_X8_load_60 hl0   zFU _ _ h
theorem m_X8_load {g : zF} (hl0 : g.2.2.2.1.stackTraces = false) {Q : zR × zS → Prop} {a0 : Int} {σ : zS} (h : zo (f_X8_load a0 σ) Q) : zm g Y_X8_load R_X8_load [(4, a0)] σ Q := zm_of (by decide) rfl (Nat.le_of_ble_eq_true rfl) (t_X8_load hl0 h)


/- X8_errorCode -/

set_option maxRecDepth 100000 in
set_option maxHeartbeats 4000000 in
theorem t_X8_errorCode {g : zF} (hl0 : g.2.2.2.1.stackTraces = false) {Q : zR × zS → Prop}   {a0 : Int} {σ : zS} (h : zo (f_X8_errorCode  a0 σ) Q) : zw g Y_X8_errorCode R_X8_errorCode 0 [(0, (4, a0))] [] σ 0 0 Q := by
  unfold f_X8_errorCode at h
  refine r_aload_n 0 dX8_errorCode_0 rfl ?_
  refine r_iconst (v := 0) dX8_errorCode_1 rfl rfl ?_
  refine r_putf fd_X8_3 fp_X8_errorCode_3 dX8_errorCode_2 h (fun τ1 h => ?_)
  refine r_aload_n 0 dX8_errorCode_5 rfl ?_
  refine r_getf fd_X8_223 rfl dX8_errorCode_6 h (fun x2 h => ?_)
  exact r_iret rfl dX8_errorCode_9 h
theorem m_X8_errorCode {g : zF} (hl0 : g.2.2.2.1.stackTraces = false) {Q : zR × zS → Prop} {a0 : Int} {σ : zS} (h : zo (f_X8_errorCode a0 σ) Q) : zm g Y_X8_errorCode R_X8_errorCode [(4, a0)] σ Q := zm_of (by decide) rfl (Nat.le_of_ble_eq_true rfl) (t_X8_errorCode hl0 h)


/- X8_errorPosition -/

set_option maxRecDepth 100000 in
set_option maxHeartbeats 4000000 in
theorem t_X8_errorPosition {g : zF} (hl0 : g.2.2.2.1.stackTraces = false) {Q : zR × zS → Prop}   {a0 : Int} {σ : zS} (h : zo (f_X8_errorPosition  a0 σ) Q) : zw g Y_X8_errorPosition R_X8_errorPosition 0 [(0, (4, a0))] [] σ 0 0 Q := by
  unfold f_X8_errorPosition at h
  refine r_aload_n 0 dX8_errorPosition_0 rfl ?_
  refine r_iconst (v := 0) dX8_errorPosition_1 rfl rfl ?_
  refine r_putf fd_X8_3 fp_X8_errorPosition_3 dX8_errorPosition_2 h (fun τ1 h => ?_)
  refine r_aload_n 0 dX8_errorPosition_5 rfl ?_
  refine r_getf fd_X8_44 rfl dX8_errorPosition_6 h (fun x2 h => ?_)
  exact r_iret rfl dX8_errorPosition_9 h
theorem m_X8_errorPosition {g : zF} (hl0 : g.2.2.2.1.stackTraces = false) {Q : zR × zS → Prop} {a0 : Int} {σ : zS} (h : zo (f_X8_errorPosition a0 σ) Q) : zm g Y_X8_errorPosition R_X8_errorPosition [(4, a0)] σ Q := zm_of (by decide) rfl (Nat.le_of_ble_eq_true rfl) (t_X8_errorPosition hl0 h)


/- X8_found -/

set_option maxRecDepth 100000 in
set_option maxHeartbeats 4000000 in
theorem t_X8_found_73 {g : zF} (hl0 : g.2.2.2.1.stackTraces = false) {Q : zR × zS → Prop}   {a0 a1 a2 a3 s0 : Int} {σ : zS} (h : zo (f_X8_found_73  a0 a1 a2 a3 s0 σ) Q) : zw g Y_X8_found R_X8_found 73 [(0, (4, a0)), (1, (0, a1)), (2, (0, a2)), (3, (0, a3))] [(0, s0)] σ 0 0 Q := by
  unfold f_X8_found_73 at h
  refine r_istore (L' := [(4, (0, s0)), (0, (4, a0)), (1, (0, a1)), (2, (0, a2)), (3, (0, a3))]) dX8_found_73 (by decide) rfl ?_
  refine r_aload_n 1 dX8_found_75 rfl ?_
  refine r_iconst (v := 0) dX8_found_76 rfl rfl ?_
  refine r_putf fd_X8_212 fp_X8_found_212 dX8_found_77 h (fun τ1 h => ?_)
  refine r_iload_n 4 dX8_found_80 rfl ?_
  refine r_if_eq 95 dX8_found_81 (by decide) h (fun h => ?_) (fun h => ?_)
  · refine r_iconst (v := (-1)) dX8_found_95 rfl rfl ?_
    exact r_iret rfl dX8_found_96 h
  · refine r_aload_n 1 dX8_found_84 rfl ?_
    refine r_iload 0 dX8_found_85 rfl ?_
    refine r_iload_n 2 dX8_found_87 rfl ?_
    refine r_iload_n 3 dX8_found_88 rfl ?_
    refine r_callV (K' := Y_X8_withName) (R' := R_X8_withName) (idx := 316) (n := 3) (b := a0) (as := [(0, s0), (0, a1), (0, a2)]) (rest := []) (C' := 0) (D' := 0) (cn := 8) rfl k0_X8_withName kV_X8_withName kl_X8_316 ⟨by decide, by decide⟩ dX8_found_89 rfl rfl (Nat.le_of_ble_eq_true rfl) (by decide) (by decide) rfl h (fun r hr => m_X8_withName hl0 ⟨r, hr, hr⟩) (fun x2 τ3 _ h => ?_)
    refine r_goto 96 dX8_found_92 (by decide) ?_
    exact r_iret rfl dX8_found_96 h

set_option maxRecDepth 100000 in
set_option maxHeartbeats 4000000 in
theorem t_X8_found_53 {g : zF} (hl0 : g.2.2.2.1.stackTraces = false) {Q : zR × zS → Prop}   {a0 a1 a2 a3 : Int} {σ : zS} (h : zo (f_X8_found_53  a0 a1 a2 a3 σ) Q) : zw g Y_X8_found R_X8_found 53 [(0, (4, a0)), (1, (0, a1)), (2, (0, a2)), (3, (0, a3))] [] σ 0 0 Q := by
  unfold f_X8_found_53 at h
  refine r_iload_n 3 dX8_found_53 rfl ?_
  refine r_if_eq 72 dX8_found_54 (by decide) h (fun h => ?_) (fun h => ?_)
  · refine r_iconst (v := (-1)) dX8_found_72 rfl rfl ?_
    exact t_X8_found_73 hl0   h
  · refine r_aload_n 0 dX8_found_57 rfl ?_
    refine r_getr fd_X8_40 rfl dX8_found_58 h (fun x1 h => ?_)
    refine r_iconst (v := 0) dX8_found_61 rfl rfl ?_
    refine r_aload_n 0 dX8_found_62 rfl ?_
    refine r_getf fd_X8_212 rfl dX8_found_63 h (fun x2 h => ?_)
    refine r_callS (K' := Y_X8_nameOf) (R' := R_X8_nameOf) (idx := 305) (n := 3) (as := [(4, x1), (0, 0), (0, x2)]) (rest := []) (C' := 0) (D' := 0) rfl k0_X8_nameOf wd_1643 kl_X8_305 ⟨by decide, by decide⟩ dX8_found_66 rfl rfl (Nat.le_of_ble_eq_true rfl) (by decide) (by decide) h (fun r hr => m_X8_nameOf hl0 ⟨r, hr, hr⟩) (fun x3 τ4 _ h => ?_)
    refine r_goto 73 dX8_found_69 (by decide) ?_
    exact t_X8_found_73 hl0   h

set_option maxRecDepth 100000 in
set_option maxHeartbeats 4000000 in
theorem t_X8_found_16 {g : zF} (hl0 : g.2.2.2.1.stackTraces = false) {Q : zR × zS → Prop}   : ∀ (n : Nat) (a0 a1 a2 a3 a4 : Int) (σ : zS), zo (f_X8_found_16  n a0 a1 a2 a3 a4 σ) Q → zw g Y_X8_found R_X8_found 16 [(0, (4, a0)), (1, (0, a1)), (2, (0, a2)), (3, (0, a3)), (4, (0, a4))] [] σ 0 0 Q := by
  intro n
  induction n with
  | zero => intro a0 a1 a2 a3 a4 σ h; obtain ⟨r, h, -⟩ := h; cases h
  | succ n ih =>
    intro a0 a1 a2 a3 a4 σ h
    unfold f_X8_found_16 at h
    refine r_iload 4 dX8_found_16 rfl ?_
    refine r_aload_n 0 dX8_found_18 rfl ?_
    refine r_getf fd_X8_212 rfl dX8_found_19 h (fun x1 h => ?_)
    refine r_icmp_ge 53 dX8_found_22 (by decide) h (fun h => ?_) (fun h => ?_)
    · refine r_weak (L' := [(0, (4, a0)), (1, (0, a1)), (2, (0, a2)), (3, (0, a3))]) [0, 1, 2, 3] rfl ?_
      exact t_X8_found_53 hl0   h
    · refine r_iload_n 3 dX8_found_25 rfl ?_
      refine r_if_eq 53 dX8_found_26 (by decide) h (fun h => ?_) (fun h => ?_)
      · refine r_weak (L' := [(0, (4, a0)), (1, (0, a1)), (2, (0, a2)), (3, (0, a3))]) [0, 1, 2, 3] rfl ?_
        exact t_X8_found_53 hl0   h
      · refine r_aload_n 0 dX8_found_29 rfl ?_
        refine r_getr fd_X8_40 rfl dX8_found_30 h (fun x2 h => ?_)
        refine r_iload 4 dX8_found_33 rfl ?_
        refine r_bald dX8_found_35 h (fun x3 h => ?_)
        refine r_i2l dX8_found_36 ?_
        refine r_ldcL (z := 97) wd_1576 (by decide +kernel) dX8_found_37 ?_
        refine r_ldcL (z := 122) wd_1577 (by decide +kernel) dX8_found_40 ?_
        refine r_callS (K' := Y_X8_in) (R' := R_X8_in) (idx := 70) (n := 3) (as := [(1, x3), (1, 97), (1, 122)]) (rest := []) (C' := 0) (D' := 0) rfl k0_X8_in wd_1562 kl_X8_70 ⟨by decide, by decide⟩ dX8_found_43 rfl rfl (Nat.le_of_ble_eq_true rfl) (by decide) (by decide) h (fun r hr => m_X8_in hl0 ⟨r, hr, hr⟩) (fun x4 τ5 _ h => ?_)
        refine r_istore_n (L' := [(3, (0, x4)), (0, (4, a0)), (1, (0, a1)), (2, (0, a2)), (4, (0, a4))]) dX8_found_46 (by decide) rfl ?_
        refine r_iinc (L' := [(4, (0, (w32 (a4 + 1)))), (3, (0, x4)), (0, (4, a0)), (1, (0, a1)), (2, (0, a2))]) 4 dX8_found_47 rfl (by decide) rfl ?_
        refine r_goto 16 dX8_found_50 (by decide) ?_
        refine r_weak (L' := [(0, (4, a0)), (1, (0, a1)), (2, (0, a2)), (3, (0, x4)), (4, (0, (w32 (a4 + 1))))]) [2, 3, 4, 1, 0] rfl ?_
        exact ih _ _ _ _ _ _ h

set_option maxRecDepth 100000 in
set_option maxHeartbeats 4000000 in
theorem t_X8_found {g : zF} (hl0 : g.2.2.2.1.stackTraces = false) {Q : zR × zS → Prop}   {a0 a1 a2 : Int} {σ : zS} (h : zo (f_X8_found  a0 a1 a2 σ) Q) : zw g Y_X8_found R_X8_found 0 [(0, (4, a0)), (1, (0, a1)), (2, (0, a2))] [] σ 0 0 Q := by
  unfold f_X8_found at h
  refine r_aload_n 0 dX8_found_0 rfl ?_
  refine r_getf fd_X8_212 rfl dX8_found_1 h (fun x1 h => ?_)
  refine r_i2l dX8_found_4 ?_
  refine r_lconst dX8_found_5 ?_
  refine r_ldcL (z := 6) wd_1766 (by decide +kernel) dX8_found_6 ?_
  refine r_callS (K' := Y_X8_in) (R' := R_X8_in) (idx := 70) (n := 3) (as := [(1, x1), (1, 1), (1, 6)]) (rest := []) (C' := 0) (D' := 0) rfl k0_X8_in wd_1562 kl_X8_70 ⟨by decide, by decide⟩ dX8_found_9 rfl rfl (Nat.le_of_ble_eq_true rfl) (by decide) (by decide) h (fun r hr => m_X8_in hl0 ⟨r, hr, hr⟩) (fun x2 τ3 _ h => ?_)
  refine r_istore_n (L' := [(3, (0, x2)), (0, (4, a0)), (1, (0, a1)), (2, (0, a2))]) dX8_found_12 (by decide) rfl ?_
  refine r_iconst (v := 0) dX8_found_13 rfl rfl ?_
  refine r_istore (L' := [(4, (0, 0)), (3, (0, x2)), (0, (4, a0)), (1, (0, a1)), (2, (0, a2))]) dX8_found_14 (by decide) rfl ?_
  refine r_weak (L' := [(0, (4, a0)), (1, (0, a1)), (2, (0, a2)), (3, (0, x2)), (4, (0, 0))]) [2, 3, 4, 1, 0] rfl ?_
  exact t_X8_found_16 hl0   zFU _ _ _ _ _ _ h
theorem m_X8_found {g : zF} (hl0 : g.2.2.2.1.stackTraces = false) {Q : zR × zS → Prop} {a0 a1 a2 : Int} {σ : zS} (h : zo (f_X8_found a0 a1 a2 σ) Q) : zm g Y_X8_found R_X8_found [(4, a0), (0, a1), (0, a2)] σ Q := zm_of (by decide) rfl (Nat.le_of_ble_eq_true rfl) (t_X8_found hl0 h)


/- X8_findAgent -/

set_option maxRecDepth 100000 in
set_option maxHeartbeats 4000000 in
theorem t_X8_findAgent {g : zF} (hl0 : g.2.2.2.1.stackTraces = false) {Q : zR × zS → Prop}   {a0 : Int} {σ : zS} (h : zo (f_X8_findAgent  a0 σ) Q) : zw g Y_X8_findAgent R_X8_findAgent 0 [(0, (4, a0))] [] σ 0 0 Q := by
  unfold f_X8_findAgent at h
  refine r_aload_n 0 dX8_findAgent_0 rfl ?_
  refine r_iconst (v := 0) dX8_findAgent_1 rfl rfl ?_
  refine r_putf fd_X8_3 fp_X8_findAgent_3 dX8_findAgent_2 h (fun τ1 h => ?_)
  refine r_aload_n 0 dX8_findAgent_5 rfl ?_
  refine r_bipush (v := 9) dX8_findAgent_6 rfl rfl ?_
  refine r_aload_n 0 dX8_findAgent_8 rfl ?_
  refine r_callV (K' := Y_X8_agents) (R' := R_X8_agents) (idx := 66) (n := 0) (b := a0) (as := []) (rest := [(0, 9), (4, a0)]) (C' := 0) (D' := 0) (cn := 8) rfl k0_X8_agents kV_X8_agents kl_X8_66 ⟨by decide, by decide⟩ dX8_findAgent_9 rfl rfl (Nat.le_of_ble_eq_true rfl) (by decide) (by decide) rfl h (fun r hr => m_X8_agents hl0 ⟨r, hr, hr⟩) (fun x2 τ3 _ h => ?_)
  refine r_callV (K' := Y_X8_found) (R' := R_X8_found) (idx := 349) (n := 2) (b := a0) (as := [(0, 9), (0, x2)]) (rest := []) (C' := 0) (D' := 0) (cn := 8) rfl k0_X8_found kV_X8_found kl_X8_349 ⟨by decide, by decide⟩ dX8_findAgent_12 rfl rfl (Nat.le_of_ble_eq_true rfl) (by decide) (by decide) rfl h (fun r hr => m_X8_found hl0 ⟨r, hr, hr⟩) (fun x4 τ5 _ h => ?_)
  exact r_iret rfl dX8_findAgent_15 h
theorem m_X8_findAgent {g : zF} (hl0 : g.2.2.2.1.stackTraces = false) {Q : zR × zS → Prop} {a0 : Int} {σ : zS} (h : zo (f_X8_findAgent a0 σ) Q) : zm g Y_X8_findAgent R_X8_findAgent [(4, a0)] σ Q := zm_of (by decide) rfl (Nat.le_of_ble_eq_true rfl) (t_X8_findAgent hl0 h)


/- X8_findWay -/

set_option maxRecDepth 100000 in
set_option maxHeartbeats 4000000 in
theorem t_X8_findWay {g : zF} (hl0 : g.2.2.2.1.stackTraces = false) {Q : zR × zS → Prop}   {a0 : Int} {σ : zS} (h : zo (f_X8_findWay  a0 σ) Q) : zw g Y_X8_findWay R_X8_findWay 0 [(0, (4, a0))] [] σ 0 0 Q := by
  unfold f_X8_findWay at h
  refine r_aload_n 0 dX8_findWay_0 rfl ?_
  refine r_iconst (v := 0) dX8_findWay_1 rfl rfl ?_
  refine r_putf fd_X8_3 fp_X8_findWay_3 dX8_findWay_2 h (fun τ1 h => ?_)
  refine r_aload_n 0 dX8_findWay_5 rfl ?_
  refine r_bipush (v := 15) dX8_findWay_6 rfl rfl ?_
  refine r_aload_n 0 dX8_findWay_8 rfl ?_
  refine r_callV (K' := Y_X8_ways) (R' := R_X8_ways) (idx := 74) (n := 0) (b := a0) (as := []) (rest := [(0, 15), (4, a0)]) (C' := 0) (D' := 0) (cn := 8) rfl k0_X8_ways kV_X8_ways kl_X8_74 ⟨by decide, by decide⟩ dX8_findWay_9 rfl rfl (Nat.le_of_ble_eq_true rfl) (by decide) (by decide) rfl h (fun r hr => m_X8_ways hl0 ⟨r, hr, hr⟩) (fun x2 τ3 _ h => ?_)
  refine r_callV (K' := Y_X8_found) (R' := R_X8_found) (idx := 349) (n := 2) (b := a0) (as := [(0, 15), (0, x2)]) (rest := []) (C' := 0) (D' := 0) (cn := 8) rfl k0_X8_found kV_X8_found kl_X8_349 ⟨by decide, by decide⟩ dX8_findWay_12 rfl rfl (Nat.le_of_ble_eq_true rfl) (by decide) (by decide) rfl h (fun r hr => m_X8_found hl0 ⟨r, hr, hr⟩) (fun x4 τ5 _ h => ?_)
  exact r_iret rfl dX8_findWay_15 h
theorem m_X8_findWay {g : zF} (hl0 : g.2.2.2.1.stackTraces = false) {Q : zR × zS → Prop} {a0 : Int} {σ : zS} (h : zo (f_X8_findWay a0 σ) Q) : zm g Y_X8_findWay R_X8_findWay [(4, a0)] σ Q := zm_of (by decide) rfl (Nat.le_of_ble_eq_true rfl) (t_X8_findWay hl0 h)


/- X8_neighborsOf -/

set_option maxRecDepth 100000 in
set_option maxHeartbeats 4000000 in
theorem t_X8_neighborsOf_29 {g : zF} (hl0 : g.2.2.2.1.stackTraces = false) {Q : zR × zS → Prop} (r4 : Int → Int → Int → Int → zS → zFn) (hr4 : ∀ b0 b1 b2 b3 τ, zo (r4 b0 b1 b2 b3 τ) Q → zw g Y_X8_neighborsOf R_X8_neighborsOf 4 [(0, (4, b0)), (1, (0, b1)), (2, (0, b2)), (3, (0, b3))] [] τ 0 0 Q) {a0 a1 a3 s0 s1 : Int} {σ : zS} (h : zo (f_X8_neighborsOf_29 r4 a0 a1 a3 s0 s1 σ) Q) : zw g Y_X8_neighborsOf R_X8_neighborsOf 29 [(0, (4, a0)), (1, (0, a1)), (3, (0, a3))] [(0, s1), (0, s0)] σ 0 0 Q := by
  unfold f_X8_neighborsOf_29 at h
  refine r_ior dX8_neighborsOf_29 ?_
  refine r_istore_n (L' := [(2, (0, (zor s0 s1))), (0, (4, a0)), (1, (0, a1)), (3, (0, a3))]) dX8_neighborsOf_30 (by decide) rfl ?_
  refine r_iinc (L' := [(3, (0, (w32 (a3 + 1)))), (2, (0, (zor s0 s1))), (0, (4, a0)), (1, (0, a1))]) 3 dX8_neighborsOf_31 rfl (by decide) rfl ?_
  refine r_goto 4 dX8_neighborsOf_34 (by decide) ?_
  refine r_weak (L' := [(0, (4, a0)), (1, (0, a1)), (2, (0, (zor s0 s1))), (3, (0, (w32 (a3 + 1))))]) [2, 3, 1, 0] rfl ?_
  exact hr4 _ _ _ _ _ h

set_option maxRecDepth 100000 in
set_option maxHeartbeats 4000000 in
theorem t_X8_neighborsOf_4 {g : zF} (hl0 : g.2.2.2.1.stackTraces = false) {Q : zR × zS → Prop}   : ∀ (n : Nat) (a0 a1 a2 a3 : Int) (σ : zS), zo (f_X8_neighborsOf_4  n a0 a1 a2 a3 σ) Q → zw g Y_X8_neighborsOf R_X8_neighborsOf 4 [(0, (4, a0)), (1, (0, a1)), (2, (0, a2)), (3, (0, a3))] [] σ 0 0 Q := by
  intro n
  induction n with
  | zero => intro a0 a1 a2 a3 σ h; obtain ⟨r, h, -⟩ := h; cases h
  | succ n ih =>
    intro a0 a1 a2 a3 σ h
    unfold f_X8_neighborsOf_4 at h
    refine r_iload_n 3 dX8_neighborsOf_4 rfl ?_
    refine r_aload_n 0 dX8_neighborsOf_5 rfl ?_
    refine r_callV (K' := Y_X8_agents) (R' := R_X8_agents) (idx := 66) (n := 0) (b := a0) (as := []) (rest := [(0, a3)]) (C' := 0) (D' := 0) (cn := 8) rfl k0_X8_agents kV_X8_agents kl_X8_66 ⟨by decide, by decide⟩ dX8_neighborsOf_6 rfl rfl (Nat.le_of_ble_eq_true rfl) (by decide) (by decide) rfl h (fun r hr => m_X8_agents hl0 ⟨r, hr, hr⟩) (fun x1 τ2 _ h => ?_)
    refine r_icmp_ge 37 dX8_neighborsOf_9 (by decide) h (fun h => ?_) (fun h => ?_)
    · refine r_iload_n 2 dX8_neighborsOf_37 rfl ?_
      exact r_iret rfl dX8_neighborsOf_38 h
    · refine r_iload_n 2 dX8_neighborsOf_12 rfl ?_
      refine r_aload_n 0 dX8_neighborsOf_13 rfl ?_
      refine r_iload_n 1 dX8_neighborsOf_14 rfl ?_
      refine r_iload_n 3 dX8_neighborsOf_15 rfl ?_
      refine r_callV (K' := Y_X8_areLinked) (R' := R_X8_areLinked) (idx := 131) (n := 2) (b := a0) (as := [(0, a1), (0, a3)]) (rest := [(0, a2)]) (C' := 0) (D' := 0) (cn := 8) rfl k0_X8_areLinked kV_X8_areLinked kl_X8_131 ⟨by decide, by decide⟩ dX8_neighborsOf_16 rfl rfl (Nat.le_of_ble_eq_true rfl) (by decide) (by decide) rfl h (fun r hr => m_X8_areLinked hl0 ⟨r, hr, hr⟩) (fun x3 τ4 _ h => ?_)
      refine r_if_eq 28 dX8_neighborsOf_19 (by decide) h (fun h => ?_) (fun h => ?_)
      · refine r_iconst (v := 0) dX8_neighborsOf_28 rfl rfl ?_
        refine r_weak (L' := [(0, (4, a0)), (1, (0, a1)), (3, (0, a3))]) [0, 1, 3] rfl ?_
        exact t_X8_neighborsOf_29 hl0 (f_X8_neighborsOf_4  n) (fun b0 b1 b2 b3 τ h => ih b0 b1 b2 b3 τ h) h
      · refine r_iconst (v := 1) dX8_neighborsOf_22 rfl rfl ?_
        refine r_iload_n 3 dX8_neighborsOf_23 rfl ?_
        refine r_ishl dX8_neighborsOf_24 ?_
        refine r_goto 29 dX8_neighborsOf_25 (by decide) ?_
        refine r_weak (L' := [(0, (4, a0)), (1, (0, a1)), (3, (0, a3))]) [0, 1, 3] rfl ?_
        exact t_X8_neighborsOf_29 hl0 (f_X8_neighborsOf_4  n) (fun b0 b1 b2 b3 τ h => ih b0 b1 b2 b3 τ h) h

set_option maxRecDepth 100000 in
set_option maxHeartbeats 4000000 in
theorem t_X8_neighborsOf {g : zF} (hl0 : g.2.2.2.1.stackTraces = false) {Q : zR × zS → Prop}   {a0 a1 : Int} {σ : zS} (h : zo (f_X8_neighborsOf  a0 a1 σ) Q) : zw g Y_X8_neighborsOf R_X8_neighborsOf 0 [(0, (4, a0)), (1, (0, a1))] [] σ 0 0 Q := by
  unfold f_X8_neighborsOf at h
  refine r_iconst (v := 0) dX8_neighborsOf_0 rfl rfl ?_
  refine r_istore_n (L' := [(2, (0, 0)), (0, (4, a0)), (1, (0, a1))]) dX8_neighborsOf_1 (by decide) rfl ?_
  refine r_iconst (v := 0) dX8_neighborsOf_2 rfl rfl ?_
  refine r_istore_n (L' := [(3, (0, 0)), (2, (0, 0)), (0, (4, a0)), (1, (0, a1))]) dX8_neighborsOf_3 (by decide) rfl ?_
  refine r_weak (L' := [(0, (4, a0)), (1, (0, a1)), (2, (0, 0)), (3, (0, 0))]) [2, 3, 1, 0] rfl ?_
  exact t_X8_neighborsOf_4 hl0   zFU _ _ _ _ _ h
theorem m_X8_neighborsOf {g : zF} (hl0 : g.2.2.2.1.stackTraces = false) {Q : zR × zS → Prop} {a0 a1 : Int} {σ : zS} (h : zo (f_X8_neighborsOf a0 a1 σ) Q) : zm g Y_X8_neighborsOf R_X8_neighborsOf [(4, a0), (0, a1)] σ Q := zm_of (by decide) rfl (Nat.le_of_ble_eq_true rfl) (t_X8_neighborsOf hl0 h)


/- X8_bits -/

set_option maxRecDepth 100000 in
set_option maxHeartbeats 4000000 in
theorem t_X8_bits_4 {g : zF} (hl0 : g.2.2.2.1.stackTraces = false) {Q : zR × zS → Prop}   : ∀ (n : Nat) (a0 a1 a2 : Int) (σ : zS), zo (f_X8_bits_4  n a0 a1 a2 σ) Q → zw g Y_X8_bits R_X8_bits 4 [(0, (0, a0)), (1, (0, a1)), (2, (0, a2))] [] σ 0 0 Q := by
  intro n
  induction n with
  | zero => intro a0 a1 a2 σ h; obtain ⟨r, h, -⟩ := h; cases h
  | succ n ih =>
    intro a0 a1 a2 σ h
    unfold f_X8_bits_4 at h
    refine r_iload_n 2 dX8_bits_4 rfl ?_
    refine r_bipush (v := 6) dX8_bits_5 rfl rfl ?_
    refine r_icmp_ge 24 dX8_bits_7 (by decide) h (fun h => ?_) (fun h => ?_)
    · refine r_iload_n 1 dX8_bits_24 rfl ?_
      exact r_iret rfl dX8_bits_25 h
    · refine r_iload_n 1 dX8_bits_10 rfl ?_
      refine r_iload_n 0 dX8_bits_11 rfl ?_
      refine r_iload_n 2 dX8_bits_12 rfl ?_
      refine r_ishr dX8_bits_13 ?_
      refine r_iconst (v := 1) dX8_bits_14 rfl rfl ?_
      refine r_iand dX8_bits_15 ?_
      refine r_iadd dX8_bits_16 ?_
      refine r_istore_n (L' := [(1, (0, (w32 (a1 + (zand (zshr a0 a2) 1))))), (0, (0, a0)), (2, (0, a2))]) dX8_bits_17 (by decide) rfl ?_
      refine r_iinc (L' := [(2, (0, (w32 (a2 + 1)))), (1, (0, (w32 (a1 + (zand (zshr a0 a2) 1))))), (0, (0, a0))]) 2 dX8_bits_18 rfl (by decide) rfl ?_
      refine r_goto 4 dX8_bits_21 (by decide) ?_
      refine r_weak (L' := [(0, (0, a0)), (1, (0, (w32 (a1 + (zand (zshr a0 a2) 1))))), (2, (0, (w32 (a2 + 1))))]) [2, 1, 0] rfl ?_
      exact ih _ _ _ _ h

set_option maxRecDepth 100000 in
set_option maxHeartbeats 4000000 in
theorem t_X8_bits {g : zF} (hl0 : g.2.2.2.1.stackTraces = false) {Q : zR × zS → Prop}   {a0 : Int} {σ : zS} (h : zo (f_X8_bits  a0 σ) Q) : zw g Y_X8_bits R_X8_bits 0 [(0, (0, a0))] [] σ 0 0 Q := by
  unfold f_X8_bits at h
  refine r_iconst (v := 0) dX8_bits_0 rfl rfl ?_
  refine r_istore_n (L' := [(1, (0, 0)), (0, (0, a0))]) dX8_bits_1 (by decide) rfl ?_
  refine r_iconst (v := 0) dX8_bits_2 rfl rfl ?_
  refine r_istore_n (L' := [(2, (0, 0)), (1, (0, 0)), (0, (0, a0))]) dX8_bits_3 (by decide) rfl ?_
  refine r_weak (L' := [(0, (0, a0)), (1, (0, 0)), (2, (0, 0))]) [2, 1, 0] rfl ?_
  exact t_X8_bits_4 hl0   zFU _ _ _ _ h
theorem m_X8_bits {g : zF} (hl0 : g.2.2.2.1.stackTraces = false) {Q : zR × zS → Prop} {a0 : Int} {σ : zS} (h : zo (f_X8_bits a0 σ) Q) : zm g Y_X8_bits R_X8_bits [(0, a0)] σ Q := zm_of (by decide) rfl (Nat.le_of_ble_eq_true rfl) (t_X8_bits hl0 h)


/- X8_links -/

set_option maxRecDepth 100000 in
set_option maxHeartbeats 4000000 in
theorem t_X8_links_4 {g : zF} (hl0 : g.2.2.2.1.stackTraces = false) {Q : zR × zS → Prop}   : ∀ (n : Nat) (a0 a1 a2 : Int) (σ : zS), zo (f_X8_links_4  n a0 a1 a2 σ) Q → zw g Y_X8_links R_X8_links 4 [(0, (4, a0)), (1, (0, a1)), (2, (0, a2))] [] σ 0 0 Q := by
  intro n
  induction n with
  | zero => intro a0 a1 a2 σ h; obtain ⟨r, h, -⟩ := h; cases h
  | succ n ih =>
    intro a0 a1 a2 σ h
    unfold f_X8_links_4 at h
    refine r_iload_n 2 dX8_links_4 rfl ?_
    refine r_aload_n 0 dX8_links_5 rfl ?_
    refine r_callV (K' := Y_X8_agents) (R' := R_X8_agents) (idx := 66) (n := 0) (b := a0) (as := []) (rest := [(0, a2)]) (C' := 0) (D' := 0) (cn := 8) rfl k0_X8_agents kV_X8_agents kl_X8_66 ⟨by decide, by decide⟩ dX8_links_6 rfl rfl (Nat.le_of_ble_eq_true rfl) (by decide) (by decide) rfl h (fun r hr => m_X8_agents hl0 ⟨r, hr, hr⟩) (fun x1 τ2 _ h => ?_)
    refine r_icmp_ge 29 dX8_links_9 (by decide) h (fun h => ?_) (fun h => ?_)
    · refine r_iload_n 1 dX8_links_29 rfl ?_
      refine r_iconst (v := 2) dX8_links_30 rfl rfl ?_
      refine r_idiv dX8_links_31 h (fun h => ?_)
      exact r_iret rfl dX8_links_32 h
    · refine r_iload_n 1 dX8_links_12 rfl ?_
      refine r_aload_n 0 dX8_links_13 rfl ?_
      refine r_iload_n 2 dX8_links_14 rfl ?_
      refine r_callV (K' := Y_X8_neighborsOf) (R' := R_X8_neighborsOf) (idx := 352) (n := 1) (b := a0) (as := [(0, a2)]) (rest := [(0, a1)]) (C' := 0) (D' := 0) (cn := 8) rfl k0_X8_neighborsOf kV_X8_neighborsOf kl_X8_352 ⟨by decide, by decide⟩ dX8_links_15 rfl rfl (Nat.le_of_ble_eq_true rfl) (by decide) (by decide) rfl h (fun r hr => m_X8_neighborsOf hl0 ⟨r, hr, hr⟩) (fun x3 τ4 _ h => ?_)
      refine r_callS (K' := Y_X8_bits) (R' := R_X8_bits) (idx := 355) (n := 1) (as := [(0, x3)]) (rest := [(0, a1)]) (C' := 0) (D' := 0) rfl k0_X8_bits wd_1793 kl_X8_355 ⟨by decide, by decide⟩ dX8_links_18 rfl rfl (Nat.le_of_ble_eq_true rfl) (by decide) (by decide) h (fun r hr => m_X8_bits hl0 ⟨r, hr, hr⟩) (fun x5 τ6 _ h => ?_)
      refine r_iadd dX8_links_21 ?_
      refine r_istore_n (L' := [(1, (0, (w32 (a1 + x5)))), (0, (4, a0)), (2, (0, a2))]) dX8_links_22 (by decide) rfl ?_
      refine r_iinc (L' := [(2, (0, (w32 (a2 + 1)))), (1, (0, (w32 (a1 + x5)))), (0, (4, a0))]) 2 dX8_links_23 rfl (by decide) rfl ?_
      refine r_goto 4 dX8_links_26 (by decide) ?_
      refine r_weak (L' := [(0, (4, a0)), (1, (0, (w32 (a1 + x5)))), (2, (0, (w32 (a2 + 1))))]) [2, 1, 0] rfl ?_
      exact ih _ _ _ _ h

set_option maxRecDepth 100000 in
set_option maxHeartbeats 4000000 in
theorem t_X8_links {g : zF} (hl0 : g.2.2.2.1.stackTraces = false) {Q : zR × zS → Prop}   {a0 : Int} {σ : zS} (h : zo (f_X8_links  a0 σ) Q) : zw g Y_X8_links R_X8_links 0 [(0, (4, a0))] [] σ 0 0 Q := by
  unfold f_X8_links at h
  refine r_iconst (v := 0) dX8_links_0 rfl rfl ?_
  refine r_istore_n (L' := [(1, (0, 0)), (0, (4, a0))]) dX8_links_1 (by decide) rfl ?_
  refine r_iconst (v := 0) dX8_links_2 rfl rfl ?_
  refine r_istore_n (L' := [(2, (0, 0)), (1, (0, 0)), (0, (4, a0))]) dX8_links_3 (by decide) rfl ?_
  refine r_weak (L' := [(0, (4, a0)), (1, (0, 0)), (2, (0, 0))]) [2, 1, 0] rfl ?_
  exact t_X8_links_4 hl0   zFU _ _ _ _ h
theorem m_X8_links {g : zF} (hl0 : g.2.2.2.1.stackTraces = false) {Q : zR × zS → Prop} {a0 : Int} {σ : zS} (h : zo (f_X8_links a0 σ) Q) : zm g Y_X8_links R_X8_links [(4, a0)] σ Q := zm_of (by decide) rfl (Nat.le_of_ble_eq_true rfl) (t_X8_links hl0 h)

