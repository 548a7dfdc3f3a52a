/- X7_message -/

set_option maxRecDepth 100000 in
set_option maxHeartbeats 4000000 in
theorem t_X7_message {g : zF} (hl0 : g.2.2.2.1.stackTraces = false) {Q : zR × zS → Prop}   {a0 a1 a2 : Int} {σ : zS} (h : zo (f_X7_message  a0 a1 a2 σ) Q) : zw g Y_X7_message R_X7_message 0 [(0, (4, a0)), (1, (0, a1)), (2, (0, a2))] [] σ 2 12 Q := by
  unfold f_X7_message at h
  refine r_iload_n 2 dX7_message_0 rfl ?_
  refine r_iconst (v := 0) dX7_message_1 rfl rfl ?_
  refine r_iconst (v := 5) dX7_message_2 rfl rfl ?_
  refine r_callS (K' := Y_X7_checkRange) (R' := R_X7_checkRange) (idx := 72) (n := 3) (as := [(0, a2), (0, 0), (0, 5)]) (rest := []) (C' := 1) (D' := 6) rfl k0_X7_checkRange wd_801 kl_X7_72 ⟨by decide, by decide⟩ dX7_message_3 rfl rfl (Nat.le_of_ble_eq_true rfl) (by decide) (by decide) h (fun r hr => m_X7_checkRange hl0 ⟨r, hr, hr⟩) (fun _ τ2 _ h => ?_)
  refine r_iload_n 1 dX7_message_6 rfl ?_
  refine r_if_lt 24 dX7_message_7 (by decide) h (fun h => ?_) (fun h => ?_)
  · exact r_throwX hl0 rfl (thX_X7_219_221_223 _ rfl) dX7_message_24 dX7_message_27 dX7_message_28 dX7_message_30 dX7_message_33 (by decide) (Nat.le_of_ble_eq_true rfl) (by decide) (by decide) h
  · refine r_iload_n 1 dX7_message_10 rfl ?_
    refine r_aload_n 0 dX7_message_11 rfl ?_
    refine r_getr fd_X7_31 rfl dX7_message_12 h (fun x3 h => ?_)
    refine r_getr fd_X7_112 rfl dX7_message_15 h (fun x4 h => ?_)
    refine r_getf fd_X7_116 rfl dX7_message_18 h (fun x5 h => ?_)
    refine r_icmp_lt 34 dX7_message_21 (by decide) h (fun h => ?_) (fun h => ?_)
    · refine r_room (C' := 0) (D' := 0) (by omega) (by omega) ?_
      refine r_iload_n 2 dX7_message_34 rfl ?_
      refine r_switch [68, 81, 95, 108, 121] 134 dX7_message_35 (by decide) (by decide) (by decide) (by decide) h (fun h => ?_) ⟨fun h => ?_, fun h => ?_, fun h => ?_, fun h => ?_, fun h => ?_, trivial⟩
      · refine r_aload_n 0 dX7_message_134 rfl ?_
        refine r_getr fd_X7_31 rfl dX7_message_135 h (fun x6 h => ?_)
        refine r_iload_n 1 dX7_message_138 rfl ?_
        refine r_callV (K' := Y_X1_reasonToRefuse) (R' := R_X1_reasonToRefuse) (idx := 224) (n := 1) (b := x6) (as := [(0, a1)]) (rest := []) (C' := 0) (D' := 0) (cn := 1) rfl k0_X1_reasonToRefuse kV_X1_reasonToRefuse kl_X7_224 ⟨by decide, by decide⟩ dX7_message_139 rfl rfl (Nat.le_of_ble_eq_true rfl) (by decide) (by decide) rfl h (fun r hr => m_X1_reasonToRefuse hl0 ⟨r, hr, hr⟩) (fun x7 τ8 _ h => ?_)
        exact r_iret rfl dX7_message_142 h
      · refine r_aload_n 0 dX7_message_68 rfl ?_
        refine r_getr fd_X7_31 rfl dX7_message_69 h (fun x9 h => ?_)
        refine r_getr fd_X7_112 rfl dX7_message_72 h (fun x10 h => ?_)
        refine r_iload_n 1 dX7_message_75 rfl ?_
        refine r_iconst (v := 1) dX7_message_76 rfl rfl ?_
        refine r_callV (K' := Y_X5_get) (R' := R_X5_get) (idx := 152) (n := 2) (b := x10) (as := [(0, a1), (0, 1)]) (rest := []) (C' := 0) (D' := 0) (cn := 5) rfl k0_X5_get kV_X5_get kl_X7_152 ⟨by decide, by decide⟩ dX7_message_77 rfl rfl (Nat.le_of_ble_eq_true rfl) (by decide) (by decide) rfl h (fun r hr => m_X5_get hl0 ⟨r, hr, hr⟩) (fun x11 τ12 _ h => ?_)
        exact r_iret rfl dX7_message_80 h
      · refine r_aload_n 0 dX7_message_81 rfl ?_
        refine r_getr fd_X7_31 rfl dX7_message_82 h (fun x13 h => ?_)
        refine r_getr fd_X7_112 rfl dX7_message_85 h (fun x14 h => ?_)
        refine r_iload_n 1 dX7_message_88 rfl ?_
        refine r_bipush (v := 7) dX7_message_89 rfl rfl ?_
        refine r_callV (K' := Y_X5_get) (R' := R_X5_get) (idx := 152) (n := 2) (b := x14) (as := [(0, a1), (0, 7)]) (rest := []) (C' := 0) (D' := 0) (cn := 5) rfl k0_X5_get kV_X5_get kl_X7_152 ⟨by decide, by decide⟩ dX7_message_91 rfl rfl (Nat.le_of_ble_eq_true rfl) (by decide) (by decide) rfl h (fun r hr => m_X5_get hl0 ⟨r, hr, hr⟩) (fun x15 τ16 _ h => ?_)
        exact r_iret rfl dX7_message_94 h
      · refine r_aload_n 0 dX7_message_95 rfl ?_
        refine r_getr fd_X7_31 rfl dX7_message_96 h (fun x17 h => ?_)
        refine r_getr fd_X7_112 rfl dX7_message_99 h (fun x18 h => ?_)
        refine r_iload_n 1 dX7_message_102 rfl ?_
        refine r_iconst (v := 0) dX7_message_103 rfl rfl ?_
        refine r_callV (K' := Y_X5_get) (R' := R_X5_get) (idx := 152) (n := 2) (b := x18) (as := [(0, a1), (0, 0)]) (rest := []) (C' := 0) (D' := 0) (cn := 5) rfl k0_X5_get kV_X5_get kl_X7_152 ⟨by decide, by decide⟩ dX7_message_104 rfl rfl (Nat.le_of_ble_eq_true rfl) (by decide) (by decide) rfl h (fun r hr => m_X5_get hl0 ⟨r, hr, hr⟩) (fun x19 τ20 _ h => ?_)
        exact r_iret rfl dX7_message_107 h
      · refine r_aload_n 0 dX7_message_108 rfl ?_
        refine r_getr fd_X7_31 rfl dX7_message_109 h (fun x21 h => ?_)
        refine r_getr fd_X7_112 rfl dX7_message_112 h (fun x22 h => ?_)
        refine r_iload_n 1 dX7_message_115 rfl ?_
        refine r_iconst (v := 2) dX7_message_116 rfl rfl ?_
        refine r_callV (K' := Y_X5_get) (R' := R_X5_get) (idx := 152) (n := 2) (b := x22) (as := [(0, a1), (0, 2)]) (rest := []) (C' := 0) (D' := 0) (cn := 5) rfl k0_X5_get kV_X5_get kl_X7_152 ⟨by decide, by decide⟩ dX7_message_117 rfl rfl (Nat.le_of_ble_eq_true rfl) (by decide) (by decide) rfl h (fun r hr => m_X5_get hl0 ⟨r, hr, hr⟩) (fun x23 τ24 _ h => ?_)
        exact r_iret rfl dX7_message_120 h
      · refine r_aload_n 0 dX7_message_121 rfl ?_
        refine r_getr fd_X7_31 rfl dX7_message_122 h (fun x25 h => ?_)
        refine r_getr fd_X7_112 rfl dX7_message_125 h (fun x26 h => ?_)
        refine r_iload_n 1 dX7_message_128 rfl ?_
        refine r_iconst (v := 3) dX7_message_129 rfl rfl ?_
        refine r_callV (K' := Y_X5_get) (R' := R_X5_get) (idx := 152) (n := 2) (b := x26) (as := [(0, a1), (0, 3)]) (rest := []) (C' := 0) (D' := 0) (cn := 5) rfl k0_X5_get kV_X5_get kl_X7_152 ⟨by decide, by decide⟩ dX7_message_130 rfl rfl (Nat.le_of_ble_eq_true rfl) (by decide) (by decide) rfl h (fun r hr => m_X5_get hl0 ⟨r, hr, hr⟩) (fun x27 τ28 _ h => ?_)
        exact r_iret rfl dX7_message_133 h
    · exact r_throwX hl0 rfl (thX_X7_219_221_223 _ rfl) dX7_message_24 dX7_message_27 dX7_message_28 dX7_message_30 dX7_message_33 (by decide) (Nat.le_of_ble_eq_true rfl) (by decide) (by decide) h
theorem m_X7_message {g : zF} (hl0 : g.2.2.2.1.stackTraces = false) {Q : zR × zS → Prop} {a0 a1 a2 : Int} {σ : zS} (h : zo (f_X7_message a0 a1 a2 σ) Q) : zm g Y_X7_message R_X7_message [(4, a0), (0, a1), (0, a2)] σ Q := zm_of (by decide) rfl (Nat.le_of_ble_eq_true rfl) (t_X7_message hl0 h)

