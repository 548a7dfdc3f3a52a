/- L_act -/

set_option maxRecDepth 100000 in
set_option maxHeartbeats 4000000 in
theorem t_L_act_228 {g : zF} (hl0 : g.2.2.2.1.stackTraces = false) {Q : zR × zS → Prop}   {s0 s1 s2 s3 : Int} {σ : zS} (h : zo (f_L_act_228 g  s0 s1 s2 s3 σ) Q) : zw g Y_L_act R_L_act 228 [] [(0, s3), (0, s2), (0, s1), (4, s0)] σ 27 7320 Q := by
  unfold f_L_act_228 at h
  refine r_callV (K' := Y_X7_link) (R' := R_X7_link) (idx := 124) (n := 3) (b := s0) (as := [(0, s1), (0, s2), (0, s3)]) (rest := []) (C' := 0) (D' := 0) (cn := 7) rfl k0_X7_link kV_X7_link kl_L_124 ⟨by decide, by decide⟩ dL_act_228 rfl rfl (Nat.le_of_ble_eq_true rfl) (by decide) (by decide) rfl h (fun r hr => m_X7_link hl0 ⟨r, hr, hr⟩) (fun x1 τ2 _ h => ?_)
  refine r_if_eq 238 dL_act_231 (by decide) h (fun h => ?_) (fun h => ?_)
  · refine r_iconst (v := 0) dL_act_238 rfl rfl ?_
    exact r_iret rfl dL_act_239 h
  · refine r_iconst (v := 1) dL_act_234 rfl rfl ?_
    refine r_goto 239 dL_act_235 (by decide) ?_
    exact r_iret rfl dL_act_239 h

set_option maxRecDepth 100000 in
set_option maxHeartbeats 4000000 in
theorem t_L_act {g : zF} (hl0 : g.2.2.2.1.stackTraces = false) {Q : zR × zS → Prop}   {a0 a1 a2 : Int} {σ : zS} (h : zo (f_L_act g  a0 a1 a2 σ) Q) : zw g Y_L_act R_L_act 0 [(0, (4, a0)), (1, (6, a1)), (2, (0, a2))] [] σ 27 7320 Q := by
  unfold f_L_act at h
  refine r_aload_n 0 dL_act_0 rfl ?_
  refine r_iconst (v := 0) dL_act_1 rfl rfl ?_
  refine r_callV (K' := Y_X7_property) (R' := R_X7_property) (idx := 104) (n := 1) (b := a0) (as := [(0, 0)]) (rest := []) (C' := 27) (D' := 7320) (cn := 7) rfl k0_X7_property kV_X7_property kl_L_104 ⟨by decide, by decide⟩ dL_act_2 rfl rfl (Nat.le_of_ble_eq_true rfl) (by decide) (by decide) rfl h (fun r hr => m_X7_property hl0 ⟨r, hr, hr⟩) (fun x1 τ2 _ h => ?_)
  refine r_if_eq 16 dL_act_5 (by decide) h (fun h => ?_) (fun h => ?_)
  · refine r_room (C' := 0) (D' := 0) (by omega) (by omega) ?_
    refine r_iconst (v := 0) dL_act_16 rfl rfl ?_
    exact r_iret rfl dL_act_17 h
  · refine r_aload_n 0 dL_act_8 rfl ?_
    refine r_iconst (v := 1) dL_act_9 rfl rfl ?_
    refine r_callV (K' := Y_X7_property) (R' := R_X7_property) (idx := 104) (n := 1) (b := a0) (as := [(0, 1)]) (rest := []) (C' := 27) (D' := 7320) (cn := 7) rfl k0_X7_property kV_X7_property kl_L_104 ⟨by decide, by decide⟩ dL_act_10 rfl rfl (Nat.le_of_ble_eq_true rfl) (by decide) (by decide) rfl h (fun r hr => m_X7_property hl0 ⟨r, hr, hr⟩) (fun x3 τ4 _ h => ?_)
    refine r_if_ne 18 dL_act_13 (by decide) h (fun h => ?_) (fun h => ?_)
    · refine r_aload_n 1 dL_act_18 rfl ?_
      refine r_iload_n 2 dL_act_19 rfl ?_
      refine r_aload_n 0 dL_act_20 rfl ?_
      refine r_iconst (v := 0) dL_act_21 rfl rfl ?_
      refine r_callV (K' := Y_X7_property) (R' := R_X7_property) (idx := 104) (n := 1) (b := a0) (as := [(0, 0)]) (rest := [(0, a2), (6, a1)]) (C' := 27) (D' := 7320) (cn := 7) rfl k0_X7_property kV_X7_property kl_L_104 ⟨by decide, by decide⟩ dL_act_22 rfl rfl (Nat.le_of_ble_eq_true rfl) (by decide) (by decide) rfl h (fun r hr => m_X7_property hl0 ⟨r, hr, hr⟩) (fun x5 τ6 _ h => ?_)
      refine r_callS (K' := Y_L_draw) (R' := R_L_draw) (idx := 40) (n := 3) (as := [(6, a1), (0, a2), (0, x5)]) (rest := []) (C' := 27) (D' := 7320) rfl k0_L_draw wd_333 kl_L_40 ⟨by decide, by decide⟩ dL_act_25 rfl rfl (Nat.le_of_ble_eq_true rfl) (by decide) (by decide) h (fun r hr => m_L_draw hl0 ⟨r, hr, hr⟩) (fun x7 τ8 _ h => ?_)
      refine r_istore_n (L' := [(3, (0, x7)), (0, (4, a0)), (1, (6, a1)), (2, (0, a2))]) dL_act_28 (by decide) rfl ?_
      refine r_aload_n 2 dL_act_29 rfl ?_
      refine r_iload_n 3 dL_act_30 rfl ?_
      refine r_iconst (v := 1) dL_act_31 rfl rfl ?_
      refine r_iadd dL_act_32 ?_
      refine r_aload_n 1 dL_act_33 rfl ?_
      refine r_iconst (v := 0) dL_act_34 rfl rfl ?_
      refine r_callV (K' := Y_X7_property) (R' := R_X7_property) (idx := 104) (n := 1) (b := a0) (as := [(0, 0)]) (rest := [(0, (w32 (a2 + 1))), (6, a1)]) (C' := 27) (D' := 7320) (cn := 7) rfl k0_X7_property kV_X7_property kl_L_104 ⟨by decide, by decide⟩ dL_act_35 rfl rfl (Nat.le_of_ble_eq_true rfl) (by decide) (by decide) rfl h (fun r hr => m_X7_property hl0 ⟨r, hr, hr⟩) (fun x9 τ10 _ h => ?_)
      refine r_callS (K' := Y_L_draw) (R' := R_L_draw) (idx := 40) (n := 3) (as := [(6, a1), (0, (w32 (a2 + 1))), (0, x9)]) (rest := []) (C' := 27) (D' := 7320) rfl k0_L_draw wd_333 kl_L_40 ⟨by decide, by decide⟩ dL_act_38 rfl rfl (Nat.le_of_ble_eq_true rfl) (by decide) (by decide) h (fun r hr => m_L_draw hl0 ⟨r, hr, hr⟩) (fun x11 τ12 _ h => ?_)
      refine r_istore (L' := [(4, (0, x11)), (3, (0, x7)), (0, (4, a0)), (1, (6, a1)), (2, (0, a2))]) dL_act_41 (by decide) rfl ?_
      refine r_aload_n 3 dL_act_43 rfl ?_
      refine r_iload_n 4 dL_act_44 rfl ?_
      refine r_iconst (v := 2) dL_act_45 rfl rfl ?_
      refine r_iadd dL_act_46 ?_
      refine r_aload_n 2 dL_act_47 rfl ?_
      refine r_iconst (v := 1) dL_act_48 rfl rfl ?_
      refine r_callV (K' := Y_X7_property) (R' := R_X7_property) (idx := 104) (n := 1) (b := a0) (as := [(0, 1)]) (rest := [(0, (w32 (a2 + 2))), (6, a1)]) (C' := 27) (D' := 7320) (cn := 7) rfl k0_X7_property kV_X7_property kl_L_104 ⟨by decide, by decide⟩ dL_act_49 rfl rfl (Nat.le_of_ble_eq_true rfl) (by decide) (by decide) rfl h (fun r hr => m_X7_property hl0 ⟨r, hr, hr⟩) (fun x13 τ14 _ h => ?_)
      refine r_callS (K' := Y_L_draw) (R' := R_L_draw) (idx := 40) (n := 3) (as := [(6, a1), (0, (w32 (a2 + 2))), (0, x13)]) (rest := []) (C' := 27) (D' := 7320) rfl k0_L_draw wd_333 kl_L_40 ⟨by decide, by decide⟩ dL_act_52 rfl rfl (Nat.le_of_ble_eq_true rfl) (by decide) (by decide) h (fun r hr => m_L_draw hl0 ⟨r, hr, hr⟩) (fun x15 τ16 _ h => ?_)
      refine r_istore (L' := [(5, (0, x15)), (4, (0, x11)), (3, (0, x7)), (0, (4, a0)), (1, (6, a1)), (2, (0, a2))]) dL_act_55 (by decide) rfl ?_
      refine r_aload_n 4 dL_act_57 rfl ?_
      refine r_iload_n 5 dL_act_58 rfl ?_
      refine r_iconst (v := 3) dL_act_59 rfl rfl ?_
      refine r_iadd dL_act_60 ?_
      refine r_sipush (v := 300) dL_act_61 rfl rfl ?_
      refine r_callS (K' := Y_L_draw) (R' := R_L_draw) (idx := 40) (n := 3) (as := [(6, a1), (0, (w32 (a2 + 3))), (0, 300)]) (rest := []) (C' := 27) (D' := 7320) rfl k0_L_draw wd_333 kl_L_40 ⟨by decide, by decide⟩ dL_act_64 rfl rfl (Nat.le_of_ble_eq_true rfl) (by decide) (by decide) h (fun r hr => m_L_draw hl0 ⟨r, hr, hr⟩) (fun x17 τ18 _ h => ?_)
      refine r_istore (L' := [(6, (0, x17)), (5, (0, x15)), (4, (0, x11)), (3, (0, x7)), (0, (4, a0)), (1, (6, a1)), (2, (0, a2))]) dL_act_67 (by decide) rfl ?_
      refine r_aload_n 5 dL_act_69 rfl ?_
      refine r_iload_n 6 dL_act_70 rfl ?_
      refine r_iconst (v := 4) dL_act_71 rfl rfl ?_
      refine r_iadd dL_act_72 ?_
      refine r_bipush (v := 12) dL_act_73 rfl rfl ?_
      refine r_callS (K' := Y_L_draw) (R' := R_L_draw) (idx := 40) (n := 3) (as := [(6, a1), (0, (w32 (a2 + 4))), (0, 12)]) (rest := []) (C' := 27) (D' := 7320) rfl k0_L_draw wd_333 kl_L_40 ⟨by decide, by decide⟩ dL_act_75 rfl rfl (Nat.le_of_ble_eq_true rfl) (by decide) (by decide) h (fun r hr => m_L_draw hl0 ⟨r, hr, hr⟩) (fun x19 τ20 _ h => ?_)
      refine r_switch [136, 136, 158, 164, 170, 170, 186, 202, 240, 259, 274] 280 dL_act_78 (by decide) (by decide) (by decide) (by decide) h (fun h => ?_) ⟨fun h => ?_, fun h => ?_, fun h => ?_, fun h => ?_, fun h => ?_, fun h => ?_, fun h => ?_, fun h => ?_, fun h => ?_, fun h => ?_, fun h => ?_, trivial⟩
      · refine r_iload 0 dL_act_280 rfl ?_
        refine r_iconst (v := 4) dL_act_282 rfl rfl ?_
        refine r_irem dL_act_283 h (fun h => ?_)
        refine r_if_ne 297 dL_act_284 (by decide) h (fun h => ?_) (fun h => ?_)
        · refine r_aload_n 4 dL_act_297 rfl ?_
          refine r_iload 2 dL_act_298 rfl ?_
          refine r_callV (K' := Y_X7_share) (R' := R_X7_share) (idx := 112) (n := 1) (b := a0) (as := [(0, x11)]) (rest := []) (C' := 0) (D' := 0) (cn := 7) rfl k0_X7_share kV_X7_share kl_L_112 ⟨by decide, by decide⟩ dL_act_300 rfl rfl (Nat.le_of_ble_eq_true rfl) (by decide) (by decide) rfl h (fun r hr => m_X7_share hl0 ⟨r, hr, hr⟩) (fun x21 τ22 _ h => ?_)
          exact r_iret rfl dL_act_303 h
        · refine r_aload_n 4 dL_act_287 rfl ?_
          refine r_iload_n 3 dL_act_288 rfl ?_
          refine r_iload 1 dL_act_289 rfl ?_
          refine r_callV (K' := Y_X7_forget) (R' := R_X7_forget) (idx := 137) (n := 2) (b := a0) (as := [(0, x7), (0, x15)]) (rest := []) (C' := 0) (D' := 0) (cn := 7) rfl k0_X7_forget kV_X7_forget kl_L_137 ⟨by decide, by decide⟩ dL_act_291 rfl rfl (Nat.le_of_ble_eq_true rfl) (by decide) (by decide) rfl h (fun r hr => m_X7_forget hl0 ⟨r, hr, hr⟩) (fun x23 τ24 _ h => ?_)
          refine r_goto 303 dL_act_294 (by decide) ?_
          exact r_iret rfl dL_act_303 h
      · refine r_aload_n 4 dL_act_136 rfl ?_
        refine r_iload_n 3 dL_act_137 rfl ?_
        refine r_iload 1 dL_act_138 rfl ?_
        refine r_iload 0 dL_act_140 rfl ?_
        refine r_iload 0 dL_act_142 rfl ?_
        refine r_aload_n 5 dL_act_144 rfl ?_
        refine r_iload_n 6 dL_act_145 rfl ?_
        refine r_iconst (v := 5) dL_act_146 rfl rfl ?_
        refine r_iadd dL_act_147 ?_
        refine r_bipush (v := 120) dL_act_148 rfl rfl ?_
        refine r_callS (K' := Y_L_draw) (R' := R_L_draw) (idx := 40) (n := 3) (as := [(6, a1), (0, (w32 (a2 + 5))), (0, 120)]) (rest := [(0, x17), (0, x17), (0, x15), (0, x7), (4, a0)]) (C' := 27) (D' := 7320) rfl k0_L_draw wd_333 kl_L_40 ⟨by decide, by decide⟩ dL_act_150 rfl rfl (Nat.le_of_ble_eq_true rfl) (by decide) (by decide) h (fun r hr => m_L_draw hl0 ⟨r, hr, hr⟩) (fun x25 τ26 _ h => ?_)
        refine r_iadd dL_act_153 ?_
        refine r_callV (K' := Y_X7_probe) (R' := R_X7_probe) (idx := 108) (n := 4) (b := a0) (as := [(0, x7), (0, x15), (0, x17), (0, (w32 (x17 + x25)))]) (rest := []) (C' := 0) (D' := 0) (cn := 7) rfl k0_X7_probe kV_X7_probe kl_L_108 ⟨by decide, by decide⟩ dL_act_154 rfl rfl (Nat.le_of_ble_eq_true rfl) (by decide) (by decide) rfl h (fun r hr => m_X7_probe hl0 ⟨r, hr, hr⟩) (fun x27 τ28 _ h => ?_)
        exact r_iret rfl dL_act_157 h
      · refine r_aload_n 4 dL_act_136 rfl ?_
        refine r_iload_n 3 dL_act_137 rfl ?_
        refine r_iload 1 dL_act_138 rfl ?_
        refine r_iload 0 dL_act_140 rfl ?_
        refine r_iload 0 dL_act_142 rfl ?_
        refine r_aload_n 5 dL_act_144 rfl ?_
        refine r_iload_n 6 dL_act_145 rfl ?_
        refine r_iconst (v := 5) dL_act_146 rfl rfl ?_
        refine r_iadd dL_act_147 ?_
        refine r_bipush (v := 120) dL_act_148 rfl rfl ?_
        refine r_callS (K' := Y_L_draw) (R' := R_L_draw) (idx := 40) (n := 3) (as := [(6, a1), (0, (w32 (a2 + 5))), (0, 120)]) (rest := [(0, x17), (0, x17), (0, x15), (0, x7), (4, a0)]) (C' := 27) (D' := 7320) rfl k0_L_draw wd_333 kl_L_40 ⟨by decide, by decide⟩ dL_act_150 rfl rfl (Nat.le_of_ble_eq_true rfl) (by decide) (by decide) h (fun r hr => m_L_draw hl0 ⟨r, hr, hr⟩) (fun x29 τ30 _ h => ?_)
        refine r_iadd dL_act_153 ?_
        refine r_callV (K' := Y_X7_probe) (R' := R_X7_probe) (idx := 108) (n := 4) (b := a0) (as := [(0, x7), (0, x15), (0, x17), (0, (w32 (x17 + x29)))]) (rest := []) (C' := 0) (D' := 0) (cn := 7) rfl k0_X7_probe kV_X7_probe kl_L_108 ⟨by decide, by decide⟩ dL_act_154 rfl rfl (Nat.le_of_ble_eq_true rfl) (by decide) (by decide) rfl h (fun r hr => m_X7_probe hl0 ⟨r, hr, hr⟩) (fun x31 τ32 _ h => ?_)
        exact r_iret rfl dL_act_157 h
      · refine r_aload_n 4 dL_act_158 rfl ?_
        refine r_iload_n 3 dL_act_159 rfl ?_
        refine r_callV (K' := Y_X7_share) (R' := R_X7_share) (idx := 112) (n := 1) (b := a0) (as := [(0, x7)]) (rest := []) (C' := 0) (D' := 0) (cn := 7) rfl k0_X7_share kV_X7_share kl_L_112 ⟨by decide, by decide⟩ dL_act_160 rfl rfl (Nat.le_of_ble_eq_true rfl) (by decide) (by decide) rfl h (fun r hr => m_X7_share hl0 ⟨r, hr, hr⟩) (fun x33 τ34 _ h => ?_)
        exact r_iret rfl dL_act_163 h
      · refine r_aload_n 4 dL_act_164 rfl ?_
        refine r_iload_n 3 dL_act_165 rfl ?_
        refine r_callV (K' := Y_X7_relay) (R' := R_X7_relay) (idx := 115) (n := 1) (b := a0) (as := [(0, x7)]) (rest := []) (C' := 0) (D' := 0) (cn := 7) rfl k0_X7_relay kV_X7_relay kl_L_115 ⟨by decide, by decide⟩ dL_act_166 rfl rfl (Nat.le_of_ble_eq_true rfl) (by decide) (by decide) rfl h (fun r hr => m_X7_relay hl0 ⟨r, hr, hr⟩) (fun x35 τ36 _ h => ?_)
        exact r_iret rfl dL_act_169 h
      · refine r_aload_n 4 dL_act_170 rfl ?_
        refine r_iconst (v := 1) dL_act_171 rfl rfl ?_
        refine r_aload_n 5 dL_act_172 rfl ?_
        refine r_iload_n 6 dL_act_173 rfl ?_
        refine r_iconst (v := 5) dL_act_174 rfl rfl ?_
        refine r_iadd dL_act_175 ?_
        refine r_bipush (v := 9) dL_act_176 rfl rfl ?_
        refine r_callS (K' := Y_L_draw) (R' := R_L_draw) (idx := 40) (n := 3) (as := [(6, a1), (0, (w32 (a2 + 5))), (0, 9)]) (rest := [(0, 1), (4, a0)]) (C' := 27) (D' := 7320) rfl k0_L_draw wd_333 kl_L_40 ⟨by decide, by decide⟩ dL_act_178 rfl rfl (Nat.le_of_ble_eq_true rfl) (by decide) (by decide) h (fun r hr => m_L_draw hl0 ⟨r, hr, hr⟩) (fun x37 τ38 _ h => ?_)
        refine r_iadd dL_act_181 ?_
        refine r_callV (K' := Y_X7_deliver) (R' := R_X7_deliver) (idx := 118) (n := 1) (b := a0) (as := [(0, (w32 (1 + x37)))]) (rest := []) (C' := 0) (D' := 0) (cn := 7) rfl k0_X7_deliver kV_X7_deliver kl_L_118 ⟨by decide, by decide⟩ dL_act_182 rfl rfl (Nat.le_of_ble_eq_true rfl) (by decide) (by decide) rfl h (fun r hr => m_X7_deliver hl0 ⟨r, hr, hr⟩) (fun x39 τ40 _ h => ?_)
        exact r_iret rfl dL_act_185 h
      · refine r_aload_n 4 dL_act_170 rfl ?_
        refine r_iconst (v := 1) dL_act_171 rfl rfl ?_
        refine r_aload_n 5 dL_act_172 rfl ?_
        refine r_iload_n 6 dL_act_173 rfl ?_
        refine r_iconst (v := 5) dL_act_174 rfl rfl ?_
        refine r_iadd dL_act_175 ?_
        refine r_bipush (v := 9) dL_act_176 rfl rfl ?_
        refine r_callS (K' := Y_L_draw) (R' := R_L_draw) (idx := 40) (n := 3) (as := [(6, a1), (0, (w32 (a2 + 5))), (0, 9)]) (rest := [(0, 1), (4, a0)]) (C' := 27) (D' := 7320) rfl k0_L_draw wd_333 kl_L_40 ⟨by decide, by decide⟩ dL_act_178 rfl rfl (Nat.le_of_ble_eq_true rfl) (by decide) (by decide) h (fun r hr => m_L_draw hl0 ⟨r, hr, hr⟩) (fun x41 τ42 _ h => ?_)
        refine r_iadd dL_act_181 ?_
        refine r_callV (K' := Y_X7_deliver) (R' := R_X7_deliver) (idx := 118) (n := 1) (b := a0) (as := [(0, (w32 (1 + x41)))]) (rest := []) (C' := 0) (D' := 0) (cn := 7) rfl k0_X7_deliver kV_X7_deliver kl_L_118 ⟨by decide, by decide⟩ dL_act_182 rfl rfl (Nat.le_of_ble_eq_true rfl) (by decide) (by decide) rfl h (fun r hr => m_X7_deliver hl0 ⟨r, hr, hr⟩) (fun x43 τ44 _ h => ?_)
        exact r_iret rfl dL_act_185 h
      · refine r_aload_n 4 dL_act_186 rfl ?_
        refine r_iconst (v := 1) dL_act_187 rfl rfl ?_
        refine r_aload_n 5 dL_act_188 rfl ?_
        refine r_iload_n 6 dL_act_189 rfl ?_
        refine r_iconst (v := 5) dL_act_190 rfl rfl ?_
        refine r_iadd dL_act_191 ?_
        refine r_bipush (v := 6) dL_act_192 rfl rfl ?_
        refine r_callS (K' := Y_L_draw) (R' := R_L_draw) (idx := 40) (n := 3) (as := [(6, a1), (0, (w32 (a2 + 5))), (0, 6)]) (rest := [(0, 1), (4, a0)]) (C' := 27) (D' := 7320) rfl k0_L_draw wd_333 kl_L_40 ⟨by decide, by decide⟩ dL_act_194 rfl rfl (Nat.le_of_ble_eq_true rfl) (by decide) (by decide) h (fun r hr => m_L_draw hl0 ⟨r, hr, hr⟩) (fun x45 τ46 _ h => ?_)
        refine r_iadd dL_act_197 ?_
        refine r_callV (K' := Y_X7_pass) (R' := R_X7_pass) (idx := 121) (n := 1) (b := a0) (as := [(0, (w32 (1 + x45)))]) (rest := []) (C' := 0) (D' := 0) (cn := 7) rfl k0_X7_pass kV_X7_pass kl_L_121 ⟨by decide, by decide⟩ dL_act_198 rfl rfl (Nat.le_of_ble_eq_true rfl) (by decide) (by decide) rfl h (fun r hr => m_X7_pass hl0 ⟨r, hr, hr⟩) (fun x47 τ48 _ h => ?_)
        exact r_iret rfl dL_act_201 h
      · refine r_iload_n 3 dL_act_202 rfl ?_
        refine r_iload 2 dL_act_203 rfl ?_
        refine r_icmp_ne 212 dL_act_205 (by decide) h (fun h => ?_) (fun h => ?_)
        · refine r_aload_n 4 dL_act_212 rfl ?_
          refine r_iload_n 3 dL_act_213 rfl ?_
          refine r_iload 2 dL_act_214 rfl ?_
          refine r_iload 0 dL_act_216 rfl ?_
          refine r_iconst (v := 2) dL_act_218 rfl rfl ?_
          refine r_irem dL_act_219 h (fun h => ?_)
          refine r_if_ne 227 dL_act_220 (by decide) h (fun h => ?_) (fun h => ?_)
          · refine r_iconst (v := 0) dL_act_227 rfl rfl ?_
            refine r_weak (L' := []) [] rfl ?_
            refine r_room (C' := 27) (D' := 7320) (by omega) (by omega) ?_
            exact t_L_act_228 hl0    h
          · refine r_iconst (v := 1) dL_act_223 rfl rfl ?_
            refine r_goto 228 dL_act_224 (by decide) ?_
            refine r_weak (L' := []) [] rfl ?_
            refine r_room (C' := 27) (D' := 7320) (by omega) (by omega) ?_
            exact t_L_act_228 hl0    h
        · refine r_room (C' := 0) (D' := 0) (by omega) (by omega) ?_
          refine r_iconst (v := 0) dL_act_208 rfl rfl ?_
          refine r_goto 239 dL_act_209 (by decide) ?_
          exact r_iret rfl dL_act_239 h
      · refine r_aload_n 4 dL_act_240 rfl ?_
        refine r_aload_n 5 dL_act_241 rfl ?_
        refine r_iload_n 6 dL_act_242 rfl ?_
        refine r_iconst (v := 5) dL_act_243 rfl rfl ?_
        refine r_iadd dL_act_244 ?_
        refine r_iconst (v := 5) dL_act_245 rfl rfl ?_
        refine r_callS (K' := Y_L_draw) (R' := R_L_draw) (idx := 40) (n := 3) (as := [(6, a1), (0, (w32 (a2 + 5))), (0, 5)]) (rest := [(4, a0)]) (C' := 27) (D' := 7320) rfl k0_L_draw wd_333 kl_L_40 ⟨by decide, by decide⟩ dL_act_246 rfl rfl (Nat.le_of_ble_eq_true rfl) (by decide) (by decide) h (fun r hr => m_L_draw hl0 ⟨r, hr, hr⟩) (fun x49 τ50 _ h => ?_)
        refine r_iconst (v := 1) dL_act_249 rfl rfl ?_
        refine r_iload 0 dL_act_250 rfl ?_
        refine r_iconst (v := 3) dL_act_252 rfl rfl ?_
        refine r_irem dL_act_253 h (fun h => ?_)
        refine r_iadd dL_act_254 ?_
        refine r_callV (K' := Y_X7_setRule) (R' := R_X7_setRule) (idx := 128) (n := 2) (b := a0) (as := [(0, x49), (0, (w32 (1 + (Int.tmod x17 3))))]) (rest := []) (C' := 0) (D' := 0) (cn := 7) rfl k0_X7_setRule kV_X7_setRule kl_L_128 ⟨by decide, by decide⟩ dL_act_255 rfl rfl (Nat.le_of_ble_eq_true rfl) (by decide) (by decide) rfl h (fun r hr => m_X7_setRule hl0 ⟨r, hr, hr⟩) (fun x51 τ52 _ h => ?_)
        exact r_iret rfl dL_act_258 h
      · refine r_aload_n 4 dL_act_259 rfl ?_
        refine r_iconst (v := 1) dL_act_260 rfl rfl ?_
        refine r_aload_n 5 dL_act_261 rfl ?_
        refine r_iload_n 6 dL_act_262 rfl ?_
        refine r_iconst (v := 5) dL_act_263 rfl rfl ?_
        refine r_iadd dL_act_264 ?_
        refine r_iconst (v := 2) dL_act_265 rfl rfl ?_
        refine r_callS (K' := Y_L_draw) (R' := R_L_draw) (idx := 40) (n := 3) (as := [(6, a1), (0, (w32 (a2 + 5))), (0, 2)]) (rest := [(0, 1), (4, a0)]) (C' := 27) (D' := 7320) rfl k0_L_draw wd_333 kl_L_40 ⟨by decide, by decide⟩ dL_act_266 rfl rfl (Nat.le_of_ble_eq_true rfl) (by decide) (by decide) h (fun r hr => m_L_draw hl0 ⟨r, hr, hr⟩) (fun x53 τ54 _ h => ?_)
        refine r_iadd dL_act_269 ?_
        refine r_callV (K' := Y_X7_exchange) (R' := R_X7_exchange) (idx := 131) (n := 1) (b := a0) (as := [(0, (w32 (1 + x53)))]) (rest := []) (C' := 0) (D' := 0) (cn := 7) rfl k0_X7_exchange kV_X7_exchange kl_L_131 ⟨by decide, by decide⟩ dL_act_270 rfl rfl (Nat.le_of_ble_eq_true rfl) (by decide) (by decide) rfl h (fun r hr => m_X7_exchange hl0 ⟨r, hr, hr⟩) (fun x55 τ56 _ h => ?_)
        exact r_iret rfl dL_act_273 h
      · refine r_aload_n 4 dL_act_274 rfl ?_
        refine r_iload_n 3 dL_act_275 rfl ?_
        refine r_callV (K' := Y_X7_cleanse) (R' := R_X7_cleanse) (idx := 134) (n := 1) (b := a0) (as := [(0, x7)]) (rest := []) (C' := 0) (D' := 0) (cn := 7) rfl k0_X7_cleanse kV_X7_cleanse kl_L_134 ⟨by decide, by decide⟩ dL_act_276 rfl rfl (Nat.le_of_ble_eq_true rfl) (by decide) (by decide) rfl h (fun r hr => m_X7_cleanse hl0 ⟨r, hr, hr⟩) (fun x57 τ58 _ h => ?_)
        exact r_iret rfl dL_act_279 h
    · refine r_room (C' := 0) (D' := 0) (by omega) (by omega) ?_
      refine r_iconst (v := 0) dL_act_16 rfl rfl ?_
      exact r_iret rfl dL_act_17 h
theorem m_L_act {g : zF} (hl0 : g.2.2.2.1.stackTraces = false) {Q : zR × zS → Prop} {a0 a1 a2 : Int} {σ : zS} (h : zo (f_L_act g a0 a1 a2 σ) Q) : zm g Y_L_act R_L_act [(4, a0), (6, a1), (0, a2)] σ Q := zm_of (by decide) rfl (Nat.le_of_ble_eq_true rfl) (t_L_act hl0 h)


/- L_low -/

set_option maxRecDepth 100000 in
set_option maxHeartbeats 4000000 in
theorem t_L_low {g : zF} (hl0 : g.2.2.2.1.stackTraces = false) {Q : zR × zS → Prop}   {a0 a1 a2 a3 : Int} {σ : zS} (h : zo (f_L_low  a0 a1 a2 a3 σ) Q) : zw g Y_L_low R_L_low 0 [(0, (4, a0)), (1, (0, a1)), (2, (0, a2)), (3, (0, a3))] [] σ 0 0 Q := by
  unfold f_L_low at h
  refine r_iconst (v := 0) dL_low_0 rfl rfl ?_
  refine r_aload_n 0 dL_low_1 rfl ?_
  refine r_iload_n 1 dL_low_2 rfl ?_
  refine r_iload_n 2 dL_low_3 rfl ?_
  refine r_iconst (v := 5) dL_low_4 rfl rfl ?_
  refine r_callV (K' := Y_X7_report) (R' := R_X7_report) (idx := 140) (n := 3) (b := a0) (as := [(0, a1), (0, a2), (0, 5)]) (rest := [(0, 0)]) (C' := 0) (D' := 0) (cn := 7) rfl k0_X7_report kV_X7_report kl_L_140 ⟨by decide, by decide⟩ dL_low_5 rfl rfl (Nat.le_of_ble_eq_true rfl) (by decide) (by decide) rfl h (fun r hr => m_X7_report hl0 ⟨r, hr, hr⟩) (fun x1 τ2 _ h => ?_)
  refine r_iload_n 3 dL_low_8 rfl ?_
  refine r_isub dL_low_9 ?_
  refine r_mmax mq_L_144 ⟨by decide, Nat.le_of_ble_eq_true rfl⟩ rfl dL_low_10 ?_
  exact r_iret rfl dL_low_13 h
theorem m_L_low {g : zF} (hl0 : g.2.2.2.1.stackTraces = false) {Q : zR × zS → Prop} {a0 a1 a2 a3 : Int} {σ : zS} (h : zo (f_L_low a0 a1 a2 a3 σ) Q) : zm g Y_L_low R_L_low [(4, a0), (0, a1), (0, a2), (0, a3)] σ Q := zm_of (by decide) rfl (Nat.le_of_ble_eq_true rfl) (t_L_low hl0 h)


/- L_top -/

set_option maxRecDepth 100000 in
set_option maxHeartbeats 4000000 in
theorem t_L_top {g : zF} (hl0 : g.2.2.2.1.stackTraces = false) {Q : zR × zS → Prop}   {a0 a1 a2 a3 : Int} {σ : zS} (h : zo (f_L_top  a0 a1 a2 a3 σ) Q) : zw g Y_L_top R_L_top 0 [(0, (4, a0)), (1, (0, a1)), (2, (0, a2)), (3, (0, a3))] [] σ 0 0 Q := by
  unfold f_L_top at h
  refine r_sipush (v := 999) dL_top_0 rfl rfl ?_
  refine r_aload_n 0 dL_top_3 rfl ?_
  refine r_iload_n 1 dL_top_4 rfl ?_
  refine r_iload_n 2 dL_top_5 rfl ?_
  refine r_bipush (v := 6) dL_top_6 rfl rfl ?_
  refine r_callV (K' := Y_X7_report) (R' := R_X7_report) (idx := 140) (n := 3) (b := a0) (as := [(0, a1), (0, a2), (0, 6)]) (rest := [(0, 999)]) (C' := 0) (D' := 0) (cn := 7) rfl k0_X7_report kV_X7_report kl_L_140 ⟨by decide, by decide⟩ dL_top_8 rfl rfl (Nat.le_of_ble_eq_true rfl) (by decide) (by decide) rfl h (fun r hr => m_X7_report hl0 ⟨r, hr, hr⟩) (fun x1 τ2 _ h => ?_)
  refine r_iload_n 3 dL_top_11 rfl ?_
  refine r_iadd dL_top_12 ?_
  refine r_mmin mq_L_30 ⟨by decide, Nat.le_of_ble_eq_true rfl⟩ rfl dL_top_13 ?_
  exact r_iret rfl dL_top_16 h
theorem m_L_top {g : zF} (hl0 : g.2.2.2.1.stackTraces = false) {Q : zR × zS → Prop} {a0 a1 a2 a3 : Int} {σ : zS} (h : zo (f_L_top a0 a1 a2 a3 σ) Q) : zm g Y_L_top R_L_top [(4, a0), (0, a1), (0, a2), (0, a3)] σ Q := zm_of (by decide) rfl (Nat.le_of_ble_eq_true rfl) (t_L_top hl0 h)


/- L_drift -/

set_option maxRecDepth 100000 in
set_option maxHeartbeats 4000000 in
theorem t_L_drift {g : zF} (hl0 : g.2.2.2.1.stackTraces = false) {Q : zR × zS → Prop}   {a0 a1 a2 : Int} {σ : zS} (h : zo (f_L_drift  a0 a1 a2 σ) Q) : zw g Y_L_drift R_L_drift 0 [(0, (4, a0)), (1, (0, a1)), (2, (0, a2))] [] σ 0 0 Q := by
  unfold f_L_drift at h
  refine r_aload_n 0 dL_drift_0 rfl ?_
  refine r_iconst (v := 3) dL_drift_1 rfl rfl ?_
  refine r_callV (K' := Y_X7_property) (R' := R_X7_property) (idx := 104) (n := 1) (b := a0) (as := [(0, 3)]) (rest := []) (C' := 0) (D' := 0) (cn := 7) rfl k0_X7_property kV_X7_property kl_L_104 ⟨by decide, by decide⟩ dL_drift_2 rfl rfl (Nat.le_of_ble_eq_true rfl) (by decide) (by decide) rfl h (fun r hr => m_X7_property hl0 ⟨r, hr, hr⟩) (fun x1 τ2 _ h => ?_)
  refine r_aload_n 0 dL_drift_5 rfl ?_
  refine r_iconst (v := 2) dL_drift_6 rfl rfl ?_
  refine r_callV (K' := Y_X7_property) (R' := R_X7_property) (idx := 104) (n := 1) (b := a0) (as := [(0, 2)]) (rest := [(0, x1)]) (C' := 0) (D' := 0) (cn := 7) rfl k0_X7_property kV_X7_property kl_L_104 ⟨by decide, by decide⟩ dL_drift_7 rfl rfl (Nat.le_of_ble_eq_true rfl) (by decide) (by decide) rfl h (fun r hr => m_X7_property hl0 ⟨r, hr, hr⟩) (fun x3 τ4 _ h => ?_)
  refine r_aload_n 0 dL_drift_10 rfl ?_
  refine r_iload_n 1 dL_drift_11 rfl ?_
  refine r_iload_n 2 dL_drift_12 rfl ?_
  refine r_iconst (v := 4) dL_drift_13 rfl rfl ?_
  refine r_callV (K' := Y_X7_report) (R' := R_X7_report) (idx := 140) (n := 3) (b := a0) (as := [(0, a1), (0, a2), (0, 4)]) (rest := [(0, x3), (0, x1)]) (C' := 0) (D' := 0) (cn := 7) rfl k0_X7_report kV_X7_report kl_L_140 ⟨by decide, by decide⟩ dL_drift_14 rfl rfl (Nat.le_of_ble_eq_true rfl) (by decide) (by decide) rfl h (fun r hr => m_X7_report hl0 ⟨r, hr, hr⟩) (fun x5 τ6 _ h => ?_)
  refine r_isub dL_drift_17 ?_
  refine r_imul dL_drift_18 ?_
  exact r_iret rfl dL_drift_19 h
theorem m_L_drift {g : zF} (hl0 : g.2.2.2.1.stackTraces = false) {Q : zR × zS → Prop} {a0 a1 a2 : Int} {σ : zS} (h : zo (f_L_drift a0 a1 a2 σ) Q) : zm g Y_L_drift R_L_drift [(4, a0), (0, a1), (0, a2)] σ Q := zm_of (by decide) rfl (Nat.le_of_ble_eq_true rfl) (t_L_drift hl0 h)


/- L_ahead -/

set_option maxRecDepth 100000 in
set_option maxHeartbeats 4000000 in
theorem t_L_ahead_16 {g : zF} (hl0 : g.2.2.2.1.stackTraces = false) {Q : zR × zS → Prop}   {a0 a1 a2 a3 s0 : Int} {σ : zS} (h : zo (f_L_ahead_16  a0 a1 a2 a3 s0 σ) Q) : zw g Y_L_ahead R_L_ahead 16 [(0, (4, a0)), (1, (0, a1)), (2, (0, a2)), (3, (0, a3))] [(0, s0)] σ 0 0 Q := by
  unfold f_L_ahead_16 at h
  refine r_istore (L' := [(4, (0, s0)), (0, (4, a0)), (1, (0, a1)), (2, (0, a2)), (3, (0, a3))]) dL_ahead_16 (by decide) rfl ?_
  refine r_iload 0 dL_ahead_18 rfl ?_
  refine r_if_ne 34 dL_ahead_20 (by decide) h (fun h => ?_) (fun h => ?_)
  · refine r_iload 0 dL_ahead_34 rfl ?_
    exact r_zret rfl dL_ahead_36 h
  · refine r_aload_n 1 dL_ahead_23 rfl ?_
    refine r_iload_n 2 dL_ahead_24 rfl ?_
    refine r_iload_n 4 dL_ahead_25 rfl ?_
    refine r_iconst (v := 0) dL_ahead_26 rfl rfl ?_
    refine r_callV (K' := Y_X7_report) (R' := R_X7_report) (idx := 140) (n := 3) (b := a0) (as := [(0, a1), (0, a3), (0, 0)]) (rest := []) (C' := 0) (D' := 0) (cn := 7) rfl k0_X7_report kV_X7_report kl_L_140 ⟨by decide, by decide⟩ dL_ahead_27 rfl rfl (Nat.le_of_ble_eq_true rfl) (by decide) (by decide) rfl h (fun r hr => m_X7_report hl0 ⟨r, hr, hr⟩) (fun x1 τ2 _ h => ?_)
    refine r_iload_n 2 dL_ahead_30 rfl ?_
    refine r_icmp_ne 37 dL_ahead_31 (by decide) h (fun h => ?_) (fun h => ?_)
    · refine r_aload_n 1 dL_ahead_37 rfl ?_
      refine r_iload_n 2 dL_ahead_38 rfl ?_
      refine r_aload_n 1 dL_ahead_39 rfl ?_
      refine r_iload_n 2 dL_ahead_40 rfl ?_
      refine r_iload_n 3 dL_ahead_41 rfl ?_
      refine r_iconst (v := 1) dL_ahead_42 rfl rfl ?_
      refine r_callV (K' := Y_X7_report) (R' := R_X7_report) (idx := 140) (n := 3) (b := a0) (as := [(0, a1), (0, a2), (0, 1)]) (rest := [(0, a1), (4, a0)]) (C' := 0) (D' := 0) (cn := 7) rfl k0_X7_report kV_X7_report kl_L_140 ⟨by decide, by decide⟩ dL_ahead_43 rfl rfl (Nat.le_of_ble_eq_true rfl) (by decide) (by decide) rfl h (fun r hr => m_X7_report hl0 ⟨r, hr, hr⟩) (fun x3 τ4 _ h => ?_)
      refine r_callV (K' := Y_X7_trust) (R' := R_X7_trust) (idx := 153) (n := 2) (b := a0) (as := [(0, a1), (0, x3)]) (rest := []) (C' := 0) (D' := 0) (cn := 7) rfl k0_X7_trust kV_X7_trust kl_L_153 ⟨by decide, by decide⟩ dL_ahead_46 rfl rfl (Nat.le_of_ble_eq_true rfl) (by decide) (by decide) rfl h (fun r hr => m_X7_trust hl0 ⟨r, hr, hr⟩) (fun x5 τ6 _ h => ?_)
      refine r_istore (L' := [(5, (0, x5)), (4, (0, s0)), (0, (4, a0)), (1, (0, a1)), (2, (0, a2)), (3, (0, a3))]) dL_ahead_49 (by decide) rfl ?_
      refine r_aload_n 2 dL_ahead_51 rfl ?_
      refine r_iload_n 3 dL_ahead_52 rfl ?_
      refine r_aload_n 2 dL_ahead_53 rfl ?_
      refine r_iload_n 3 dL_ahead_54 rfl ?_
      refine r_iload_n 5 dL_ahead_55 rfl ?_
      refine r_iconst (v := 1) dL_ahead_56 rfl rfl ?_
      refine r_callV (K' := Y_X7_report) (R' := R_X7_report) (idx := 140) (n := 3) (b := a0) (as := [(0, a1), (0, a3), (0, 1)]) (rest := [(0, a1), (4, a0)]) (C' := 0) (D' := 0) (cn := 7) rfl k0_X7_report kV_X7_report kl_L_140 ⟨by decide, by decide⟩ dL_ahead_57 rfl rfl (Nat.le_of_ble_eq_true rfl) (by decide) (by decide) rfl h (fun r hr => m_X7_report hl0 ⟨r, hr, hr⟩) (fun x7 τ8 _ h => ?_)
      refine r_callV (K' := Y_X7_trust) (R' := R_X7_trust) (idx := 153) (n := 2) (b := a0) (as := [(0, a1), (0, x7)]) (rest := []) (C' := 0) (D' := 0) (cn := 7) rfl k0_X7_trust kV_X7_trust kl_L_153 ⟨by decide, by decide⟩ dL_ahead_60 rfl rfl (Nat.le_of_ble_eq_true rfl) (by decide) (by decide) rfl h (fun r hr => m_X7_trust hl0 ⟨r, hr, hr⟩) (fun x9 τ10 _ h => ?_)
      refine r_istore (L' := [(6, (0, x9)), (5, (0, x5)), (4, (0, s0)), (0, (4, a0)), (1, (0, a1)), (2, (0, a2)), (3, (0, a3))]) dL_ahead_63 (by decide) rfl ?_
      refine r_iload 1 dL_ahead_65 rfl ?_
      refine r_iload 0 dL_ahead_67 rfl ?_
      refine r_icmp_eq 85 dL_ahead_69 (by decide) h (fun h => ?_) (fun h => ?_)
      · refine r_aload_n 3 dL_ahead_85 rfl ?_
        refine r_iload_n 4 dL_ahead_86 rfl ?_
        refine r_iload_n 5 dL_ahead_87 rfl ?_
        refine r_iconst (v := 2) dL_ahead_88 rfl rfl ?_
        refine r_callV (K' := Y_X7_report) (R' := R_X7_report) (idx := 140) (n := 3) (b := a0) (as := [(0, a1), (0, a2), (0, 2)]) (rest := []) (C' := 0) (D' := 0) (cn := 7) rfl k0_X7_report kV_X7_report kl_L_140 ⟨by decide, by decide⟩ dL_ahead_89 rfl rfl (Nat.le_of_ble_eq_true rfl) (by decide) (by decide) rfl h (fun r hr => m_X7_report hl0 ⟨r, hr, hr⟩) (fun x11 τ12 _ h => ?_)
        refine r_aload_n 3 dL_ahead_92 rfl ?_
        refine r_iload_n 4 dL_ahead_93 rfl ?_
        refine r_iload_n 6 dL_ahead_94 rfl ?_
        refine r_iconst (v := 2) dL_ahead_95 rfl rfl ?_
        refine r_callV (K' := Y_X7_report) (R' := R_X7_report) (idx := 140) (n := 3) (b := a0) (as := [(0, a1), (0, a3), (0, 2)]) (rest := [(0, x11)]) (C' := 0) (D' := 0) (cn := 7) rfl k0_X7_report kV_X7_report kl_L_140 ⟨by decide, by decide⟩ dL_ahead_96 rfl rfl (Nat.le_of_ble_eq_true rfl) (by decide) (by decide) rfl h (fun r hr => m_X7_report hl0 ⟨r, hr, hr⟩) (fun x13 τ14 _ h => ?_)
        refine r_isub dL_ahead_99 ?_
        refine r_istore (L' := [(7, (0, (w32 (x11 - x13)))), (6, (0, x9)), (5, (0, x5)), (4, (0, s0)), (0, (4, a0)), (1, (0, a1)), (2, (0, a2)), (3, (0, a3))]) dL_ahead_100 (by decide) rfl ?_
        refine r_iload 0 dL_ahead_102 rfl ?_
        refine r_if_eq 120 dL_ahead_104 (by decide) h (fun h => ?_) (fun h => ?_)
        · refine r_aload_n 4 dL_ahead_120 rfl ?_
          refine r_iload_n 5 dL_ahead_121 rfl ?_
          refine r_iload_n 6 dL_ahead_122 rfl ?_
          refine r_iconst (v := 0) dL_ahead_123 rfl rfl ?_
          refine r_callV (K' := Y_X7_report) (R' := R_X7_report) (idx := 140) (n := 3) (b := a0) (as := [(0, a1), (0, a2), (0, 0)]) (rest := []) (C' := 0) (D' := 0) (cn := 7) rfl k0_X7_report kV_X7_report kl_L_140 ⟨by decide, by decide⟩ dL_ahead_124 rfl rfl (Nat.le_of_ble_eq_true rfl) (by decide) (by decide) rfl h (fun r hr => m_X7_report hl0 ⟨r, hr, hr⟩) (fun x15 τ16 _ h => ?_)
          refine r_aload_n 4 dL_ahead_127 rfl ?_
          refine r_iload_n 5 dL_ahead_128 rfl ?_
          refine r_iload_n 7 dL_ahead_129 rfl ?_
          refine r_iconst (v := 0) dL_ahead_130 rfl rfl ?_
          refine r_callV (K' := Y_X7_report) (R' := R_X7_report) (idx := 140) (n := 3) (b := a0) (as := [(0, a1), (0, a3), (0, 0)]) (rest := [(0, x15)]) (C' := 0) (D' := 0) (cn := 7) rfl k0_X7_report kV_X7_report kl_L_140 ⟨by decide, by decide⟩ dL_ahead_131 rfl rfl (Nat.le_of_ble_eq_true rfl) (by decide) (by decide) rfl h (fun r hr => m_X7_report hl0 ⟨r, hr, hr⟩) (fun x17 τ18 _ h => ?_)
          refine r_icmp_ge 141 dL_ahead_134 (by decide) h (fun h => ?_) (fun h => ?_)
          · refine r_iconst (v := 0) dL_ahead_141 rfl rfl ?_
            exact r_zretc (by decide) rfl dL_ahead_142 h
          · refine r_iconst (v := 1) dL_ahead_137 rfl rfl ?_
            refine r_goto 142 dL_ahead_138 (by decide) ?_
            exact r_zretc (by decide) rfl dL_ahead_142 h
        · refine r_iload 0 dL_ahead_107 rfl ?_
          refine r_if_ge 116 dL_ahead_109 (by decide) h (fun h => ?_) (fun h => ?_)
          · refine r_iconst (v := 0) dL_ahead_116 rfl rfl ?_
            refine r_goto 142 dL_ahead_117 (by decide) ?_
            exact r_zretc (by decide) rfl dL_ahead_142 h
          · refine r_iconst (v := 1) dL_ahead_112 rfl rfl ?_
            refine r_goto 142 dL_ahead_113 (by decide) ?_
            exact r_zretc (by decide) rfl dL_ahead_142 h
      · refine r_iload 1 dL_ahead_72 rfl ?_
        refine r_iload 0 dL_ahead_74 rfl ?_
        refine r_icmp_le 83 dL_ahead_76 (by decide) h (fun h => ?_) (fun h => ?_)
        · refine r_iconst (v := 0) dL_ahead_83 rfl rfl ?_
          exact r_zretc (by decide) rfl dL_ahead_84 h
        · refine r_iconst (v := 1) dL_ahead_79 rfl rfl ?_
          refine r_goto 84 dL_ahead_80 (by decide) ?_
          exact r_zretc (by decide) rfl dL_ahead_84 h
    · refine r_iload 0 dL_ahead_34 rfl ?_
      exact r_zret rfl dL_ahead_36 h

set_option maxRecDepth 100000 in
set_option maxHeartbeats 4000000 in
theorem t_L_ahead {g : zF} (hl0 : g.2.2.2.1.stackTraces = false) {Q : zR × zS → Prop}   {a0 a1 a2 a3 : Int} {σ : zS} (h : zo (f_L_ahead  a0 a1 a2 a3 σ) Q) : zw g Y_L_ahead R_L_ahead 0 [(0, (4, a0)), (1, (0, a1)), (2, (0, a2)), (3, (0, a3))] [] σ 0 0 Q := by
  unfold f_L_ahead at h
  refine r_aload_n 0 dL_ahead_0 rfl ?_
  refine r_iload_n 1 dL_ahead_1 rfl ?_
  refine r_iload_n 2 dL_ahead_2 rfl ?_
  refine r_iconst (v := 0) dL_ahead_3 rfl rfl ?_
  refine r_callV (K' := Y_X7_report) (R' := R_X7_report) (idx := 140) (n := 3) (b := a0) (as := [(0, a1), (0, a2), (0, 0)]) (rest := []) (C' := 0) (D' := 0) (cn := 7) rfl k0_X7_report kV_X7_report kl_L_140 ⟨by decide, by decide⟩ dL_ahead_4 rfl rfl (Nat.le_of_ble_eq_true rfl) (by decide) (by decide) rfl h (fun r hr => m_X7_report hl0 ⟨r, hr, hr⟩) (fun x1 τ2 _ h => ?_)
  refine r_iload_n 1 dL_ahead_7 rfl ?_
  refine r_icmp_ne 15 dL_ahead_8 (by decide) h (fun h => ?_) (fun h => ?_)
  · refine r_iconst (v := 0) dL_ahead_15 rfl rfl ?_
    refine r_room (C' := 0) (D' := 0) (by omega) (by omega) ?_
    exact t_L_ahead_16 hl0    h
  · refine r_iconst (v := 1) dL_ahead_11 rfl rfl ?_
    refine r_goto 16 dL_ahead_12 (by decide) ?_
    refine r_room (C' := 0) (D' := 0) (by omega) (by omega) ?_
    exact t_L_ahead_16 hl0    h
theorem m_L_ahead {g : zF} (hl0 : g.2.2.2.1.stackTraces = false) {Q : zR × zS → Prop} {a0 a1 a2 a3 : Int} {σ : zS} (h : zo (f_L_ahead a0 a1 a2 a3 σ) Q) : zm g Y_L_ahead R_L_ahead [(4, a0), (0, a1), (0, a2), (0, a3)] σ Q := zm_of (by decide) rfl (Nat.le_of_ble_eq_true rfl) (t_L_ahead hl0 h)


/- L_isOut -/

set_option maxRecDepth 100000 in
set_option maxHeartbeats 4000000 in
theorem t_L_isOut {g : zF} (hl0 : g.2.2.2.1.stackTraces = false) {Q : zR × zS → Prop}   {a0 a1 a2 : Int} {σ : zS} (h : zo (f_L_isOut  a0 a1 a2 σ) Q) : zw g Y_L_isOut R_L_isOut 0 [(0, (4, a0)), (1, (0, a1)), (2, (0, a2))] [] σ 0 0 Q := by
  unfold f_L_isOut at h
  refine r_aload_n 0 dL_isOut_0 rfl ?_
  refine r_iload_n 1 dL_isOut_1 rfl ?_
  refine r_iload_n 2 dL_isOut_2 rfl ?_
  refine r_iconst (v := 0) dL_isOut_3 rfl rfl ?_
  refine r_callV (K' := Y_X7_report) (R' := R_X7_report) (idx := 140) (n := 3) (b := a0) (as := [(0, a1), (0, a2), (0, 0)]) (rest := []) (C' := 0) (D' := 0) (cn := 7) rfl k0_X7_report kV_X7_report kl_L_140 ⟨by decide, by decide⟩ dL_isOut_4 rfl rfl (Nat.le_of_ble_eq_true rfl) (by decide) (by decide) rfl h (fun r hr => m_X7_report hl0 ⟨r, hr, hr⟩) (fun x1 τ2 _ h => ?_)
  refine r_iload_n 1 dL_isOut_7 rfl ?_
  refine r_icmp_eq 50 dL_isOut_8 (by decide) h (fun h => ?_) (fun h => ?_)
  · refine r_iconst (v := 0) dL_isOut_50 rfl rfl ?_
    exact r_zretc (by decide) rfl dL_isOut_51 h
  · refine r_aload_n 0 dL_isOut_11 rfl ?_
    refine r_iload_n 1 dL_isOut_12 rfl ?_
    refine r_aload_n 0 dL_isOut_13 rfl ?_
    refine r_iload_n 1 dL_isOut_14 rfl ?_
    refine r_iload_n 2 dL_isOut_15 rfl ?_
    refine r_iconst (v := 1) dL_isOut_16 rfl rfl ?_
    refine r_callV (K' := Y_X7_report) (R' := R_X7_report) (idx := 140) (n := 3) (b := a0) (as := [(0, a1), (0, a2), (0, 1)]) (rest := [(0, a1), (4, a0)]) (C' := 0) (D' := 0) (cn := 7) rfl k0_X7_report kV_X7_report kl_L_140 ⟨by decide, by decide⟩ dL_isOut_17 rfl rfl (Nat.le_of_ble_eq_true rfl) (by decide) (by decide) rfl h (fun r hr => m_X7_report hl0 ⟨r, hr, hr⟩) (fun x3 τ4 _ h => ?_)
    refine r_callV (K' := Y_X7_trust) (R' := R_X7_trust) (idx := 153) (n := 2) (b := a0) (as := [(0, a1), (0, x3)]) (rest := []) (C' := 0) (D' := 0) (cn := 7) rfl k0_X7_trust kV_X7_trust kl_L_153 ⟨by decide, by decide⟩ dL_isOut_20 rfl rfl (Nat.le_of_ble_eq_true rfl) (by decide) (by decide) rfl h (fun r hr => m_X7_trust hl0 ⟨r, hr, hr⟩) (fun x5 τ6 _ h => ?_)
    refine r_if_lt 46 dL_isOut_23 (by decide) h (fun h => ?_) (fun h => ?_)
    · refine r_iconst (v := 1) dL_isOut_46 rfl rfl ?_
      refine r_goto 51 dL_isOut_47 (by decide) ?_
      exact r_zretc (by decide) rfl dL_isOut_51 h
    · refine r_aload_n 0 dL_isOut_26 rfl ?_
      refine r_iload_n 1 dL_isOut_27 rfl ?_
      refine r_aload_n 0 dL_isOut_28 rfl ?_
      refine r_iload_n 1 dL_isOut_29 rfl ?_
      refine r_iload_n 2 dL_isOut_30 rfl ?_
      refine r_iconst (v := 1) dL_isOut_31 rfl rfl ?_
      refine r_callV (K' := Y_X7_report) (R' := R_X7_report) (idx := 140) (n := 3) (b := a0) (as := [(0, a1), (0, a2), (0, 1)]) (rest := [(0, a1), (4, a0)]) (C' := 0) (D' := 0) (cn := 7) rfl k0_X7_report kV_X7_report kl_L_140 ⟨by decide, by decide⟩ dL_isOut_32 rfl rfl (Nat.le_of_ble_eq_true rfl) (by decide) (by decide) rfl h (fun r hr => m_X7_report hl0 ⟨r, hr, hr⟩) (fun x7 τ8 _ h => ?_)
      refine r_callV (K' := Y_X7_trust) (R' := R_X7_trust) (idx := 153) (n := 2) (b := a0) (as := [(0, a1), (0, x7)]) (rest := []) (C' := 0) (D' := 0) (cn := 7) rfl k0_X7_trust kV_X7_trust kl_L_153 ⟨by decide, by decide⟩ dL_isOut_35 rfl rfl (Nat.le_of_ble_eq_true rfl) (by decide) (by decide) rfl h (fun r hr => m_X7_trust hl0 ⟨r, hr, hr⟩) (fun x9 τ10 _ h => ?_)
      refine r_aload_n 0 dL_isOut_38 rfl ?_
      refine r_iconst (v := 5) dL_isOut_39 rfl rfl ?_
      refine r_callV (K' := Y_X7_property) (R' := R_X7_property) (idx := 104) (n := 1) (b := a0) (as := [(0, 5)]) (rest := [(0, x9)]) (C' := 0) (D' := 0) (cn := 7) rfl k0_X7_property kV_X7_property kl_L_104 ⟨by decide, by decide⟩ dL_isOut_40 rfl rfl (Nat.le_of_ble_eq_true rfl) (by decide) (by decide) rfl h (fun r hr => m_X7_property hl0 ⟨r, hr, hr⟩) (fun x11 τ12 _ h => ?_)
      refine r_icmp_ge 50 dL_isOut_43 (by decide) h (fun h => ?_) (fun h => ?_)
      · refine r_iconst (v := 0) dL_isOut_50 rfl rfl ?_
        exact r_zretc (by decide) rfl dL_isOut_51 h
      · refine r_iconst (v := 1) dL_isOut_46 rfl rfl ?_
        refine r_goto 51 dL_isOut_47 (by decide) ?_
        exact r_zretc (by decide) rfl dL_isOut_51 h
theorem m_L_isOut {g : zF} (hl0 : g.2.2.2.1.stackTraces = false) {Q : zR × zS → Prop} {a0 a1 a2 : Int} {σ : zS} (h : zo (f_L_isOut a0 a1 a2 σ) Q) : zm g Y_L_isOut R_L_isOut [(4, a0), (0, a1), (0, a2)] σ Q := zm_of (by decide) rfl (Nat.le_of_ble_eq_true rfl) (t_L_isOut hl0 h)


/- L_by -/

set_option maxRecDepth 100000 in
set_option maxHeartbeats 4000000 in
theorem t_L_by {g : zF} (hl0 : g.2.2.2.1.stackTraces = false) {Q : zR × zS → Prop}   {a0 a1 a2 : Int} {σ : zS} (h : zo (f_L_by  a0 a1 a2 σ) Q) : zw g Y_L_by R_L_by 0 [(0, (4, a0)), (1, (0, a1)), (2, (0, a2))] [] σ 0 0 Q := by
  unfold f_L_by at h
  refine r_aload_n 0 dL_by_0 rfl ?_
  refine r_iload_n 1 dL_by_1 rfl ?_
  refine r_iload_n 2 dL_by_2 rfl ?_
  refine r_callS (K' := Y_L_drift) (R' := R_L_drift) (idx := 167) (n := 3) (as := [(4, a0), (0, a1), (0, a2)]) (rest := []) (C' := 0) (D' := 0) rfl k0_L_drift wd_1165 kl_L_167 ⟨by decide, by decide⟩ dL_by_3 rfl rfl (Nat.le_of_ble_eq_true rfl) (by decide) (by decide) h (fun r hr => m_L_drift hl0 ⟨r, hr, hr⟩) (fun x1 τ2 _ h => ?_)
  refine r_aload_n 0 dL_by_6 rfl ?_
  refine r_iload_n 1 dL_by_7 rfl ?_
  refine r_iload_n 2 dL_by_8 rfl ?_
  refine r_iconst (v := 0) dL_by_9 rfl rfl ?_
  refine r_callV (K' := Y_X7_report) (R' := R_X7_report) (idx := 140) (n := 3) (b := a0) (as := [(0, a1), (0, a2), (0, 0)]) (rest := [(0, x1)]) (C' := 0) (D' := 0) (cn := 7) rfl k0_X7_report kV_X7_report kl_L_140 ⟨by decide, by decide⟩ dL_by_10 rfl rfl (Nat.le_of_ble_eq_true rfl) (by decide) (by decide) rfl h (fun r hr => m_X7_report hl0 ⟨r, hr, hr⟩) (fun x3 τ4 _ h => ?_)
  refine r_iload_n 1 dL_by_13 rfl ?_
  refine r_icmp_ne 21 dL_by_14 (by decide) h (fun h => ?_) (fun h => ?_)
  · refine r_aload_n 0 dL_by_21 rfl ?_
    refine r_iconst (v := 4) dL_by_22 rfl rfl ?_
    refine r_callV (K' := Y_X7_property) (R' := R_X7_property) (idx := 104) (n := 1) (b := a0) (as := [(0, 4)]) (rest := [(0, x1)]) (C' := 0) (D' := 0) (cn := 7) rfl k0_X7_property kV_X7_property kl_L_104 ⟨by decide, by decide⟩ dL_by_23 rfl rfl (Nat.le_of_ble_eq_true rfl) (by decide) (by decide) rfl h (fun r hr => m_X7_property hl0 ⟨r, hr, hr⟩) (fun x5 τ6 _ h => ?_)
    refine r_bipush (v := 10) dL_by_26 rfl rfl ?_
    refine r_aload_n 0 dL_by_28 rfl ?_
    refine r_iload_n 1 dL_by_29 rfl ?_
    refine r_aload_n 0 dL_by_30 rfl ?_
    refine r_iload_n 1 dL_by_31 rfl ?_
    refine r_iload_n 2 dL_by_32 rfl ?_
    refine r_iconst (v := 1) dL_by_33 rfl rfl ?_
    refine r_callV (K' := Y_X7_report) (R' := R_X7_report) (idx := 140) (n := 3) (b := a0) (as := [(0, a1), (0, a2), (0, 1)]) (rest := [(0, a1), (4, a0), (0, 10), (0, x5), (0, x1)]) (C' := 0) (D' := 0) (cn := 7) rfl k0_X7_report kV_X7_report kl_L_140 ⟨by decide, by decide⟩ dL_by_34 rfl rfl (Nat.le_of_ble_eq_true rfl) (by decide) (by decide) rfl h (fun r hr => m_X7_report hl0 ⟨r, hr, hr⟩) (fun x7 τ8 _ h => ?_)
    refine r_callV (K' := Y_X7_trust) (R' := R_X7_trust) (idx := 153) (n := 2) (b := a0) (as := [(0, a1), (0, x7)]) (rest := [(0, 10), (0, x5), (0, x1)]) (C' := 0) (D' := 0) (cn := 7) rfl k0_X7_trust kV_X7_trust kl_L_153 ⟨by decide, by decide⟩ dL_by_37 rfl rfl (Nat.le_of_ble_eq_true rfl) (by decide) (by decide) rfl h (fun r hr => m_X7_trust hl0 ⟨r, hr, hr⟩) (fun x9 τ10 _ h => ?_)
    refine r_isub dL_by_40 ?_
    refine r_imul dL_by_41 ?_
    refine r_aload_n 0 dL_by_42 rfl ?_
    refine r_iload_n 1 dL_by_43 rfl ?_
    refine r_iload_n 2 dL_by_44 rfl ?_
    refine r_iconst (v := 2) dL_by_45 rfl rfl ?_
    refine r_callV (K' := Y_X7_report) (R' := R_X7_report) (idx := 140) (n := 3) (b := a0) (as := [(0, a1), (0, a2), (0, 2)]) (rest := [(0, (w32 (x5 * (w32 (10 - x9))))), (0, x1)]) (C' := 0) (D' := 0) (cn := 7) rfl k0_X7_report kV_X7_report kl_L_140 ⟨by decide, by decide⟩ dL_by_46 rfl rfl (Nat.le_of_ble_eq_true rfl) (by decide) (by decide) rfl h (fun r hr => m_X7_report hl0 ⟨r, hr, hr⟩) (fun x11 τ12 _ h => ?_)
    refine r_imul dL_by_49 ?_
    refine r_iadd dL_by_50 ?_
    exact r_iret rfl dL_by_51 h
  · refine r_iconst (v := 0) dL_by_17 rfl rfl ?_
    refine r_goto 50 dL_by_18 (by decide) ?_
    refine r_iadd dL_by_50 ?_
    exact r_iret rfl dL_by_51 h
theorem m_L_by {g : zF} (hl0 : g.2.2.2.1.stackTraces = false) {Q : zR × zS → Prop} {a0 a1 a2 : Int} {σ : zS} (h : zo (f_L_by a0 a1 a2 σ) Q) : zm g Y_L_by R_L_by [(4, a0), (0, a1), (0, a2)] σ Q := zm_of (by decide) rfl (Nat.le_of_ble_eq_true rfl) (t_L_by hl0 h)


/- L_agrees -/

set_option maxRecDepth 100000 in
set_option maxHeartbeats 4000000 in
theorem t_L_agrees_231 {g : zF} (hl0 : g.2.2.2.1.stackTraces = false) {Q : zR × zS → Prop}   {a0 a1 a2 a5 a6 a7 : Int} {σ : zS} (h : zo (f_L_agrees_231  a0 a1 a2 a5 a6 a7 σ) Q) : zw g Y_L_agrees R_L_agrees 231 [(0, (4, a0)), (1, (0, a1)), (2, (0, a2)), (5, (0, a5)), (6, (0, a6)), (7, (0, a7))] [] σ 0 0 Q := by
  unfold f_L_agrees_231 at h
  refine r_aload_n 0 dL_agrees_231 rfl ?_
  refine r_iload_n 1 dL_agrees_232 rfl ?_
  refine r_iload_n 2 dL_agrees_233 rfl ?_
  refine r_callV (K' := Y_X7_majority) (R' := R_X7_majority) (idx := 212) (n := 2) (b := a0) (as := [(0, a1), (0, a2)]) (rest := []) (C' := 0) (D' := 0) (cn := 7) rfl k0_X7_majority kV_X7_majority kl_L_212 ⟨by decide, by decide⟩ dL_agrees_234 rfl rfl (Nat.le_of_ble_eq_true rfl) (by decide) (by decide) rfl h (fun r hr => m_X7_majority hl0 ⟨r, hr, hr⟩) (fun x1 τ2 _ h => ?_)
  refine r_iload 3 dL_agrees_237 rfl ?_
  refine r_icmp_ne 270 dL_agrees_239 (by decide) h (fun h => ?_) (fun h => ?_)
  · refine r_iconst (v := 0) dL_agrees_270 rfl rfl ?_
    exact r_zretc (by decide) rfl dL_agrees_271 h
  · refine r_aload_n 0 dL_agrees_242 rfl ?_
    refine r_iload_n 1 dL_agrees_243 rfl ?_
    refine r_iload_n 2 dL_agrees_244 rfl ?_
    refine r_iconst (v := 0) dL_agrees_245 rfl rfl ?_
    refine r_callV (K' := Y_X7_majorityBound) (R' := R_X7_majorityBound) (idx := 215) (n := 3) (b := a0) (as := [(0, a1), (0, a2), (0, 0)]) (rest := []) (C' := 0) (D' := 0) (cn := 7) rfl k0_X7_majorityBound kV_X7_majorityBound kl_L_215 ⟨by decide, by decide⟩ dL_agrees_246 rfl rfl (Nat.le_of_ble_eq_true rfl) (by decide) (by decide) rfl h (fun r hr => m_X7_majorityBound hl0 ⟨r, hr, hr⟩) (fun x3 τ4 _ h => ?_)
    refine r_iload 4 dL_agrees_249 rfl ?_
    refine r_icmp_ne 270 dL_agrees_251 (by decide) h (fun h => ?_) (fun h => ?_)
    · refine r_iconst (v := 0) dL_agrees_270 rfl rfl ?_
      exact r_zretc (by decide) rfl dL_agrees_271 h
    · refine r_aload_n 0 dL_agrees_254 rfl ?_
      refine r_iload_n 1 dL_agrees_255 rfl ?_
      refine r_iload_n 2 dL_agrees_256 rfl ?_
      refine r_iconst (v := 1) dL_agrees_257 rfl rfl ?_
      refine r_callV (K' := Y_X7_majorityBound) (R' := R_X7_majorityBound) (idx := 215) (n := 3) (b := a0) (as := [(0, a1), (0, a2), (0, 1)]) (rest := []) (C' := 0) (D' := 0) (cn := 7) rfl k0_X7_majorityBound kV_X7_majorityBound kl_L_215 ⟨by decide, by decide⟩ dL_agrees_258 rfl rfl (Nat.le_of_ble_eq_true rfl) (by decide) (by decide) rfl h (fun r hr => m_X7_majorityBound hl0 ⟨r, hr, hr⟩) (fun x5 τ6 _ h => ?_)
      refine r_iload 5 dL_agrees_261 rfl ?_
      refine r_icmp_ne 270 dL_agrees_263 (by decide) h (fun h => ?_) (fun h => ?_)
      · refine r_iconst (v := 0) dL_agrees_270 rfl rfl ?_
        exact r_zretc (by decide) rfl dL_agrees_271 h
      · refine r_iconst (v := 1) dL_agrees_266 rfl rfl ?_
        refine r_goto 271 dL_agrees_267 (by decide) ?_
        exact r_zretc (by decide) rfl dL_agrees_271 h

set_option maxRecDepth 100000 in
set_option maxHeartbeats 4000000 in
theorem t_L_agrees_225 {g : zF} (hl0 : g.2.2.2.1.stackTraces = false) {Q : zR × zS → Prop} (r73 : Int → Int → Int → Int → Int → Int → Int → Int → Int → zS → zFn) (hr73 : ∀ b0 b1 b2 b3 b4 b5 b6 b7 b8 τ, zo (r73 b0 b1 b2 b3 b4 b5 b6 b7 b8 τ) Q → zw g Y_L_agrees R_L_agrees 73 [(0, (4, b0)), (1, (0, b1)), (2, (0, b2)), (3, (4, b3)), (4, (0, b4)), (5, (0, b5)), (6, (0, b6)), (7, (0, b7)), (8, (0, b8))] [] τ 0 0 Q) {a0 a1 a2 a3 a4 a5 a6 a7 a8 : Int} {σ : zS} (h : zo (f_L_agrees_225 r73 a0 a1 a2 a3 a4 a5 a6 a7 a8 σ) Q) : zw g Y_L_agrees R_L_agrees 225 [(0, (4, a0)), (1, (0, a1)), (2, (0, a2)), (3, (4, a3)), (4, (0, a4)), (5, (0, a5)), (6, (0, a6)), (7, (0, a7)), (8, (0, a8))] [] σ 0 0 Q := by
  unfold f_L_agrees_225 at h
  refine r_iinc (L' := [(8, (0, (w32 (a8 + 1)))), (0, (4, a0)), (1, (0, a1)), (2, (0, a2)), (3, (4, a3)), (4, (0, a4)), (5, (0, a5)), (6, (0, a6)), (7, (0, a7))]) 8 dL_agrees_225 rfl (by decide) rfl ?_
  refine r_goto 73 dL_agrees_228 (by decide) ?_
  refine r_weak (L' := [(0, (4, a0)), (1, (0, a1)), (2, (0, a2)), (3, (4, a3)), (4, (0, a4)), (5, (0, a5)), (6, (0, a6)), (7, (0, a7)), (8, (0, (w32 (a8 + 1))))]) [1, 2, 3, 4, 5, 6, 7, 8, 0] rfl ?_
  refine r_room (C' := 0) (D' := 0) (by omega) (by omega) ?_
  exact hr73 _ _ _ _ _ _ _ _ _ _ h

set_option maxRecDepth 100000 in
set_option maxHeartbeats 4000000 in
theorem t_L_agrees_213 {g : zF} (hl0 : g.2.2.2.1.stackTraces = false) {Q : zR × zS → Prop} (r73 : Int → Int → Int → Int → Int → Int → Int → Int → Int → zS → zFn) (hr73 : ∀ b0 b1 b2 b3 b4 b5 b6 b7 b8 τ, zo (r73 b0 b1 b2 b3 b4 b5 b6 b7 b8 τ) Q → zw g Y_L_agrees R_L_agrees 73 [(0, (4, b0)), (1, (0, b1)), (2, (0, b2)), (3, (4, b3)), (4, (0, b4)), (5, (0, b5)), (6, (0, b6)), (7, (0, b7)), (8, (0, b8))] [] τ 0 0 Q) {a0 a1 a2 a3 a4 a8 a9 a10 a11 : Int} {σ : zS} (h : zo (f_L_agrees_213 r73 a0 a1 a2 a3 a4 a8 a9 a10 a11 σ) Q) : zw g Y_L_agrees R_L_agrees 213 [(0, (4, a0)), (1, (0, a1)), (2, (0, a2)), (3, (4, a3)), (4, (0, a4)), (8, (0, a8)), (9, (0, a9)), (10, (0, a10)), (11, (0, a11))] [] σ 0 0 Q := by
  unfold f_L_agrees_213 at h
  refine r_iload 8 dL_agrees_213 rfl ?_
  refine r_istore (L' := [(5, (0, a11)), (0, (4, a0)), (1, (0, a1)), (2, (0, a2)), (3, (4, a3)), (4, (0, a4)), (8, (0, a8)), (9, (0, a9)), (10, (0, a10)), (11, (0, a11))]) dL_agrees_215 (by decide) rfl ?_
  refine r_iload 7 dL_agrees_217 rfl ?_
  refine r_istore (L' := [(6, (0, a9)), (5, (0, a11)), (0, (4, a0)), (1, (0, a1)), (2, (0, a2)), (3, (4, a3)), (4, (0, a4)), (8, (0, a8)), (9, (0, a9)), (10, (0, a10)), (11, (0, a11))]) dL_agrees_219 (by decide) rfl ?_
  refine r_iload 9 dL_agrees_221 rfl ?_
  refine r_istore (L' := [(7, (0, a10)), (6, (0, a9)), (5, (0, a11)), (0, (4, a0)), (1, (0, a1)), (2, (0, a2)), (3, (4, a3)), (4, (0, a4)), (8, (0, a8)), (9, (0, a9)), (10, (0, a10)), (11, (0, a11))]) dL_agrees_223 (by decide) rfl ?_
  refine r_weak (L' := [(0, (4, a0)), (1, (0, a1)), (2, (0, a2)), (3, (4, a3)), (4, (0, a4)), (5, (0, a11)), (6, (0, a9)), (7, (0, a10)), (8, (0, a8))]) [3, 4, 5, 6, 7, 2, 1, 0, 8] rfl ?_
  refine r_room (C' := 0) (D' := 0) (by omega) (by omega) ?_
  exact t_L_agrees_225 hl0  r73 hr73 h

set_option maxRecDepth 100000 in
set_option maxHeartbeats 4000000 in
theorem t_L_agrees_173 {g : zF} (hl0 : g.2.2.2.1.stackTraces = false) {Q : zR × zS → Prop} (r73 : Int → Int → Int → Int → Int → Int → Int → Int → Int → zS → zFn) (hr73 : ∀ b0 b1 b2 b3 b4 b5 b6 b7 b8 τ, zo (r73 b0 b1 b2 b3 b4 b5 b6 b7 b8 τ) Q → zw g Y_L_agrees R_L_agrees 73 [(0, (4, b0)), (1, (0, b1)), (2, (0, b2)), (3, (4, b3)), (4, (0, b4)), (5, (0, b5)), (6, (0, b6)), (7, (0, b7)), (8, (0, b8))] [] τ 0 0 Q) {a0 a1 a2 a3 a4 a5 a6 a7 a8 a9 a10 a11 : Int} {σ : zS} (h : zo (f_L_agrees_173 r73 a0 a1 a2 a3 a4 a5 a6 a7 a8 a9 a10 a11 σ) Q) : zw g Y_L_agrees R_L_agrees 173 [(0, (4, a0)), (1, (0, a1)), (2, (0, a2)), (3, (4, a3)), (4, (0, a4)), (5, (0, a5)), (6, (0, a6)), (7, (0, a7)), (8, (0, a8)), (9, (0, a9)), (10, (0, a10)), (11, (0, a11))] [] σ 0 0 Q := by
  unfold f_L_agrees_173 at h
  refine r_iload 11 dL_agrees_173 rfl ?_
  refine r_callS (K' := Y_J6_bitCount_0f7a4) (R' := R_J6_bitCount_0f7a4) (idx := 207) (n := 1) (as := [(0, a11)]) (rest := []) (C' := 0) (D' := 0) rfl k0_J6_bitCount_0f7a4 wd_1216 kl_L_207 ⟨by decide, by decide⟩ dL_agrees_175 rfl rfl (Nat.le_of_ble_eq_true rfl) (by decide) (by decide) h (fun r hr => m_J6_bitCount_0f7a4 hl0 ⟨r, hr, hr⟩) (fun x1 τ2 _ h => ?_)
  refine r_iload 5 dL_agrees_178 rfl ?_
  refine r_callS (K' := Y_J6_bitCount_0f7a4) (R' := R_J6_bitCount_0f7a4) (idx := 207) (n := 1) (as := [(0, a5)]) (rest := [(0, x1)]) (C' := 0) (D' := 0) rfl k0_J6_bitCount_0f7a4 wd_1216 kl_L_207 ⟨by decide, by decide⟩ dL_agrees_180 rfl rfl (Nat.le_of_ble_eq_true rfl) (by decide) (by decide) h (fun r hr => m_J6_bitCount_0f7a4 hl0 ⟨r, hr, hr⟩) (fun x3 τ4 _ h => ?_)
  refine r_isub dL_agrees_183 ?_
  refine r_istore (L' := [(12, (0, (w32 (x1 - x3)))), (0, (4, a0)), (1, (0, a1)), (2, (0, a2)), (3, (4, a3)), (4, (0, a4)), (5, (0, a5)), (6, (0, a6)), (7, (0, a7)), (8, (0, a8)), (9, (0, a9)), (10, (0, a10)), (11, (0, a11))]) dL_agrees_184 (by decide) rfl ?_
  refine r_iload 10 dL_agrees_186 rfl ?_
  refine r_iload 11 dL_agrees_188 rfl ?_
  refine r_icmp_gt 225 dL_agrees_190 (by decide) h (fun h => ?_) (fun h => ?_)
  · refine r_weak (L' := [(0, (4, a0)), (1, (0, a1)), (2, (0, a2)), (3, (4, a3)), (4, (0, a4)), (5, (0, a5)), (6, (0, a6)), (7, (0, a7)), (8, (0, a8))]) [1, 2, 3, 4, 5, 6, 7, 8, 9] rfl ?_
    refine r_room (C' := 0) (D' := 0) (by omega) (by omega) ?_
    exact t_L_agrees_225 hl0  r73 hr73 h
  · refine r_iload 0 dL_agrees_193 rfl ?_
    refine r_if_lt 225 dL_agrees_195 (by decide) h (fun h => ?_) (fun h => ?_)
    · refine r_weak (L' := [(0, (4, a0)), (1, (0, a1)), (2, (0, a2)), (3, (4, a3)), (4, (0, a4)), (5, (0, a5)), (6, (0, a6)), (7, (0, a7)), (8, (0, a8))]) [1, 2, 3, 4, 5, 6, 7, 8, 9] rfl ?_
      refine r_room (C' := 0) (D' := 0) (by omega) (by omega) ?_
      exact t_L_agrees_225 hl0  r73 hr73 h
    · refine r_iload 0 dL_agrees_198 rfl ?_
      refine r_if_ne 213 dL_agrees_200 (by decide) h (fun h => ?_) (fun h => ?_)
      · refine r_weak (L' := [(0, (4, a0)), (1, (0, a1)), (2, (0, a2)), (3, (4, a3)), (4, (0, a4)), (8, (0, a8)), (9, (0, a9)), (10, (0, a10)), (11, (0, a11))]) [1, 2, 3, 4, 5, 9, 10, 11, 12] rfl ?_
        refine r_room (C' := 0) (D' := 0) (by omega) (by omega) ?_
        exact t_L_agrees_213 hl0  r73 hr73 h
      · refine r_iload 12 dL_agrees_203 rfl ?_
        refine r_iload 6 dL_agrees_205 rfl ?_
        refine r_icmp_le 213 dL_agrees_207 (by decide) h (fun h => ?_) (fun h => ?_)
        · refine r_weak (L' := [(0, (4, a0)), (1, (0, a1)), (2, (0, a2)), (3, (4, a3)), (4, (0, a4)), (8, (0, a8)), (9, (0, a9)), (10, (0, a10)), (11, (0, a11))]) [1, 2, 3, 4, 5, 9, 10, 11, 12] rfl ?_
          refine r_room (C' := 0) (D' := 0) (by omega) (by omega) ?_
          exact t_L_agrees_213 hl0  r73 hr73 h
        · refine r_goto 225 dL_agrees_210 (by decide) ?_
          refine r_weak (L' := [(0, (4, a0)), (1, (0, a1)), (2, (0, a2)), (3, (4, a3)), (4, (0, a4)), (5, (0, a5)), (6, (0, a6)), (7, (0, a7)), (8, (0, a8))]) [1, 2, 3, 4, 5, 6, 7, 8, 9] rfl ?_
          refine r_room (C' := 0) (D' := 0) (by omega) (by omega) ?_
          exact t_L_agrees_225 hl0  r73 hr73 h

set_option maxRecDepth 100000 in
set_option maxHeartbeats 4000000 in
theorem t_L_agrees_167 {g : zF} (hl0 : g.2.2.2.1.stackTraces = false) {Q : zR × zS → Prop} (r73 : Int → Int → Int → Int → Int → Int → Int → Int → Int → zS → zFn) (r96 : Int → Int → Int → Int → Int → Int → Int → Int → Int → Int → Int → Int → Int → zS → zFn) (hr73 : ∀ b0 b1 b2 b3 b4 b5 b6 b7 b8 τ, zo (r73 b0 b1 b2 b3 b4 b5 b6 b7 b8 τ) Q → zw g Y_L_agrees R_L_agrees 73 [(0, (4, b0)), (1, (0, b1)), (2, (0, b2)), (3, (4, b3)), (4, (0, b4)), (5, (0, b5)), (6, (0, b6)), (7, (0, b7)), (8, (0, b8))] [] τ 0 0 Q) (hr96 : ∀ b0 b1 b2 b3 b4 b5 b6 b7 b8 b9 b10 b11 b12 τ, zo (r96 b0 b1 b2 b3 b4 b5 b6 b7 b8 b9 b10 b11 b12 τ) Q → zw g Y_L_agrees R_L_agrees 96 [(0, (4, b0)), (1, (0, b1)), (2, (0, b2)), (3, (4, b3)), (4, (0, b4)), (5, (0, b5)), (6, (0, b6)), (7, (0, b7)), (8, (0, b8)), (9, (0, b9)), (10, (0, b10)), (11, (0, b11)), (12, (0, b12))] [] τ 0 0 Q) {a0 a1 a2 a3 a4 a5 a6 a7 a8 a9 a10 a11 a12 : Int} {σ : zS} (h : zo (f_L_agrees_167 r73 r96 a0 a1 a2 a3 a4 a5 a6 a7 a8 a9 a10 a11 a12 σ) Q) : zw g Y_L_agrees R_L_agrees 167 [(0, (4, a0)), (1, (0, a1)), (2, (0, a2)), (3, (4, a3)), (4, (0, a4)), (5, (0, a5)), (6, (0, a6)), (7, (0, a7)), (8, (0, a8)), (9, (0, a9)), (10, (0, a10)), (11, (0, a11)), (12, (0, a12))] [] σ 0 0 Q := by
  unfold f_L_agrees_167 at h
  refine r_iinc (L' := [(12, (0, (w32 (a12 + 1)))), (0, (4, a0)), (1, (0, a1)), (2, (0, a2)), (3, (4, a3)), (4, (0, a4)), (5, (0, a5)), (6, (0, a6)), (7, (0, a7)), (8, (0, a8)), (9, (0, a9)), (10, (0, a10)), (11, (0, a11))]) 12 dL_agrees_167 rfl (by decide) rfl ?_
  refine r_goto 96 dL_agrees_170 (by decide) ?_
  refine r_weak (L' := [(0, (4, a0)), (1, (0, a1)), (2, (0, a2)), (3, (4, a3)), (4, (0, a4)), (5, (0, a5)), (6, (0, a6)), (7, (0, a7)), (8, (0, a8)), (9, (0, a9)), (10, (0, a10)), (11, (0, a11)), (12, (0, (w32 (a12 + 1))))]) [1, 2, 3, 4, 5, 6, 7, 8, 9, 10, 11, 12, 0] rfl ?_
  refine r_room (C' := 0) (D' := 0) (by omega) (by omega) ?_
  exact hr96 _ _ _ _ _ _ _ _ _ _ _ _ _ _ h

set_option maxRecDepth 100000 in
set_option maxHeartbeats 4000000 in
theorem t_L_agrees_96 {g : zF} (hl0 : g.2.2.2.1.stackTraces = false) {Q : zR × zS → Prop} (r73 : Int → Int → Int → Int → Int → Int → Int → Int → Int → zS → zFn) (hr73 : ∀ b0 b1 b2 b3 b4 b5 b6 b7 b8 τ, zo (r73 b0 b1 b2 b3 b4 b5 b6 b7 b8 τ) Q → zw g Y_L_agrees R_L_agrees 73 [(0, (4, b0)), (1, (0, b1)), (2, (0, b2)), (3, (4, b3)), (4, (0, b4)), (5, (0, b5)), (6, (0, b6)), (7, (0, b7)), (8, (0, b8))] [] τ 0 0 Q) : ∀ (n : Nat) (a0 a1 a2 a3 a4 a5 a6 a7 a8 a9 a10 a11 a12 : Int) (σ : zS), zo (f_L_agrees_96 r73 n a0 a1 a2 a3 a4 a5 a6 a7 a8 a9 a10 a11 a12 σ) Q → zw g Y_L_agrees R_L_agrees 96 [(0, (4, a0)), (1, (0, a1)), (2, (0, a2)), (3, (4, a3)), (4, (0, a4)), (5, (0, a5)), (6, (0, a6)), (7, (0, a7)), (8, (0, a8)), (9, (0, a9)), (10, (0, a10)), (11, (0, a11)), (12, (0, a12))] [] σ 0 0 Q := by
  intro n
  induction n with
  | zero => intro a0 a1 a2 a3 a4 a5 a6 a7 a8 a9 a10 a11 a12 σ h; obtain ⟨r, h, -⟩ := h; cases h
  | succ n ih =>
    intro a0 a1 a2 a3 a4 a5 a6 a7 a8 a9 a10 a11 a12 σ h
    unfold f_L_agrees_96 at h
    refine r_iload 12 dL_agrees_96 rfl ?_
    refine r_iload 4 dL_agrees_98 rfl ?_
    refine r_icmp_ge 173 dL_agrees_100 (by decide) h (fun h => ?_) (fun h => ?_)
    · refine r_weak (L' := [(0, (4, a0)), (1, (0, a1)), (2, (0, a2)), (3, (4, a3)), (4, (0, a4)), (5, (0, a5)), (6, (0, a6)), (7, (0, a7)), (8, (0, a8)), (9, (0, a9)), (10, (0, a10)), (11, (0, a11))]) [0, 1, 2, 3, 4, 5, 6, 7, 8, 9, 10, 11] rfl ?_
      refine r_room (C' := 0) (D' := 0) (by omega) (by omega) ?_
      exact t_L_agrees_173 hl0  r73 hr73 h
    · refine r_iload 8 dL_agrees_103 rfl ?_
      refine r_iload 12 dL_agrees_105 rfl ?_
      refine r_ishr dL_agrees_107 ?_
      refine r_iconst (v := 1) dL_agrees_108 rfl rfl ?_
      refine r_iand dL_agrees_109 ?_
      refine r_if_ne 116 dL_agrees_110 (by decide) h (fun h => ?_) (fun h => ?_)
      · refine r_iload 9 dL_agrees_116 rfl ?_
        refine r_aload_n 0 dL_agrees_118 rfl ?_
        refine r_iload_n 1 dL_agrees_119 rfl ?_
        refine r_aload_n 3 dL_agrees_120 rfl ?_
        refine r_iload 12 dL_agrees_121 rfl ?_
        refine r_iald dL_agrees_123 h (fun x1 h => ?_)
        refine r_iconst (v := 0) dL_agrees_124 rfl rfl ?_
        refine r_callV (K' := Y_X7_moved) (R' := R_X7_moved) (idx := 185) (n := 3) (b := a0) (as := [(0, a1), (0, x1), (0, 0)]) (rest := [(0, a9)]) (C' := 0) (D' := 0) (cn := 7) rfl k0_X7_moved kV_X7_moved kl_L_185 ⟨by decide, by decide⟩ dL_agrees_125 rfl rfl (Nat.le_of_ble_eq_true rfl) (by decide) (by decide) rfl h (fun r hr => m_X7_moved hl0 ⟨r, hr, hr⟩) (fun x2 τ3 _ h => ?_)
        refine r_mmax mq_L_144 ⟨by decide, Nat.le_of_ble_eq_true rfl⟩ rfl dL_agrees_128 ?_
        refine r_istore (L' := [(9, (0, (max a9 x2))), (0, (4, a0)), (1, (0, a1)), (2, (0, a2)), (3, (4, a3)), (4, (0, a4)), (5, (0, a5)), (6, (0, a6)), (7, (0, a7)), (8, (0, a8)), (10, (0, a10)), (11, (0, a11)), (12, (0, a12))]) dL_agrees_131 (by decide) rfl ?_
        refine r_iload 10 dL_agrees_133 rfl ?_
        refine r_aload_n 1 dL_agrees_135 rfl ?_
        refine r_iload_n 2 dL_agrees_136 rfl ?_
        refine r_aload_n 4 dL_agrees_137 rfl ?_
        refine r_iload 12 dL_agrees_138 rfl ?_
        refine r_iald dL_agrees_140 h (fun x4 h => ?_)
        refine r_iconst (v := 1) dL_agrees_141 rfl rfl ?_
        refine r_callV (K' := Y_X7_moved) (R' := R_X7_moved) (idx := 185) (n := 3) (b := a0) (as := [(0, a1), (0, x4), (0, 1)]) (rest := [(0, a10)]) (C' := 0) (D' := 0) (cn := 7) rfl k0_X7_moved kV_X7_moved kl_L_185 ⟨by decide, by decide⟩ dL_agrees_142 rfl rfl (Nat.le_of_ble_eq_true rfl) (by decide) (by decide) rfl h (fun r hr => m_X7_moved hl0 ⟨r, hr, hr⟩) (fun x5 τ6 _ h => ?_)
        refine r_mmin mq_L_30 ⟨by decide, Nat.le_of_ble_eq_true rfl⟩ rfl dL_agrees_145 ?_
        refine r_istore (L' := [(10, (0, (min a10 x5))), (9, (0, (max a9 x2))), (0, (4, a0)), (1, (0, a1)), (2, (0, a2)), (3, (4, a3)), (4, (0, a4)), (5, (0, a5)), (6, (0, a6)), (7, (0, a7)), (8, (0, a8)), (11, (0, a11)), (12, (0, a12))]) dL_agrees_148 (by decide) rfl ?_
        refine r_iload 11 dL_agrees_150 rfl ?_
        refine r_iconst (v := 1) dL_agrees_152 rfl rfl ?_
        refine r_aload_n 2 dL_agrees_153 rfl ?_
        refine r_iload_n 3 dL_agrees_154 rfl ?_
        refine r_aload_n 5 dL_agrees_155 rfl ?_
        refine r_iload 12 dL_agrees_156 rfl ?_
        refine r_iald dL_agrees_158 h (fun x7 h => ?_)
        refine r_iconst (v := 0) dL_agrees_159 rfl rfl ?_
        refine r_callV (K' := Y_X7_report) (R' := R_X7_report) (idx := 140) (n := 3) (b := a0) (as := [(0, a1), (0, x7), (0, 0)]) (rest := [(0, 1), (0, a11)]) (C' := 0) (D' := 0) (cn := 7) rfl k0_X7_report kV_X7_report kl_L_140 ⟨by decide, by decide⟩ dL_agrees_160 rfl rfl (Nat.le_of_ble_eq_true rfl) (by decide) (by decide) rfl h (fun r hr => m_X7_report hl0 ⟨r, hr, hr⟩) (fun x8 τ9 _ h => ?_)
        refine r_ishl dL_agrees_163 ?_
        refine r_ior dL_agrees_164 ?_
        refine r_istore (L' := [(11, (0, (zor a11 (zshl 1 x8)))), (10, (0, (min a10 x5))), (9, (0, (max a9 x2))), (0, (4, a0)), (1, (0, a1)), (2, (0, a2)), (3, (4, a3)), (4, (0, a4)), (5, (0, a5)), (6, (0, a6)), (7, (0, a7)), (8, (0, a8)), (12, (0, a12))]) dL_agrees_165 (by decide) rfl ?_
        refine r_weak (L' := [(0, (4, a0)), (1, (0, a1)), (2, (0, a2)), (3, (4, a3)), (4, (0, a4)), (5, (0, a5)), (6, (0, a6)), (7, (0, a7)), (8, (0, a8)), (9, (0, (max a9 x2))), (10, (0, (min a10 x5))), (11, (0, (zor a11 (zshl 1 x8)))), (12, (0, a12))]) [3, 4, 5, 6, 7, 8, 9, 10, 11, 2, 1, 0, 12] rfl ?_
        refine r_room (C' := 0) (D' := 0) (by omega) (by omega) ?_
        exact t_L_agrees_167 hl0  r73 (f_L_agrees_96 r73 n) hr73 (fun b0 b1 b2 b3 b4 b5 b6 b7 b8 b9 b10 b11 b12 τ h => ih b0 b1 b2 b3 b4 b5 b6 b7 b8 b9 b10 b11 b12 τ h) h
      · refine r_goto 167 dL_agrees_113 (by decide) ?_
        refine r_room (C' := 0) (D' := 0) (by omega) (by omega) ?_
        exact t_L_agrees_167 hl0  r73 (f_L_agrees_96 r73 n) hr73 (fun b0 b1 b2 b3 b4 b5 b6 b7 b8 b9 b10 b11 b12 τ h => ih b0 b1 b2 b3 b4 b5 b6 b7 b8 b9 b10 b11 b12 τ h) h

set_option maxRecDepth 100000 in
set_option maxHeartbeats 4000000 in
theorem t_L_agrees_73 {g : zF} (hl0 : g.2.2.2.1.stackTraces = false) {Q : zR × zS → Prop}   : ∀ (n : Nat) (a0 a1 a2 a3 a4 a5 a6 a7 a8 : Int) (σ : zS), zo (f_L_agrees_73  n a0 a1 a2 a3 a4 a5 a6 a7 a8 σ) Q → zw g Y_L_agrees R_L_agrees 73 [(0, (4, a0)), (1, (0, a1)), (2, (0, a2)), (3, (4, a3)), (4, (0, a4)), (5, (0, a5)), (6, (0, a6)), (7, (0, a7)), (8, (0, a8))] [] σ 0 0 Q := by
  intro n
  induction n with
  | zero => intro a0 a1 a2 a3 a4 a5 a6 a7 a8 σ h; obtain ⟨r, h, -⟩ := h; cases h
  | succ n ih =>
    intro a0 a1 a2 a3 a4 a5 a6 a7 a8 σ h
    unfold f_L_agrees_73 at h
    refine r_iload 8 dL_agrees_73 rfl ?_
    refine r_iconst (v := 1) dL_agrees_75 rfl rfl ?_
    refine r_iload 4 dL_agrees_76 rfl ?_
    refine r_ishl dL_agrees_78 ?_
    refine r_icmp_ge 231 dL_agrees_79 (by decide) h (fun h => ?_) (fun h => ?_)
    · refine r_weak (L' := [(0, (4, a0)), (1, (0, a1)), (2, (0, a2)), (5, (0, a5)), (6, (0, a6)), (7, (0, a7))]) [0, 1, 2, 5, 6, 7] rfl ?_
      refine r_room (C' := 0) (D' := 0) (by omega) (by omega) ?_
      exact t_L_agrees_231 hl0    h
    · refine r_iconst (v := 0) dL_agrees_82 rfl rfl ?_
      refine r_istore (L' := [(9, (0, 0)), (0, (4, a0)), (1, (0, a1)), (2, (0, a2)), (3, (4, a3)), (4, (0, a4)), (5, (0, a5)), (6, (0, a6)), (7, (0, a7)), (8, (0, a8))]) dL_agrees_83 (by decide) rfl ?_
      refine r_sipush (v := 999) dL_agrees_85 rfl rfl ?_
      refine r_istore (L' := [(10, (0, 999)), (9, (0, 0)), (0, (4, a0)), (1, (0, a1)), (2, (0, a2)), (3, (4, a3)), (4, (0, a4)), (5, (0, a5)), (6, (0, a6)), (7, (0, a7)), (8, (0, a8))]) dL_agrees_88 (by decide) rfl ?_
      refine r_iconst (v := 0) dL_agrees_90 rfl rfl ?_
      refine r_istore (L' := [(11, (0, 0)), (10, (0, 999)), (9, (0, 0)), (0, (4, a0)), (1, (0, a1)), (2, (0, a2)), (3, (4, a3)), (4, (0, a4)), (5, (0, a5)), (6, (0, a6)), (7, (0, a7)), (8, (0, a8))]) dL_agrees_91 (by decide) rfl ?_
      refine r_iconst (v := 0) dL_agrees_93 rfl rfl ?_
      refine r_istore (L' := [(12, (0, 0)), (11, (0, 0)), (10, (0, 999)), (9, (0, 0)), (0, (4, a0)), (1, (0, a1)), (2, (0, a2)), (3, (4, a3)), (4, (0, a4)), (5, (0, a5)), (6, (0, a6)), (7, (0, a7)), (8, (0, a8))]) dL_agrees_94 (by decide) rfl ?_
      refine r_weak (L' := [(0, (4, a0)), (1, (0, a1)), (2, (0, a2)), (3, (4, a3)), (4, (0, a4)), (5, (0, a5)), (6, (0, a6)), (7, (0, a7)), (8, (0, a8)), (9, (0, 0)), (10, (0, 999)), (11, (0, 0)), (12, (0, 0))]) [4, 5, 6, 7, 8, 9, 10, 11, 12, 3, 2, 1, 0] rfl ?_
      refine r_room (C' := 0) (D' := 0) (by omega) (by omega) ?_
      exact t_L_agrees_96 hl0  (f_L_agrees_73  n) (fun b0 b1 b2 b3 b4 b5 b6 b7 b8 τ h => ih b0 b1 b2 b3 b4 b5 b6 b7 b8 τ h) zFU _ _ _ _ _ _ _ _ _ _ _ _ _ _ h

set_option maxRecDepth 100000 in
set_option maxHeartbeats 4000000 in
theorem t_L_agrees_61 {g : zF} (hl0 : g.2.2.2.1.stackTraces = false) {Q : zR × zS → Prop}   {a0 a1 a2 a3 a4 : Int} {σ : zS} (h : zo (f_L_agrees_61  a0 a1 a2 a3 a4 σ) Q) : zw g Y_L_agrees R_L_agrees 61 [(0, (4, a0)), (1, (0, a1)), (2, (0, a2)), (3, (4, a3)), (4, (0, a4))] [] σ 0 0 Q := by
  unfold f_L_agrees_61 at h
  refine r_iconst (v := 0) dL_agrees_61 rfl rfl ?_
  refine r_istore (L' := [(5, (0, 0)), (0, (4, a0)), (1, (0, a1)), (2, (0, a2)), (3, (4, a3)), (4, (0, a4))]) dL_agrees_62 (by decide) rfl ?_
  refine r_iconst (v := (-1)) dL_agrees_64 rfl rfl ?_
  refine r_istore (L' := [(6, (0, (-1))), (5, (0, 0)), (0, (4, a0)), (1, (0, a1)), (2, (0, a2)), (3, (4, a3)), (4, (0, a4))]) dL_agrees_65 (by decide) rfl ?_
  refine r_iconst (v := (-1)) dL_agrees_67 rfl rfl ?_
  refine r_istore (L' := [(7, (0, (-1))), (6, (0, (-1))), (5, (0, 0)), (0, (4, a0)), (1, (0, a1)), (2, (0, a2)), (3, (4, a3)), (4, (0, a4))]) dL_agrees_68 (by decide) rfl ?_
  refine r_iconst (v := 1) dL_agrees_70 rfl rfl ?_
  refine r_istore (L' := [(8, (0, 1)), (7, (0, (-1))), (6, (0, (-1))), (5, (0, 0)), (0, (4, a0)), (1, (0, a1)), (2, (0, a2)), (3, (4, a3)), (4, (0, a4))]) dL_agrees_71 (by decide) rfl ?_
  refine r_weak (L' := [(0, (4, a0)), (1, (0, a1)), (2, (0, a2)), (3, (4, a3)), (4, (0, a4)), (5, (0, 0)), (6, (0, (-1))), (7, (0, (-1))), (8, (0, 1))]) [4, 5, 6, 7, 8, 3, 2, 1, 0] rfl ?_
  refine r_room (C' := 0) (D' := 0) (by omega) (by omega) ?_
  exact t_L_agrees_73 hl0    zFU _ _ _ _ _ _ _ _ _ _ h

set_option maxRecDepth 100000 in
set_option maxHeartbeats 4000000 in
theorem t_L_agrees_55 {g : zF} (hl0 : g.2.2.2.1.stackTraces = false) {Q : zR × zS → Prop} (r11 : Int → Int → Int → Int → Int → Int → zS → zFn) (hr11 : ∀ b0 b1 b2 b3 b4 b5 τ, zo (r11 b0 b1 b2 b3 b4 b5 τ) Q → zw g Y_L_agrees R_L_agrees 11 [(0, (4, b0)), (1, (0, b1)), (2, (0, b2)), (3, (4, b3)), (4, (0, b4)), (5, (0, b5))] [] τ 0 0 Q) {a0 a1 a2 a3 a4 a5 : Int} {σ : zS} (h : zo (f_L_agrees_55 r11 a0 a1 a2 a3 a4 a5 σ) Q) : zw g Y_L_agrees R_L_agrees 55 [(0, (4, a0)), (1, (0, a1)), (2, (0, a2)), (3, (4, a3)), (4, (0, a4)), (5, (0, a5))] [] σ 0 0 Q := by
  unfold f_L_agrees_55 at h
  refine r_iinc (L' := [(5, (0, (w32 (a5 + 1)))), (0, (4, a0)), (1, (0, a1)), (2, (0, a2)), (3, (4, a3)), (4, (0, a4))]) 5 dL_agrees_55 rfl (by decide) rfl ?_
  refine r_goto 11 dL_agrees_58 (by decide) ?_
  refine r_weak (L' := [(0, (4, a0)), (1, (0, a1)), (2, (0, a2)), (3, (4, a3)), (4, (0, a4)), (5, (0, (w32 (a5 + 1))))]) [1, 2, 3, 4, 5, 0] rfl ?_
  refine r_room (C' := 0) (D' := 0) (by omega) (by omega) ?_
  exact hr11 _ _ _ _ _ _ _ h

set_option maxRecDepth 100000 in
set_option maxHeartbeats 4000000 in
theorem t_L_agrees_11 {g : zF} (hl0 : g.2.2.2.1.stackTraces = false) {Q : zR × zS → Prop}   : ∀ (n : Nat) (a0 a1 a2 a3 a4 a5 : Int) (σ : zS), zo (f_L_agrees_11  n a0 a1 a2 a3 a4 a5 σ) Q → zw g Y_L_agrees R_L_agrees 11 [(0, (4, a0)), (1, (0, a1)), (2, (0, a2)), (3, (4, a3)), (4, (0, a4)), (5, (0, a5))] [] σ 0 0 Q := by
  intro n
  induction n with
  | zero => intro a0 a1 a2 a3 a4 a5 σ h; obtain ⟨r, h, -⟩ := h; cases h
  | succ n ih =>
    intro a0 a1 a2 a3 a4 a5 σ h
    unfold f_L_agrees_11 at h
    refine r_iload 5 dL_agrees_11 rfl ?_
    refine r_aload_n 0 dL_agrees_13 rfl ?_
    refine r_iload_n 1 dL_agrees_14 rfl ?_
    refine r_callV (K' := Y_X7_reports) (R' := R_X7_reports) (idx := 159) (n := 1) (b := a0) (as := [(0, a1)]) (rest := [(0, a5)]) (C' := 0) (D' := 0) (cn := 7) rfl k0_X7_reports kV_X7_reports kl_L_159 ⟨by decide, by decide⟩ dL_agrees_15 rfl rfl (Nat.le_of_ble_eq_true rfl) (by decide) (by decide) rfl h (fun r hr => m_X7_reports hl0 ⟨r, hr, hr⟩) (fun x1 τ2 _ h => ?_)
    refine r_icmp_ge 61 dL_agrees_18 (by decide) h (fun h => ?_) (fun h => ?_)
    · refine r_weak (L' := [(0, (4, a0)), (1, (0, a1)), (2, (0, a2)), (3, (4, a3)), (4, (0, a4))]) [0, 1, 2, 3, 4] rfl ?_
      refine r_room (C' := 0) (D' := 0) (by omega) (by omega) ?_
      exact t_L_agrees_61 hl0    h
    · refine r_aload_n 0 dL_agrees_21 rfl ?_
      refine r_iload_n 1 dL_agrees_22 rfl ?_
      refine r_iload 5 dL_agrees_23 rfl ?_
      refine r_iconst (v := 3) dL_agrees_25 rfl rfl ?_
      refine r_callV (K' := Y_X7_report) (R' := R_X7_report) (idx := 140) (n := 3) (b := a0) (as := [(0, a1), (0, a5), (0, 3)]) (rest := []) (C' := 0) (D' := 0) (cn := 7) rfl k0_X7_report kV_X7_report kl_L_140 ⟨by decide, by decide⟩ dL_agrees_26 rfl rfl (Nat.le_of_ble_eq_true rfl) (by decide) (by decide) rfl h (fun r hr => m_X7_report hl0 ⟨r, hr, hr⟩) (fun x3 τ4 _ h => ?_)
      refine r_iload_n 2 dL_agrees_29 rfl ?_
      refine r_icmp_ne 55 dL_agrees_30 (by decide) h (fun h => ?_) (fun h => ?_)
      · refine r_room (C' := 0) (D' := 0) (by omega) (by omega) ?_
        exact t_L_agrees_55 hl0  (f_L_agrees_11  n) (fun b0 b1 b2 b3 b4 b5 τ h => ih b0 b1 b2 b3 b4 b5 τ h) h
      · refine r_aload_n 0 dL_agrees_33 rfl ?_
        refine r_iload_n 1 dL_agrees_34 rfl ?_
        refine r_iload 5 dL_agrees_35 rfl ?_
        refine r_callS (K' := Y_L_isOut) (R' := R_L_isOut) (idx := 188) (n := 3) (as := [(4, a0), (0, a1), (0, a5)]) (rest := []) (C' := 0) (D' := 0) rfl k0_L_isOut wd_1182 kl_L_188 ⟨by decide, by decide⟩ dL_agrees_37 rfl rfl (Nat.le_of_ble_eq_true rfl) (by decide) (by decide) h (fun r hr => m_L_isOut hl0 ⟨r, hr, hr⟩) (fun x5 τ6 _ h => ?_)
        refine r_if_eq 46 dL_agrees_40 (by decide) h (fun h => ?_) (fun h => ?_)
        · refine r_aload_n 3 dL_agrees_46 rfl ?_
          refine r_iload 4 dL_agrees_47 rfl ?_
          refine r_iload 5 dL_agrees_49 rfl ?_
          refine r_iast dL_agrees_51 h (fun τ7 h => ?_)
          refine r_iinc (L' := [(4, (0, (w32 (a4 + 1)))), (0, (4, a0)), (1, (0, a1)), (2, (0, a2)), (3, (4, a3)), (5, (0, a5))]) 4 dL_agrees_52 rfl (by decide) rfl ?_
          refine r_weak (L' := [(0, (4, a0)), (1, (0, a1)), (2, (0, a2)), (3, (4, a3)), (4, (0, (w32 (a4 + 1)))), (5, (0, a5))]) [1, 2, 3, 4, 0, 5] rfl ?_
          refine r_room (C' := 0) (D' := 0) (by omega) (by omega) ?_
          exact t_L_agrees_55 hl0  (f_L_agrees_11  n) (fun b0 b1 b2 b3 b4 b5 τ h => ih b0 b1 b2 b3 b4 b5 τ h) h
        · refine r_goto 55 dL_agrees_43 (by decide) ?_
          refine r_room (C' := 0) (D' := 0) (by omega) (by omega) ?_
          exact t_L_agrees_55 hl0  (f_L_agrees_11  n) (fun b0 b1 b2 b3 b4 b5 τ h => ih b0 b1 b2 b3 b4 b5 τ h) h

set_option maxRecDepth 100000 in
set_option maxHeartbeats 4000000 in
theorem t_L_agrees {g : zF} (hl0 : g.2.2.2.1.stackTraces = false) {Q : zR × zS → Prop}   {a0 a1 a2 : Int} {σ : zS} (h : zo (f_L_agrees  a0 a1 a2 σ) Q) : zw g Y_L_agrees R_L_agrees 0 [(0, (4, a0)), (1, (0, a1)), (2, (0, a2))] [] σ 1 6 Q := by
  unfold f_L_agrees at h
  refine r_bipush (v := 6) dL_agrees_0 rfl rfl ?_
  refine r_newa1 (C' := 0) (D' := 0) (N := 6) wd_165 dL_agrees_2 (by decide) (by decide) (by decide) h (fun x1 τ2 h => ?_)
  refine r_astore_n (L' := [(3, (4, x1)), (0, (4, a0)), (1, (0, a1)), (2, (0, a2))]) dL_agrees_4 (by decide) rfl ?_
  refine r_iconst (v := 0) dL_agrees_5 rfl rfl ?_
  refine r_istore (L' := [(4, (0, 0)), (3, (4, x1)), (0, (4, a0)), (1, (0, a1)), (2, (0, a2))]) dL_agrees_6 (by decide) rfl ?_
  refine r_iconst (v := 0) dL_agrees_8 rfl rfl ?_
  refine r_istore (L' := [(5, (0, 0)), (4, (0, 0)), (3, (4, x1)), (0, (4, a0)), (1, (0, a1)), (2, (0, a2))]) dL_agrees_9 (by decide) rfl ?_
  refine r_weak (L' := [(0, (4, a0)), (1, (0, a1)), (2, (0, a2)), (3, (4, x1)), (4, (0, 0)), (5, (0, 0))]) [3, 4, 5, 2, 1, 0] rfl ?_
  refine r_room (C' := 0) (D' := 0) (by omega) (by omega) ?_
  exact t_L_agrees_11 hl0    zFU _ _ _ _ _ _ _ h
theorem m_L_agrees {g : zF} (hl0 : g.2.2.2.1.stackTraces = false) {Q : zR × zS → Prop} {a0 a1 a2 : Int} {σ : zS} (h : zo (f_L_agrees a0 a1 a2 σ) Q) : zm g Y_L_agrees R_L_agrees [(4, a0), (0, a1), (0, a2)] σ Q := zm_of (by decide) rfl (Nat.le_of_ble_eq_true rfl) (t_L_agrees hl0 h)


/- L_believes -/

set_option maxRecDepth 100000 in
set_option maxHeartbeats 4000000 in
theorem t_L_believes_404 {g : zF} (hl0 : g.2.2.2.1.stackTraces = false) {Q : zR × zS → Prop}   {a0 a1 a2 a5 a6 a7 a8 : Int} {σ : zS} (h : zo (f_L_believes_404  a0 a1 a2 a5 a6 a7 a8 σ) Q) : zw g Y_L_believes R_L_believes 404 [(0, (4, a0)), (1, (0, a1)), (2, (0, a2)), (5, (0, a5)), (6, (0, a6)), (7, (0, a7)), (8, (0, a8))] [] σ 1 6 Q := by
  unfold f_L_believes_404 at h
  refine r_aload_n 0 dL_believes_404 rfl ?_
  refine r_iload_n 1 dL_believes_405 rfl ?_
  refine r_iload_n 2 dL_believes_406 rfl ?_
  refine r_iconst (v := 0) dL_believes_407 rfl rfl ?_
  refine r_callV (K' := Y_X7_belief) (R' := R_X7_belief) (idx := 195) (n := 3) (b := a0) (as := [(0, a1), (0, a2), (0, 0)]) (rest := []) (C' := 1) (D' := 6) (cn := 7) rfl k0_X7_belief kV_X7_belief kl_L_195 ⟨by decide, by decide⟩ dL_believes_408 rfl rfl (Nat.le_of_ble_eq_true rfl) (by decide) (by decide) rfl h (fun r hr => m_X7_belief hl0 ⟨r, hr, hr⟩) (fun x1 τ2 _ h => ?_)
  refine r_iload 3 dL_believes_411 rfl ?_
  refine r_icmp_ne 463 dL_believes_413 (by decide) h (fun h => ?_) (fun h => ?_)
  · refine r_room (C' := 0) (D' := 0) (by omega) (by omega) ?_
    refine r_iconst (v := 0) dL_believes_463 rfl rfl ?_
    exact r_zretc (by decide) rfl dL_believes_464 h
  · refine r_aload_n 0 dL_believes_416 rfl ?_
    refine r_iload_n 1 dL_believes_417 rfl ?_
    refine r_iload_n 2 dL_believes_418 rfl ?_
    refine r_iconst (v := 1) dL_believes_419 rfl rfl ?_
    refine r_callV (K' := Y_X7_belief) (R' := R_X7_belief) (idx := 195) (n := 3) (b := a0) (as := [(0, a1), (0, a2), (0, 1)]) (rest := []) (C' := 1) (D' := 6) (cn := 7) rfl k0_X7_belief kV_X7_belief kl_L_195 ⟨by decide, by decide⟩ dL_believes_420 rfl rfl (Nat.le_of_ble_eq_true rfl) (by decide) (by decide) rfl h (fun r hr => m_X7_belief hl0 ⟨r, hr, hr⟩) (fun x3 τ4 _ h => ?_)
    refine r_iload 4 dL_believes_423 rfl ?_
    refine r_icmp_ne 463 dL_believes_425 (by decide) h (fun h => ?_) (fun h => ?_)
    · refine r_room (C' := 0) (D' := 0) (by omega) (by omega) ?_
      refine r_iconst (v := 0) dL_believes_463 rfl rfl ?_
      exact r_zretc (by decide) rfl dL_believes_464 h
    · refine r_aload_n 0 dL_believes_428 rfl ?_
      refine r_iload_n 1 dL_believes_429 rfl ?_
      refine r_iload_n 2 dL_believes_430 rfl ?_
      refine r_callV (K' := Y_X7_sources) (R' := R_X7_sources) (idx := 198) (n := 2) (b := a0) (as := [(0, a1), (0, a2)]) (rest := []) (C' := 1) (D' := 6) (cn := 7) rfl k0_X7_sources kV_X7_sources kl_L_198 ⟨by decide, by decide⟩ dL_believes_431 rfl rfl (Nat.le_of_ble_eq_true rfl) (by decide) (by decide) rfl h (fun r hr => m_X7_sources hl0 ⟨r, hr, hr⟩) (fun x5 τ6 _ h => ?_)
      refine r_iload 5 dL_believes_434 rfl ?_
      refine r_icmp_ne 463 dL_believes_436 (by decide) h (fun h => ?_) (fun h => ?_)
      · refine r_room (C' := 0) (D' := 0) (by omega) (by omega) ?_
        refine r_iconst (v := 0) dL_believes_463 rfl rfl ?_
        exact r_zretc (by decide) rfl dL_believes_464 h
      · refine r_aload_n 0 dL_believes_439 rfl ?_
        refine r_iload_n 1 dL_believes_440 rfl ?_
        refine r_iload_n 2 dL_believes_441 rfl ?_
        refine r_callV (K' := Y_X7_contradicted) (R' := R_X7_contradicted) (idx := 201) (n := 2) (b := a0) (as := [(0, a1), (0, a2)]) (rest := []) (C' := 1) (D' := 6) (cn := 7) rfl k0_X7_contradicted kV_X7_contradicted kl_L_201 ⟨by decide, by decide⟩ dL_believes_442 rfl rfl (Nat.le_of_ble_eq_true rfl) (by decide) (by decide) rfl h (fun r hr => m_X7_contradicted hl0 ⟨r, hr, hr⟩) (fun x7 τ8 _ h => ?_)
        refine r_iload 6 dL_believes_445 rfl ?_
        refine r_icmp_ne 463 dL_believes_447 (by decide) h (fun h => ?_) (fun h => ?_)
        · refine r_room (C' := 0) (D' := 0) (by omega) (by omega) ?_
          refine r_iconst (v := 0) dL_believes_463 rfl rfl ?_
          exact r_zretc (by decide) rfl dL_believes_464 h
        · refine r_aload_n 0 dL_believes_450 rfl ?_
          refine r_iload_n 1 dL_believes_451 rfl ?_
          refine r_iload_n 2 dL_believes_452 rfl ?_
          refine r_callS (K' := Y_L_agrees) (R' := R_L_agrees) (idx := 204) (n := 3) (as := [(4, a0), (0, a1), (0, a2)]) (rest := []) (C' := 0) (D' := 0) rfl k0_L_agrees wd_1213 kl_L_204 ⟨by decide, by decide⟩ dL_believes_453 rfl rfl (Nat.le_of_ble_eq_true rfl) (by decide) (by decide) h (fun r hr => m_L_agrees hl0 ⟨r, hr, hr⟩) (fun x9 τ10 _ h => ?_)
          refine r_if_eq 463 dL_believes_456 (by decide) h (fun h => ?_) (fun h => ?_)
          · refine r_iconst (v := 0) dL_believes_463 rfl rfl ?_
            exact r_zretc (by decide) rfl dL_believes_464 h
          · refine r_iconst (v := 1) dL_believes_459 rfl rfl ?_
            refine r_goto 464 dL_believes_460 (by decide) ?_
            exact r_zretc (by decide) rfl dL_believes_464 h

set_option maxRecDepth 100000 in
set_option maxHeartbeats 4000000 in
theorem t_L_believes_398 {g : zF} (hl0 : g.2.2.2.1.stackTraces = false) {Q : zR × zS → Prop} (r109 : Int → Int → Int → Int → Int → Int → Int → Int → Int → Int → zS → zFn) (hr109 : ∀ b0 b1 b2 b3 b4 b5 b6 b7 b8 b9 τ, zo (r109 b0 b1 b2 b3 b4 b5 b6 b7 b8 b9 τ) Q → zw g Y_L_believes R_L_believes 109 [(0, (4, b0)), (1, (0, b1)), (2, (0, b2)), (3, (4, b3)), (4, (0, b4)), (5, (0, b5)), (6, (0, b6)), (7, (0, b7)), (8, (0, b8)), (9, (0, b9))] [] τ 1 6 Q) {a0 a1 a2 a3 a4 a5 a6 a7 a8 a9 : Int} {σ : zS} (h : zo (f_L_believes_398 r109 a0 a1 a2 a3 a4 a5 a6 a7 a8 a9 σ) Q) : zw g Y_L_believes R_L_believes 398 [(0, (4, a0)), (1, (0, a1)), (2, (0, a2)), (3, (4, a3)), (4, (0, a4)), (5, (0, a5)), (6, (0, a6)), (7, (0, a7)), (8, (0, a8)), (9, (0, a9))] [] σ 1 6 Q := by
  unfold f_L_believes_398 at h
  refine r_iinc (L' := [(9, (0, (w32 (a9 + 1)))), (0, (4, a0)), (1, (0, a1)), (2, (0, a2)), (3, (4, a3)), (4, (0, a4)), (5, (0, a5)), (6, (0, a6)), (7, (0, a7)), (8, (0, a8))]) 9 dL_believes_398 rfl (by decide) rfl ?_
  refine r_goto 109 dL_believes_401 (by decide) ?_
  refine r_weak (L' := [(0, (4, a0)), (1, (0, a1)), (2, (0, a2)), (3, (4, a3)), (4, (0, a4)), (5, (0, a5)), (6, (0, a6)), (7, (0, a7)), (8, (0, a8)), (9, (0, (w32 (a9 + 1))))]) [1, 2, 3, 4, 5, 6, 7, 8, 9, 0] rfl ?_
  refine r_room (C' := 1) (D' := 6) (by omega) (by omega) ?_
  exact hr109 _ _ _ _ _ _ _ _ _ _ _ h

set_option maxRecDepth 100000 in
set_option maxHeartbeats 4000000 in
theorem t_L_believes_396 {g : zF} (hl0 : g.2.2.2.1.stackTraces = false) {Q : zR × zS → Prop} (r109 : Int → Int → Int → Int → Int → Int → Int → Int → Int → Int → zS → zFn) (hr109 : ∀ b0 b1 b2 b3 b4 b5 b6 b7 b8 b9 τ, zo (r109 b0 b1 b2 b3 b4 b5 b6 b7 b8 b9 τ) Q → zw g Y_L_believes R_L_believes 109 [(0, (4, b0)), (1, (0, b1)), (2, (0, b2)), (3, (4, b3)), (4, (0, b4)), (5, (0, b5)), (6, (0, b6)), (7, (0, b7)), (8, (0, b8)), (9, (0, b9))] [] τ 1 6 Q) {a0 a1 a2 a3 a4 a5 a7 a8 a9 s0 : Int} {σ : zS} (h : zo (f_L_believes_396 r109 a0 a1 a2 a3 a4 a5 a7 a8 a9 s0 σ) Q) : zw g Y_L_believes R_L_believes 396 [(0, (4, a0)), (1, (0, a1)), (2, (0, a2)), (3, (4, a3)), (4, (0, a4)), (5, (0, a5)), (7, (0, a7)), (8, (0, a8)), (9, (0, a9))] [(0, s0)] σ 1 6 Q := by
  unfold f_L_believes_396 at h
  refine r_istore (L' := [(6, (0, s0)), (0, (4, a0)), (1, (0, a1)), (2, (0, a2)), (3, (4, a3)), (4, (0, a4)), (5, (0, a5)), (7, (0, a7)), (8, (0, a8)), (9, (0, a9))]) dL_believes_396 (by decide) rfl ?_
  refine r_weak (L' := [(0, (4, a0)), (1, (0, a1)), (2, (0, a2)), (3, (4, a3)), (4, (0, a4)), (5, (0, a5)), (6, (0, s0)), (7, (0, a7)), (8, (0, a8)), (9, (0, a9))]) [1, 2, 3, 4, 5, 6, 0, 7, 8, 9] rfl ?_
  refine r_room (C' := 1) (D' := 6) (by omega) (by omega) ?_
  exact t_L_believes_398 hl0  r109 hr109 h

set_option maxRecDepth 100000 in
set_option maxHeartbeats 4000000 in
theorem t_L_believes_377 {g : zF} (hl0 : g.2.2.2.1.stackTraces = false) {Q : zR × zS → Prop} (r109 : Int → Int → Int → Int → Int → Int → Int → Int → Int → Int → zS → zFn) (hr109 : ∀ b0 b1 b2 b3 b4 b5 b6 b7 b8 b9 τ, zo (r109 b0 b1 b2 b3 b4 b5 b6 b7 b8 b9 τ) Q → zw g Y_L_believes R_L_believes 109 [(0, (4, b0)), (1, (0, b1)), (2, (0, b2)), (3, (4, b3)), (4, (0, b4)), (5, (0, b5)), (6, (0, b6)), (7, (0, b7)), (8, (0, b8)), (9, (0, b9))] [] τ 1 6 Q) {a0 a1 a2 a3 a4 a6 a7 a8 a9 a13 a15 s0 : Int} {σ : zS} (h : zo (f_L_believes_377 r109 a0 a1 a2 a3 a4 a6 a7 a8 a9 a13 a15 s0 σ) Q) : zw g Y_L_believes R_L_believes 377 [(0, (4, a0)), (1, (0, a1)), (2, (0, a2)), (3, (4, a3)), (4, (0, a4)), (6, (0, a6)), (7, (0, a7)), (8, (0, a8)), (9, (0, a9)), (13, (0, a13)), (15, (0, a15))] [(0, s0)] σ 1 6 Q := by
  unfold f_L_believes_377 at h
  refine r_istore (L' := [(5, (0, s0)), (0, (4, a0)), (1, (0, a1)), (2, (0, a2)), (3, (4, a3)), (4, (0, a4)), (6, (0, a6)), (7, (0, a7)), (8, (0, a8)), (9, (0, a9)), (13, (0, a13)), (15, (0, a15))]) dL_believes_377 (by decide) rfl ?_
  refine r_iload 11 dL_believes_379 rfl ?_
  refine r_if_eq 394 dL_believes_381 (by decide) h (fun h => ?_) (fun h => ?_)
  · refine r_iload 6 dL_believes_394 rfl ?_
    refine r_weak (L' := [(0, (4, a0)), (1, (0, a1)), (2, (0, a2)), (3, (4, a3)), (4, (0, a4)), (5, (0, s0)), (7, (0, a7)), (8, (0, a8)), (9, (0, a9))]) [1, 2, 3, 4, 5, 0, 7, 8, 9] rfl ?_
    refine r_room (C' := 1) (D' := 6) (by omega) (by omega) ?_
    exact t_L_believes_396 hl0  r109 hr109 h
  · refine r_iload 6 dL_believes_384 rfl ?_
    refine r_iload 10 dL_believes_386 rfl ?_
    refine r_mmin mq_L_30 ⟨by decide, Nat.le_of_ble_eq_true rfl⟩ rfl dL_believes_388 ?_
    refine r_goto 396 dL_believes_391 (by decide) ?_
    refine r_weak (L' := [(0, (4, a0)), (1, (0, a1)), (2, (0, a2)), (3, (4, a3)), (4, (0, a4)), (5, (0, s0)), (7, (0, a7)), (8, (0, a8)), (9, (0, a9))]) [1, 2, 3, 4, 5, 0, 7, 8, 9] rfl ?_
    refine r_room (C' := 1) (D' := 6) (by omega) (by omega) ?_
    exact t_L_believes_396 hl0  r109 hr109 h

set_option maxRecDepth 100000 in
set_option maxHeartbeats 4000000 in
theorem t_L_believes_357 {g : zF} (hl0 : g.2.2.2.1.stackTraces = false) {Q : zR × zS → Prop} (r109 : Int → Int → Int → Int → Int → Int → Int → Int → Int → Int → zS → zFn) (hr109 : ∀ b0 b1 b2 b3 b4 b5 b6 b7 b8 b9 τ, zo (r109 b0 b1 b2 b3 b4 b5 b6 b7 b8 b9 τ) Q → zw g Y_L_believes R_L_believes 109 [(0, (4, b0)), (1, (0, b1)), (2, (0, b2)), (3, (4, b3)), (4, (0, b4)), (5, (0, b5)), (6, (0, b6)), (7, (0, b7)), (8, (0, b8)), (9, (0, b9))] [] τ 1 6 Q) {a0 a1 a2 a3 a4 a5 a6 a7 a9 a12 a13 a15 s0 s1 : Int} {σ : zS} (h : zo (f_L_believes_357 r109 a0 a1 a2 a3 a4 a5 a6 a7 a9 a12 a13 a15 s0 s1 σ) Q) : zw g Y_L_believes R_L_believes 357 [(0, (4, a0)), (1, (0, a1)), (2, (0, a2)), (3, (4, a3)), (4, (0, a4)), (5, (0, a5)), (6, (0, a6)), (7, (0, a7)), (9, (0, a9)), (12, (0, a12)), (13, (0, a13)), (15, (0, a15))] [(0, s1), (0, s0)] σ 1 6 Q := by
  unfold f_L_believes_357 at h
  refine r_ior dL_believes_357 ?_
  refine r_istore (L' := [(8, (0, (zor s0 s1))), (0, (4, a0)), (1, (0, a1)), (2, (0, a2)), (3, (4, a3)), (4, (0, a4)), (5, (0, a5)), (6, (0, a6)), (7, (0, a7)), (9, (0, a9)), (12, (0, a12)), (13, (0, a13)), (15, (0, a15))]) dL_believes_358 (by decide) rfl ?_
  refine r_iload 12 dL_believes_360 rfl ?_
  refine r_if_eq 375 dL_believes_362 (by decide) h (fun h => ?_) (fun h => ?_)
  · refine r_iload 6 dL_believes_375 rfl ?_
    refine r_weak (L' := [(0, (4, a0)), (1, (0, a1)), (2, (0, a2)), (3, (4, a3)), (4, (0, a4)), (6, (0, a6)), (7, (0, a7)), (8, (0, (zor s0 s1))), (9, (0, a9)), (13, (0, a13)), (15, (0, a15))]) [1, 2, 3, 4, 5, 7, 8, 0, 9, 11, 12] rfl ?_
    refine r_room (C' := 1) (D' := 6) (by omega) (by omega) ?_
    exact t_L_believes_377 hl0  r109 hr109 h
  · refine r_iload 6 dL_believes_365 rfl ?_
    refine r_iload 10 dL_believes_367 rfl ?_
    refine r_mmax mq_L_144 ⟨by decide, Nat.le_of_ble_eq_true rfl⟩ rfl dL_believes_369 ?_
    refine r_goto 377 dL_believes_372 (by decide) ?_
    refine r_weak (L' := [(0, (4, a0)), (1, (0, a1)), (2, (0, a2)), (3, (4, a3)), (4, (0, a4)), (6, (0, a6)), (7, (0, a7)), (8, (0, (zor s0 s1))), (9, (0, a9)), (13, (0, a13)), (15, (0, a15))]) [1, 2, 3, 4, 5, 7, 8, 0, 9, 11, 12] rfl ?_
    refine r_room (C' := 1) (D' := 6) (by omega) (by omega) ?_
    exact t_L_believes_377 hl0  r109 hr109 h

set_option maxRecDepth 100000 in
set_option maxHeartbeats 4000000 in
theorem t_L_believes_333 {g : zF} (hl0 : g.2.2.2.1.stackTraces = false) {Q : zR × zS → Prop} (r109 : Int → Int → Int → Int → Int → Int → Int → Int → Int → Int → zS → zFn) (hr109 : ∀ b0 b1 b2 b3 b4 b5 b6 b7 b8 b9 τ, zo (r109 b0 b1 b2 b3 b4 b5 b6 b7 b8 b9 τ) Q → zw g Y_L_believes R_L_believes 109 [(0, (4, b0)), (1, (0, b1)), (2, (0, b2)), (3, (4, b3)), (4, (0, b4)), (5, (0, b5)), (6, (0, b6)), (7, (0, b7)), (8, (0, b8)), (9, (0, b9))] [] τ 1 6 Q) {a0 a1 a2 a3 a4 a5 a6 a8 a9 a10 a12 a13 a15 s0 s1 : Int} {σ : zS} (h : zo (f_L_believes_333 r109 a0 a1 a2 a3 a4 a5 a6 a8 a9 a10 a12 a13 a15 s0 s1 σ) Q) : zw g Y_L_believes R_L_believes 333 [(0, (4, a0)), (1, (0, a1)), (2, (0, a2)), (3, (4, a3)), (4, (0, a4)), (5, (0, a5)), (6, (0, a6)), (8, (0, a8)), (9, (0, a9)), (10, (0, a10)), (12, (0, a12)), (13, (0, a13)), (15, (0, a15))] [(0, s1), (0, s0)] σ 1 6 Q := by
  unfold f_L_believes_333 at h
  refine r_ior dL_believes_333 ?_
  refine r_istore (L' := [(7, (0, (zor s0 s1))), (0, (4, a0)), (1, (0, a1)), (2, (0, a2)), (3, (4, a3)), (4, (0, a4)), (5, (0, a5)), (6, (0, a6)), (8, (0, a8)), (9, (0, a9)), (10, (0, a10)), (12, (0, a12)), (13, (0, a13)), (15, (0, a15))]) dL_believes_334 (by decide) rfl ?_
  refine r_iload 8 dL_believes_336 rfl ?_
  refine r_iload 13 dL_believes_338 rfl ?_
  refine r_if_eq 347 dL_believes_340 (by decide) h (fun h => ?_) (fun h => ?_)
  · refine r_iconst (v := 1) dL_believes_347 rfl rfl ?_
    refine r_aload_n 1 dL_believes_348 rfl ?_
    refine r_iload_n 2 dL_believes_349 rfl ?_
    refine r_iload 10 dL_believes_350 rfl ?_
    refine r_iconst (v := 0) dL_believes_352 rfl rfl ?_
    refine r_callV (K' := Y_X7_report) (R' := R_X7_report) (idx := 140) (n := 3) (b := a0) (as := [(0, a1), (0, a10), (0, 0)]) (rest := [(0, 1), (0, a8)]) (C' := 1) (D' := 6) (cn := 7) rfl k0_X7_report kV_X7_report kl_L_140 ⟨by decide, by decide⟩ dL_believes_353 rfl rfl (Nat.le_of_ble_eq_true rfl) (by decide) (by decide) rfl h (fun r hr => m_X7_report hl0 ⟨r, hr, hr⟩) (fun x1 τ2 _ h => ?_)
    refine r_ishl dL_believes_356 ?_
    refine r_weak (L' := [(0, (4, a0)), (1, (0, a1)), (2, (0, a2)), (3, (4, a3)), (4, (0, a4)), (5, (0, a5)), (6, (0, a6)), (7, (0, (zor s0 s1))), (9, (0, a9)), (12, (0, a12)), (13, (0, a13)), (15, (0, a15))]) [1, 2, 3, 4, 5, 6, 7, 0, 9, 11, 12, 13] rfl ?_
    refine r_room (C' := 1) (D' := 6) (by omega) (by omega) ?_
    exact t_L_believes_357 hl0  r109 hr109 h
  · refine r_iconst (v := 0) dL_believes_343 rfl rfl ?_
    refine r_goto 357 dL_believes_344 (by decide) ?_
    refine r_weak (L' := [(0, (4, a0)), (1, (0, a1)), (2, (0, a2)), (3, (4, a3)), (4, (0, a4)), (5, (0, a5)), (6, (0, a6)), (7, (0, (zor s0 s1))), (9, (0, a9)), (12, (0, a12)), (13, (0, a13)), (15, (0, a15))]) [1, 2, 3, 4, 5, 6, 7, 0, 9, 11, 12, 13] rfl ?_
    refine r_room (C' := 1) (D' := 6) (by omega) (by omega) ?_
    exact t_L_believes_357 hl0  r109 hr109 h

set_option maxRecDepth 100000 in
set_option maxHeartbeats 4000000 in
theorem t_L_believes_299 {g : zF} (hl0 : g.2.2.2.1.stackTraces = false) {Q : zR × zS → Prop} (r109 : Int → Int → Int → Int → Int → Int → Int → Int → Int → Int → zS → zFn) (hr109 : ∀ b0 b1 b2 b3 b4 b5 b6 b7 b8 b9 τ, zo (r109 b0 b1 b2 b3 b4 b5 b6 b7 b8 b9 τ) Q → zw g Y_L_believes R_L_believes 109 [(0, (4, b0)), (1, (0, b1)), (2, (0, b2)), (3, (4, b3)), (4, (0, b4)), (5, (0, b5)), (6, (0, b6)), (7, (0, b7)), (8, (0, b8)), (9, (0, b9))] [] τ 1 6 Q) {a0 a1 a2 a3 a4 a5 a6 a7 a8 a9 a10 a12 a13 a14 a15 s0 s1 : Int} {σ : zS} (h : zo (f_L_believes_299 r109 a0 a1 a2 a3 a4 a5 a6 a7 a8 a9 a10 a12 a13 a14 a15 s0 s1 σ) Q) : zw g Y_L_believes R_L_believes 299 [(0, (4, a0)), (1, (0, a1)), (2, (0, a2)), (3, (4, a3)), (4, (0, a4)), (5, (0, a5)), (6, (0, a6)), (7, (0, a7)), (8, (0, a8)), (9, (0, a9)), (10, (0, a10)), (12, (0, a12)), (13, (0, a13)), (14, (0, a14)), (15, (0, a15))] [(0, s1), (0, s0)] σ 1 6 Q := by
  unfold f_L_believes_299 at h
  refine r_icmp_eq 304 dL_believes_299 (by decide) h (fun h => ?_) (fun h => ?_)
  · refine r_iload 13 dL_believes_304 rfl ?_
    refine r_if_eq 312 dL_believes_306 (by decide) h (fun h => ?_) (fun h => ?_)
    · refine r_iload 7 dL_believes_312 rfl ?_
      refine r_iload 14 dL_believes_314 rfl ?_
      refine r_if_eq 332 dL_believes_316 (by decide) h (fun h => ?_) (fun h => ?_)
      · refine r_iconst (v := 0) dL_believes_332 rfl rfl ?_
        refine r_weak (L' := [(0, (4, a0)), (1, (0, a1)), (2, (0, a2)), (3, (4, a3)), (4, (0, a4)), (5, (0, a5)), (6, (0, a6)), (8, (0, a8)), (9, (0, a9)), (10, (0, a10)), (12, (0, a12)), (13, (0, a13)), (15, (0, a15))]) [0, 1, 2, 3, 4, 5, 6, 8, 9, 10, 11, 12, 14] rfl ?_
        refine r_room (C' := 1) (D' := 6) (by omega) (by omega) ?_
        exact t_L_believes_333 hl0  r109 hr109 h
      · refine r_iconst (v := 1) dL_believes_319 rfl rfl ?_
        refine r_aload_n 0 dL_believes_320 rfl ?_
        refine r_iload_n 1 dL_believes_321 rfl ?_
        refine r_iload 10 dL_believes_322 rfl ?_
        refine r_iconst (v := 0) dL_believes_324 rfl rfl ?_
        refine r_callV (K' := Y_X7_report) (R' := R_X7_report) (idx := 140) (n := 3) (b := a0) (as := [(0, a1), (0, a10), (0, 0)]) (rest := [(0, 1), (0, a7)]) (C' := 1) (D' := 6) (cn := 7) rfl k0_X7_report kV_X7_report kl_L_140 ⟨by decide, by decide⟩ dL_believes_325 rfl rfl (Nat.le_of_ble_eq_true rfl) (by decide) (by decide) rfl h (fun r hr => m_X7_report hl0 ⟨r, hr, hr⟩) (fun x1 τ2 _ h => ?_)
        refine r_ishl dL_believes_328 ?_
        refine r_goto 333 dL_believes_329 (by decide) ?_
        refine r_weak (L' := [(0, (4, a0)), (1, (0, a1)), (2, (0, a2)), (3, (4, a3)), (4, (0, a4)), (5, (0, a5)), (6, (0, a6)), (8, (0, a8)), (9, (0, a9)), (10, (0, a10)), (12, (0, a12)), (13, (0, a13)), (15, (0, a15))]) [0, 1, 2, 3, 4, 5, 6, 8, 9, 10, 11, 12, 14] rfl ?_
        refine r_room (C' := 1) (D' := 6) (by omega) (by omega) ?_
        exact t_L_believes_333 hl0  r109 hr109 h
    · refine r_goto 398 dL_believes_309 (by decide) ?_
      refine r_weak (L' := [(0, (4, a0)), (1, (0, a1)), (2, (0, a2)), (3, (4, a3)), (4, (0, a4)), (5, (0, a5)), (6, (0, a6)), (7, (0, a7)), (8, (0, a8)), (9, (0, a9))]) [0, 1, 2, 3, 4, 5, 6, 7, 8, 9] rfl ?_
      refine r_room (C' := 1) (D' := 6) (by omega) (by omega) ?_
      exact t_L_believes_398 hl0  r109 hr109 h
  · refine r_room (C' := 0) (D' := 0) (by omega) (by omega) ?_
    refine r_iconst (v := 0) dL_believes_302 rfl rfl ?_
    exact r_zretc (by decide) rfl dL_believes_303 h

set_option maxRecDepth 100000 in
set_option maxHeartbeats 4000000 in
theorem t_L_believes_271 {g : zF} (hl0 : g.2.2.2.1.stackTraces = false) {Q : zR × zS → Prop} (r109 : Int → Int → Int → Int → Int → Int → Int → Int → Int → Int → zS → zFn) (hr109 : ∀ b0 b1 b2 b3 b4 b5 b6 b7 b8 b9 τ, zo (r109 b0 b1 b2 b3 b4 b5 b6 b7 b8 b9 τ) Q → zw g Y_L_believes R_L_believes 109 [(0, (4, b0)), (1, (0, b1)), (2, (0, b2)), (3, (4, b3)), (4, (0, b4)), (5, (0, b5)), (6, (0, b6)), (7, (0, b7)), (8, (0, b8)), (9, (0, b9))] [] τ 1 6 Q) {a0 a1 a2 a3 a4 a5 a6 a7 a8 a9 a10 a12 a13 a14 s0 : Int} {σ : zS} (h : zo (f_L_believes_271 r109 a0 a1 a2 a3 a4 a5 a6 a7 a8 a9 a10 a12 a13 a14 s0 σ) Q) : zw g Y_L_believes R_L_believes 271 [(0, (4, a0)), (1, (0, a1)), (2, (0, a2)), (3, (4, a3)), (4, (0, a4)), (5, (0, a5)), (6, (0, a6)), (7, (0, a7)), (8, (0, a8)), (9, (0, a9)), (10, (0, a10)), (12, (0, a12)), (13, (0, a13)), (14, (0, a14))] [(0, s0)] σ 1 6 Q := by
  unfold f_L_believes_271 at h
  refine r_istore (L' := [(15, (0, s0)), (0, (4, a0)), (1, (0, a1)), (2, (0, a2)), (3, (4, a3)), (4, (0, a4)), (5, (0, a5)), (6, (0, a6)), (7, (0, a7)), (8, (0, a8)), (9, (0, a9)), (10, (0, a10)), (12, (0, a12)), (13, (0, a13)), (14, (0, a14))]) dL_believes_271 (by decide) rfl ?_
  refine r_aload_n 1 dL_believes_273 rfl ?_
  refine r_iload_n 2 dL_believes_274 rfl ?_
  refine r_iload 11 dL_believes_275 rfl ?_
  refine r_callV (K' := Y_X7_status) (R' := R_X7_status) (idx := 192) (n := 2) (b := a0) (as := [(0, a1), (0, a10)]) (rest := []) (C' := 1) (D' := 6) (cn := 7) rfl k0_X7_status kV_X7_status kl_L_192 ⟨by decide, by decide⟩ dL_believes_277 rfl rfl (Nat.le_of_ble_eq_true rfl) (by decide) (by decide) rfl h (fun r hr => m_X7_status hl0 ⟨r, hr, hr⟩) (fun x1 τ2 _ h => ?_)
  refine r_iload 14 dL_believes_280 rfl ?_
  refine r_if_eq 289 dL_believes_282 (by decide) h (fun h => ?_) (fun h => ?_)
  · refine r_iload 0 dL_believes_289 rfl ?_
    refine r_if_eq 298 dL_believes_291 (by decide) h (fun h => ?_) (fun h => ?_)
    · refine r_iconst (v := 1) dL_believes_298 rfl rfl ?_
      refine r_weak (L' := [(0, (4, a0)), (1, (0, a1)), (2, (0, a2)), (3, (4, a3)), (4, (0, a4)), (5, (0, a5)), (6, (0, a6)), (7, (0, a7)), (8, (0, a8)), (9, (0, a9)), (10, (0, a10)), (12, (0, a12)), (13, (0, a13)), (14, (0, a14)), (15, (0, s0))]) [1, 2, 3, 4, 5, 6, 7, 8, 9, 10, 11, 12, 13, 14, 0] rfl ?_
      refine r_room (C' := 1) (D' := 6) (by omega) (by omega) ?_
      exact t_L_believes_299 hl0  r109 hr109 h
    · refine r_iconst (v := 0) dL_believes_294 rfl rfl ?_
      refine r_goto 299 dL_believes_295 (by decide) ?_
      refine r_weak (L' := [(0, (4, a0)), (1, (0, a1)), (2, (0, a2)), (3, (4, a3)), (4, (0, a4)), (5, (0, a5)), (6, (0, a6)), (7, (0, a7)), (8, (0, a8)), (9, (0, a9)), (10, (0, a10)), (12, (0, a12)), (13, (0, a13)), (14, (0, a14)), (15, (0, s0))]) [1, 2, 3, 4, 5, 6, 7, 8, 9, 10, 11, 12, 13, 14, 0] rfl ?_
      refine r_room (C' := 1) (D' := 6) (by omega) (by omega) ?_
      exact t_L_believes_299 hl0  r109 hr109 h
  · refine r_iconst (v := 2) dL_believes_285 rfl rfl ?_
    refine r_goto 299 dL_believes_286 (by decide) ?_
    refine r_weak (L' := [(0, (4, a0)), (1, (0, a1)), (2, (0, a2)), (3, (4, a3)), (4, (0, a4)), (5, (0, a5)), (6, (0, a6)), (7, (0, a7)), (8, (0, a8)), (9, (0, a9)), (10, (0, a10)), (12, (0, a12)), (13, (0, a13)), (14, (0, a14)), (15, (0, s0))]) [1, 2, 3, 4, 5, 6, 7, 8, 9, 10, 11, 12, 13, 14, 0] rfl ?_
    refine r_room (C' := 1) (D' := 6) (by omega) (by omega) ?_
    exact t_L_believes_299 hl0  r109 hr109 h

set_option maxRecDepth 100000 in
set_option maxHeartbeats 4000000 in
theorem t_L_believes_270 {g : zF} (hl0 : g.2.2.2.1.stackTraces = false) {Q : zR × zS → Prop} (r109 : Int → Int → Int → Int → Int → Int → Int → Int → Int → Int → zS → zFn) (hr109 : ∀ b0 b1 b2 b3 b4 b5 b6 b7 b8 b9 τ, zo (r109 b0 b1 b2 b3 b4 b5 b6 b7 b8 b9 τ) Q → zw g Y_L_believes R_L_believes 109 [(0, (4, b0)), (1, (0, b1)), (2, (0, b2)), (3, (4, b3)), (4, (0, b4)), (5, (0, b5)), (6, (0, b6)), (7, (0, b7)), (8, (0, b8)), (9, (0, b9))] [] τ 1 6 Q) {a0 a1 a2 a3 a4 a5 a6 a7 a8 a9 a10 a12 a13 a14 : Int} {σ : zS} (h : zo (f_L_believes_270 r109 a0 a1 a2 a3 a4 a5 a6 a7 a8 a9 a10 a12 a13 a14 σ) Q) : zw g Y_L_believes R_L_believes 270 [(0, (4, a0)), (1, (0, a1)), (2, (0, a2)), (3, (4, a3)), (4, (0, a4)), (5, (0, a5)), (6, (0, a6)), (7, (0, a7)), (8, (0, a8)), (9, (0, a9)), (10, (0, a10)), (12, (0, a12)), (13, (0, a13)), (14, (0, a14))] [] σ 1 6 Q := by
  unfold f_L_believes_270 at h
  refine r_iconst (v := 0) dL_believes_270 rfl rfl ?_
  refine r_room (C' := 1) (D' := 6) (by omega) (by omega) ?_
  exact t_L_believes_271 hl0  r109 hr109 h

set_option maxRecDepth 100000 in
set_option maxHeartbeats 4000000 in
theorem t_L_believes_205 {g : zF} (hl0 : g.2.2.2.1.stackTraces = false) {Q : zR × zS → Prop} (r109 : Int → Int → Int → Int → Int → Int → Int → Int → Int → Int → zS → zFn) (hr109 : ∀ b0 b1 b2 b3 b4 b5 b6 b7 b8 b9 τ, zo (r109 b0 b1 b2 b3 b4 b5 b6 b7 b8 b9 τ) Q → zw g Y_L_believes R_L_believes 109 [(0, (4, b0)), (1, (0, b1)), (2, (0, b2)), (3, (4, b3)), (4, (0, b4)), (5, (0, b5)), (6, (0, b6)), (7, (0, b7)), (8, (0, b8)), (9, (0, b9))] [] τ 1 6 Q) {a0 a1 a2 a3 a4 a5 a6 a7 a8 a9 a10 a12 s0 : Int} {σ : zS} (h : zo (f_L_believes_205 r109 a0 a1 a2 a3 a4 a5 a6 a7 a8 a9 a10 a12 s0 σ) Q) : zw g Y_L_believes R_L_believes 205 [(0, (4, a0)), (1, (0, a1)), (2, (0, a2)), (3, (4, a3)), (4, (0, a4)), (5, (0, a5)), (6, (0, a6)), (7, (0, a7)), (8, (0, a8)), (9, (0, a9)), (10, (0, a10)), (12, (0, a12))] [(0, s0)] σ 1 6 Q := by
  unfold f_L_believes_205 at h
  refine r_istore (L' := [(13, (0, s0)), (0, (4, a0)), (1, (0, a1)), (2, (0, a2)), (3, (4, a3)), (4, (0, a4)), (5, (0, a5)), (6, (0, a6)), (7, (0, a7)), (8, (0, a8)), (9, (0, a9)), (10, (0, a10)), (12, (0, a12))]) dL_believes_205 (by decide) rfl ?_
  refine r_aload_n 1 dL_believes_207 rfl ?_
  refine r_iload_n 2 dL_believes_208 rfl ?_
  refine r_iload 11 dL_believes_209 rfl ?_
  refine r_iconst (v := 0) dL_believes_211 rfl rfl ?_
  refine r_callV (K' := Y_X7_moved) (R' := R_X7_moved) (idx := 185) (n := 3) (b := a0) (as := [(0, a1), (0, a10), (0, 0)]) (rest := []) (C' := 1) (D' := 6) (cn := 7) rfl k0_X7_moved kV_X7_moved kl_L_185 ⟨by decide, by decide⟩ dL_believes_212 rfl rfl (Nat.le_of_ble_eq_true rfl) (by decide) (by decide) rfl h (fun r hr => m_X7_moved hl0 ⟨r, hr, hr⟩) (fun x1 τ2 _ h => ?_)
  refine r_iload 12 dL_believes_215 rfl ?_
  refine r_icmp_ne 233 dL_believes_217 (by decide) h (fun h => ?_) (fun h => ?_)
  · refine r_room (C' := 0) (D' := 0) (by omega) (by omega) ?_
    refine r_iconst (v := 0) dL_believes_233 rfl rfl ?_
    exact r_zretc (by decide) rfl dL_believes_234 h
  · refine r_aload_n 1 dL_believes_220 rfl ?_
    refine r_iload_n 2 dL_believes_221 rfl ?_
    refine r_iload 11 dL_believes_222 rfl ?_
    refine r_iconst (v := 1) dL_believes_224 rfl rfl ?_
    refine r_callV (K' := Y_X7_moved) (R' := R_X7_moved) (idx := 185) (n := 3) (b := a0) (as := [(0, a1), (0, a10), (0, 1)]) (rest := []) (C' := 1) (D' := 6) (cn := 7) rfl k0_X7_moved kV_X7_moved kl_L_185 ⟨by decide, by decide⟩ dL_believes_225 rfl rfl (Nat.le_of_ble_eq_true rfl) (by decide) (by decide) rfl h (fun r hr => m_X7_moved hl0 ⟨r, hr, hr⟩) (fun x3 τ4 _ h => ?_)
    refine r_iload 0 dL_believes_228 rfl ?_
    refine r_icmp_eq 235 dL_believes_230 (by decide) h (fun h => ?_) (fun h => ?_)
    · refine r_aload_n 1 dL_believes_235 rfl ?_
      refine r_iload_n 2 dL_believes_236 rfl ?_
      refine r_iload 11 dL_believes_237 rfl ?_
      refine r_callS (K' := Y_L_isOut) (R' := R_L_isOut) (idx := 188) (n := 3) (as := [(4, a0), (0, a1), (0, a10)]) (rest := []) (C' := 1) (D' := 6) rfl k0_L_isOut wd_1182 kl_L_188 ⟨by decide, by decide⟩ dL_believes_239 rfl rfl (Nat.le_of_ble_eq_true rfl) (by decide) (by decide) h (fun r hr => m_L_isOut hl0 ⟨r, hr, hr⟩) (fun x5 τ6 _ h => ?_)
      refine r_istore (L' := [(14, (0, x5)), (13, (0, s0)), (0, (4, a0)), (1, (0, a1)), (2, (0, a2)), (3, (4, a3)), (4, (0, a4)), (5, (0, a5)), (6, (0, a6)), (7, (0, a7)), (8, (0, a8)), (9, (0, a9)), (10, (0, a10)), (12, (0, a12))]) dL_believes_242 (by decide) rfl ?_
      refine r_iload 0 dL_believes_244 rfl ?_
      refine r_if_ne 270 dL_believes_246 (by decide) h (fun h => ?_) (fun h => ?_)
      · refine r_weak (L' := [(0, (4, a0)), (1, (0, a1)), (2, (0, a2)), (3, (4, a3)), (4, (0, a4)), (5, (0, a5)), (6, (0, a6)), (7, (0, a7)), (8, (0, a8)), (9, (0, a9)), (10, (0, a10)), (12, (0, a12)), (13, (0, s0)), (14, (0, x5))]) [2, 3, 4, 5, 6, 7, 8, 9, 10, 11, 12, 13, 1, 0] rfl ?_
        refine r_room (C' := 1) (D' := 6) (by omega) (by omega) ?_
        exact t_L_believes_270 hl0  r109 hr109 h
      · refine r_iload 7 dL_believes_249 rfl ?_
        refine r_iload 13 dL_believes_251 rfl ?_
        refine r_mmax mq_L_144 ⟨by decide, Nat.le_of_ble_eq_true rfl⟩ rfl dL_believes_253 ?_
        refine r_iload 8 dL_believes_256 rfl ?_
        refine r_iload 1 dL_believes_258 rfl ?_
        refine r_mmin mq_L_30 ⟨by decide, Nat.le_of_ble_eq_true rfl⟩ rfl dL_believes_260 ?_
        refine r_icmp_gt 270 dL_believes_263 (by decide) h (fun h => ?_) (fun h => ?_)
        · refine r_weak (L' := [(0, (4, a0)), (1, (0, a1)), (2, (0, a2)), (3, (4, a3)), (4, (0, a4)), (5, (0, a5)), (6, (0, a6)), (7, (0, a7)), (8, (0, a8)), (9, (0, a9)), (10, (0, a10)), (12, (0, a12)), (13, (0, s0)), (14, (0, x5))]) [2, 3, 4, 5, 6, 7, 8, 9, 10, 11, 12, 13, 1, 0] rfl ?_
          refine r_room (C' := 1) (D' := 6) (by omega) (by omega) ?_
          exact t_L_believes_270 hl0  r109 hr109 h
        · refine r_iconst (v := 1) dL_believes_266 rfl rfl ?_
          refine r_goto 271 dL_believes_267 (by decide) ?_
          refine r_weak (L' := [(0, (4, a0)), (1, (0, a1)), (2, (0, a2)), (3, (4, a3)), (4, (0, a4)), (5, (0, a5)), (6, (0, a6)), (7, (0, a7)), (8, (0, a8)), (9, (0, a9)), (10, (0, a10)), (12, (0, a12)), (13, (0, s0)), (14, (0, x5))]) [2, 3, 4, 5, 6, 7, 8, 9, 10, 11, 12, 13, 1, 0] rfl ?_
          refine r_room (C' := 1) (D' := 6) (by omega) (by omega) ?_
          exact t_L_believes_271 hl0  r109 hr109 h
    · refine r_room (C' := 0) (D' := 0) (by omega) (by omega) ?_
      refine r_iconst (v := 0) dL_believes_233 rfl rfl ?_
      exact r_zretc (by decide) rfl dL_believes_234 h

set_option maxRecDepth 100000 in
set_option maxHeartbeats 4000000 in
theorem t_L_believes_180 {g : zF} (hl0 : g.2.2.2.1.stackTraces = false) {Q : zR × zS → Prop} (r109 : Int → Int → Int → Int → Int → Int → Int → Int → Int → Int → zS → zFn) (hr109 : ∀ b0 b1 b2 b3 b4 b5 b6 b7 b8 b9 τ, zo (r109 b0 b1 b2 b3 b4 b5 b6 b7 b8 b9 τ) Q → zw g Y_L_believes R_L_believes 109 [(0, (4, b0)), (1, (0, b1)), (2, (0, b2)), (3, (4, b3)), (4, (0, b4)), (5, (0, b5)), (6, (0, b6)), (7, (0, b7)), (8, (0, b8)), (9, (0, b9))] [] τ 1 6 Q) {a0 a1 a2 a3 a4 a5 a6 a7 a8 a9 a10 a11 s0 : Int} {σ : zS} (h : zo (f_L_believes_180 r109 a0 a1 a2 a3 a4 a5 a6 a7 a8 a9 a10 a11 s0 σ) Q) : zw g Y_L_believes R_L_believes 180 [(0, (4, a0)), (1, (0, a1)), (2, (0, a2)), (3, (4, a3)), (4, (0, a4)), (5, (0, a5)), (6, (0, a6)), (7, (0, a7)), (8, (0, a8)), (9, (0, a9)), (10, (0, a10)), (11, (0, a11))] [(0, s0)] σ 1 6 Q := by
  unfold f_L_believes_180 at h
  refine r_istore (L' := [(12, (0, s0)), (0, (4, a0)), (1, (0, a1)), (2, (0, a2)), (3, (4, a3)), (4, (0, a4)), (5, (0, a5)), (6, (0, a6)), (7, (0, a7)), (8, (0, a8)), (9, (0, a9)), (10, (0, a10)), (11, (0, a11))]) dL_believes_180 (by decide) rfl ?_
  refine r_iload 12 dL_believes_182 rfl ?_
  refine r_if_eq 204 dL_believes_184 (by decide) h (fun h => ?_) (fun h => ?_)
  · refine r_iconst (v := (-1)) dL_believes_204 rfl rfl ?_
    refine r_weak (L' := [(0, (4, a0)), (1, (0, a1)), (2, (0, a2)), (3, (4, a3)), (4, (0, a4)), (5, (0, a5)), (6, (0, a6)), (7, (0, a7)), (8, (0, a8)), (9, (0, a9)), (10, (0, a10)), (12, (0, s0))]) [1, 2, 3, 4, 5, 6, 7, 8, 9, 10, 11, 0] rfl ?_
    refine r_room (C' := 1) (D' := 6) (by omega) (by omega) ?_
    exact t_L_believes_205 hl0  r109 hr109 h
  · refine r_aload_n 1 dL_believes_187 rfl ?_
    refine r_iload_n 2 dL_believes_188 rfl ?_
    refine r_iload 11 dL_believes_189 rfl ?_
    refine r_aload_n 1 dL_believes_191 rfl ?_
    refine r_iload_n 2 dL_believes_192 rfl ?_
    refine r_iload 11 dL_believes_193 rfl ?_
    refine r_callS (K' := Y_L_by) (R' := R_L_by) (idx := 175) (n := 3) (as := [(4, a0), (0, a1), (0, a10)]) (rest := [(0, a10), (0, a1), (4, a0)]) (C' := 1) (D' := 6) rfl k0_L_by wd_1162 kl_L_175 ⟨by decide, by decide⟩ dL_believes_195 rfl rfl (Nat.le_of_ble_eq_true rfl) (by decide) (by decide) h (fun r hr => m_L_by hl0 ⟨r, hr, hr⟩) (fun x1 τ2 _ h => ?_)
    refine r_callS (K' := Y_L_top) (R' := R_L_top) (idx := 182) (n := 4) (as := [(4, a0), (0, a1), (0, a10), (0, x1)]) (rest := []) (C' := 1) (D' := 6) rfl k0_L_top wd_1172 kl_L_182 ⟨by decide, by decide⟩ dL_believes_198 rfl rfl (Nat.le_of_ble_eq_true rfl) (by decide) (by decide) h (fun r hr => m_L_top hl0 ⟨r, hr, hr⟩) (fun x3 τ4 _ h => ?_)
    refine r_goto 205 dL_believes_201 (by decide) ?_
    refine r_weak (L' := [(0, (4, a0)), (1, (0, a1)), (2, (0, a2)), (3, (4, a3)), (4, (0, a4)), (5, (0, a5)), (6, (0, a6)), (7, (0, a7)), (8, (0, a8)), (9, (0, a9)), (10, (0, a10)), (12, (0, s0))]) [1, 2, 3, 4, 5, 6, 7, 8, 9, 10, 11, 0] rfl ?_
    refine r_room (C' := 1) (D' := 6) (by omega) (by omega) ?_
    exact t_L_believes_205 hl0  r109 hr109 h

set_option maxRecDepth 100000 in
set_option maxHeartbeats 4000000 in
theorem t_L_believes_155 {g : zF} (hl0 : g.2.2.2.1.stackTraces = false) {Q : zR × zS → Prop} (r109 : Int → Int → Int → Int → Int → Int → Int → Int → Int → Int → zS → zFn) (hr109 : ∀ b0 b1 b2 b3 b4 b5 b6 b7 b8 b9 τ, zo (r109 b0 b1 b2 b3 b4 b5 b6 b7 b8 b9 τ) Q → zw g Y_L_believes R_L_believes 109 [(0, (4, b0)), (1, (0, b1)), (2, (0, b2)), (3, (4, b3)), (4, (0, b4)), (5, (0, b5)), (6, (0, b6)), (7, (0, b7)), (8, (0, b8)), (9, (0, b9))] [] τ 1 6 Q) {a0 a1 a2 a3 a4 a5 a6 a7 a8 a9 a10 s0 : Int} {σ : zS} (h : zo (f_L_believes_155 r109 a0 a1 a2 a3 a4 a5 a6 a7 a8 a9 a10 s0 σ) Q) : zw g Y_L_believes R_L_believes 155 [(0, (4, a0)), (1, (0, a1)), (2, (0, a2)), (3, (4, a3)), (4, (0, a4)), (5, (0, a5)), (6, (0, a6)), (7, (0, a7)), (8, (0, a8)), (9, (0, a9)), (10, (0, a10))] [(0, s0)] σ 1 6 Q := by
  unfold f_L_believes_155 at h
  refine r_istore (L' := [(11, (0, s0)), (0, (4, a0)), (1, (0, a1)), (2, (0, a2)), (3, (4, a3)), (4, (0, a4)), (5, (0, a5)), (6, (0, a6)), (7, (0, a7)), (8, (0, a8)), (9, (0, a9)), (10, (0, a10))]) dL_believes_155 (by decide) rfl ?_
  refine r_iload 0 dL_believes_157 rfl ?_
  refine r_if_eq 179 dL_believes_159 (by decide) h (fun h => ?_) (fun h => ?_)
  · refine r_iconst (v := (-1)) dL_believes_179 rfl rfl ?_
    refine r_weak (L' := [(0, (4, a0)), (1, (0, a1)), (2, (0, a2)), (3, (4, a3)), (4, (0, a4)), (5, (0, a5)), (6, (0, a6)), (7, (0, a7)), (8, (0, a8)), (9, (0, a9)), (10, (0, a10)), (11, (0, s0))]) [1, 2, 3, 4, 5, 6, 7, 8, 9, 10, 11, 0] rfl ?_
    refine r_room (C' := 1) (D' := 6) (by omega) (by omega) ?_
    exact t_L_believes_180 hl0  r109 hr109 h
  · refine r_aload_n 1 dL_believes_162 rfl ?_
    refine r_iload_n 2 dL_believes_163 rfl ?_
    refine r_iload 11 dL_believes_164 rfl ?_
    refine r_aload_n 1 dL_believes_166 rfl ?_
    refine r_iload_n 2 dL_believes_167 rfl ?_
    refine r_iload 11 dL_believes_168 rfl ?_
    refine r_callS (K' := Y_L_by) (R' := R_L_by) (idx := 175) (n := 3) (as := [(4, a0), (0, a1), (0, a10)]) (rest := [(0, a10), (0, a1), (4, a0)]) (C' := 1) (D' := 6) rfl k0_L_by wd_1162 kl_L_175 ⟨by decide, by decide⟩ dL_believes_170 rfl rfl (Nat.le_of_ble_eq_true rfl) (by decide) (by decide) h (fun r hr => m_L_by hl0 ⟨r, hr, hr⟩) (fun x1 τ2 _ h => ?_)
    refine r_callS (K' := Y_L_low) (R' := R_L_low) (idx := 178) (n := 4) (as := [(4, a0), (0, a1), (0, a10), (0, x1)]) (rest := []) (C' := 1) (D' := 6) rfl k0_L_low wd_1168 kl_L_178 ⟨by decide, by decide⟩ dL_believes_173 rfl rfl (Nat.le_of_ble_eq_true rfl) (by decide) (by decide) h (fun r hr => m_L_low hl0 ⟨r, hr, hr⟩) (fun x3 τ4 _ h => ?_)
    refine r_goto 180 dL_believes_176 (by decide) ?_
    refine r_weak (L' := [(0, (4, a0)), (1, (0, a1)), (2, (0, a2)), (3, (4, a3)), (4, (0, a4)), (5, (0, a5)), (6, (0, a6)), (7, (0, a7)), (8, (0, a8)), (9, (0, a9)), (10, (0, a10)), (11, (0, s0))]) [1, 2, 3, 4, 5, 6, 7, 8, 9, 10, 11, 0] rfl ?_
    refine r_room (C' := 1) (D' := 6) (by omega) (by omega) ?_
    exact t_L_believes_180 hl0  r109 hr109 h

set_option maxRecDepth 100000 in
set_option maxHeartbeats 4000000 in
theorem t_L_believes_150 {g : zF} (hl0 : g.2.2.2.1.stackTraces = false) {Q : zR × zS → Prop} (r109 : Int → Int → Int → Int → Int → Int → Int → Int → Int → Int → zS → zFn) (hr109 : ∀ b0 b1 b2 b3 b4 b5 b6 b7 b8 b9 τ, zo (r109 b0 b1 b2 b3 b4 b5 b6 b7 b8 b9 τ) Q → zw g Y_L_believes R_L_believes 109 [(0, (4, b0)), (1, (0, b1)), (2, (0, b2)), (3, (4, b3)), (4, (0, b4)), (5, (0, b5)), (6, (0, b6)), (7, (0, b7)), (8, (0, b8)), (9, (0, b9))] [] τ 1 6 Q) {a0 a1 a2 a3 a4 a5 a6 a7 a8 a9 a10 : Int} {σ : zS} (h : zo (f_L_believes_150 r109 a0 a1 a2 a3 a4 a5 a6 a7 a8 a9 a10 σ) Q) : zw g Y_L_believes R_L_believes 150 [(0, (4, a0)), (1, (0, a1)), (2, (0, a2)), (3, (4, a3)), (4, (0, a4)), (5, (0, a5)), (6, (0, a6)), (7, (0, a7)), (8, (0, a8)), (9, (0, a9)), (10, (0, a10))] [] σ 1 6 Q := by
  unfold f_L_believes_150 at h
  refine r_iconst (v := 1) dL_believes_150 rfl rfl ?_
  refine r_goto 155 dL_believes_151 (by decide) ?_
  refine r_room (C' := 1) (D' := 6) (by omega) (by omega) ?_
  exact t_L_believes_155 hl0  r109 hr109 h

set_option maxRecDepth 100000 in
set_option maxHeartbeats 4000000 in
theorem t_L_believes_109 {g : zF} (hl0 : g.2.2.2.1.stackTraces = false) {Q : zR × zS → Prop}   : ∀ (n : Nat) (a0 a1 a2 a3 a4 a5 a6 a7 a8 a9 : Int) (σ : zS), zo (f_L_believes_109  n a0 a1 a2 a3 a4 a5 a6 a7 a8 a9 σ) Q → zw g Y_L_believes R_L_believes 109 [(0, (4, a0)), (1, (0, a1)), (2, (0, a2)), (3, (4, a3)), (4, (0, a4)), (5, (0, a5)), (6, (0, a6)), (7, (0, a7)), (8, (0, a8)), (9, (0, a9))] [] σ 1 6 Q := by
  intro n
  induction n with
  | zero => intro a0 a1 a2 a3 a4 a5 a6 a7 a8 a9 σ h; obtain ⟨r, h, -⟩ := h; cases h
  | succ n ih =>
    intro a0 a1 a2 a3 a4 a5 a6 a7 a8 a9 σ h
    unfold f_L_believes_109 at h
    refine r_iload 9 dL_believes_109 rfl ?_
    refine r_iload 4 dL_believes_111 rfl ?_
    refine r_icmp_ge 404 dL_believes_113 (by decide) h (fun h => ?_) (fun h => ?_)
    · refine r_weak (L' := [(0, (4, a0)), (1, (0, a1)), (2, (0, a2)), (5, (0, a5)), (6, (0, a6)), (7, (0, a7)), (8, (0, a8))]) [0, 1, 2, 5, 6, 7, 8] rfl ?_
      refine r_room (C' := 1) (D' := 6) (by omega) (by omega) ?_
      exact t_L_believes_404 hl0    h
    · refine r_aload_n 3 dL_believes_116 rfl ?_
      refine r_iload 9 dL_believes_117 rfl ?_
      refine r_iald dL_believes_119 h (fun x1 h => ?_)
      refine r_istore (L' := [(10, (0, x1)), (0, (4, a0)), (1, (0, a1)), (2, (0, a2)), (3, (4, a3)), (4, (0, a4)), (5, (0, a5)), (6, (0, a6)), (7, (0, a7)), (8, (0, a8)), (9, (0, a9))]) dL_believes_120 (by decide) rfl ?_
      refine r_aload_n 1 dL_believes_122 rfl ?_
      refine r_iload_n 2 dL_believes_123 rfl ?_
      refine r_iload 0 dL_believes_124 rfl ?_
      refine r_iconst (v := 0) dL_believes_126 rfl rfl ?_
      refine r_callV (K' := Y_X7_report) (R' := R_X7_report) (idx := 140) (n := 3) (b := a0) (as := [(0, a1), (0, x1), (0, 0)]) (rest := []) (C' := 1) (D' := 6) (cn := 7) rfl k0_X7_report kV_X7_report kl_L_140 ⟨by decide, by decide⟩ dL_believes_127 rfl rfl (Nat.le_of_ble_eq_true rfl) (by decide) (by decide) rfl h (fun r hr => m_X7_report hl0 ⟨r, hr, hr⟩) (fun x2 τ3 _ h => ?_)
      refine r_iload_n 2 dL_believes_130 rfl ?_
      refine r_icmp_eq 150 dL_believes_131 (by decide) h (fun h => ?_) (fun h => ?_)
      · refine r_weak (L' := [(0, (4, a0)), (1, (0, a1)), (2, (0, a2)), (3, (4, a3)), (4, (0, a4)), (5, (0, a5)), (6, (0, a6)), (7, (0, a7)), (8, (0, a8)), (9, (0, a9)), (10, (0, x1))]) [1, 2, 3, 4, 5, 6, 7, 8, 9, 10, 0] rfl ?_
        refine r_room (C' := 1) (D' := 6) (by omega) (by omega) ?_
        exact t_L_believes_150 hl0  (f_L_believes_109  n) (fun b0 b1 b2 b3 b4 b5 b6 b7 b8 b9 τ h => ih b0 b1 b2 b3 b4 b5 b6 b7 b8 b9 τ h) h
      · refine r_aload_n 1 dL_believes_134 rfl ?_
        refine r_iload_n 2 dL_believes_135 rfl ?_
        refine r_aload_n 1 dL_believes_136 rfl ?_
        refine r_iload_n 2 dL_believes_137 rfl ?_
        refine r_iload 0 dL_believes_138 rfl ?_
        refine r_iconst (v := 1) dL_believes_140 rfl rfl ?_
        refine r_callV (K' := Y_X7_report) (R' := R_X7_report) (idx := 140) (n := 3) (b := a0) (as := [(0, a1), (0, x1), (0, 1)]) (rest := [(0, a1), (4, a0)]) (C' := 1) (D' := 6) (cn := 7) rfl k0_X7_report kV_X7_report kl_L_140 ⟨by decide, by decide⟩ dL_believes_141 rfl rfl (Nat.le_of_ble_eq_true rfl) (by decide) (by decide) rfl h (fun r hr => m_X7_report hl0 ⟨r, hr, hr⟩) (fun x4 τ5 _ h => ?_)
        refine r_callV (K' := Y_X7_trust) (R' := R_X7_trust) (idx := 153) (n := 2) (b := a0) (as := [(0, a1), (0, x4)]) (rest := []) (C' := 1) (D' := 6) (cn := 7) rfl k0_X7_trust kV_X7_trust kl_L_153 ⟨by decide, by decide⟩ dL_believes_144 rfl rfl (Nat.le_of_ble_eq_true rfl) (by decide) (by decide) rfl h (fun r hr => m_X7_trust hl0 ⟨r, hr, hr⟩) (fun x6 τ7 _ h => ?_)
        refine r_if_lt 154 dL_believes_147 (by decide) h (fun h => ?_) (fun h => ?_)
        · refine r_iconst (v := 0) dL_believes_154 rfl rfl ?_
          refine r_weak (L' := [(0, (4, a0)), (1, (0, a1)), (2, (0, a2)), (3, (4, a3)), (4, (0, a4)), (5, (0, a5)), (6, (0, a6)), (7, (0, a7)), (8, (0, a8)), (9, (0, a9)), (10, (0, x1))]) [1, 2, 3, 4, 5, 6, 7, 8, 9, 10, 0] rfl ?_
          refine r_room (C' := 1) (D' := 6) (by omega) (by omega) ?_
          exact t_L_believes_155 hl0  (f_L_believes_109  n) (fun b0 b1 b2 b3 b4 b5 b6 b7 b8 b9 τ h => ih b0 b1 b2 b3 b4 b5 b6 b7 b8 b9 τ h) h
        · refine r_weak (L' := [(0, (4, a0)), (1, (0, a1)), (2, (0, a2)), (3, (4, a3)), (4, (0, a4)), (5, (0, a5)), (6, (0, a6)), (7, (0, a7)), (8, (0, a8)), (9, (0, a9)), (10, (0, x1))]) [1, 2, 3, 4, 5, 6, 7, 8, 9, 10, 0] rfl ?_
          refine r_room (C' := 1) (D' := 6) (by omega) (by omega) ?_
          exact t_L_believes_150 hl0  (f_L_believes_109  n) (fun b0 b1 b2 b3 b4 b5 b6 b7 b8 b9 τ h => ih b0 b1 b2 b3 b4 b5 b6 b7 b8 b9 τ h) h

set_option maxRecDepth 100000 in
set_option maxHeartbeats 4000000 in
theorem t_L_believes_92 {g : zF} (hl0 : g.2.2.2.1.stackTraces = false) {Q : zR × zS → Prop}   {a0 a1 a2 a3 a4 : Int} {σ : zS} (h : zo (f_L_believes_92  a0 a1 a2 a3 a4 σ) Q) : zw g Y_L_believes R_L_believes 92 [(0, (4, a0)), (1, (0, a1)), (2, (0, a2)), (3, (4, a3)), (4, (0, a4))] [] σ 1 6 Q := by
  unfold f_L_believes_92 at h
  refine r_iconst (v := 0) dL_believes_92 rfl rfl ?_
  refine r_istore (L' := [(5, (0, 0)), (0, (4, a0)), (1, (0, a1)), (2, (0, a2)), (3, (4, a3)), (4, (0, a4))]) dL_believes_93 (by decide) rfl ?_
  refine r_sipush (v := 999) dL_believes_95 rfl rfl ?_
  refine r_istore (L' := [(6, (0, 999)), (5, (0, 0)), (0, (4, a0)), (1, (0, a1)), (2, (0, a2)), (3, (4, a3)), (4, (0, a4))]) dL_believes_98 (by decide) rfl ?_
  refine r_iconst (v := 0) dL_believes_100 rfl rfl ?_
  refine r_istore (L' := [(7, (0, 0)), (6, (0, 999)), (5, (0, 0)), (0, (4, a0)), (1, (0, a1)), (2, (0, a2)), (3, (4, a3)), (4, (0, a4))]) dL_believes_101 (by decide) rfl ?_
  refine r_iconst (v := 0) dL_believes_103 rfl rfl ?_
  refine r_istore (L' := [(8, (0, 0)), (7, (0, 0)), (6, (0, 999)), (5, (0, 0)), (0, (4, a0)), (1, (0, a1)), (2, (0, a2)), (3, (4, a3)), (4, (0, a4))]) dL_believes_104 (by decide) rfl ?_
  refine r_iconst (v := 0) dL_believes_106 rfl rfl ?_
  refine r_istore (L' := [(9, (0, 0)), (8, (0, 0)), (7, (0, 0)), (6, (0, 999)), (5, (0, 0)), (0, (4, a0)), (1, (0, a1)), (2, (0, a2)), (3, (4, a3)), (4, (0, a4))]) dL_believes_107 (by decide) rfl ?_
  refine r_weak (L' := [(0, (4, a0)), (1, (0, a1)), (2, (0, a2)), (3, (4, a3)), (4, (0, a4)), (5, (0, 0)), (6, (0, 999)), (7, (0, 0)), (8, (0, 0)), (9, (0, 0))]) [5, 6, 7, 8, 9, 4, 3, 2, 1, 0] rfl ?_
  refine r_room (C' := 1) (D' := 6) (by omega) (by omega) ?_
  exact t_L_believes_109 hl0    zFU _ _ _ _ _ _ _ _ _ _ _ h

set_option maxRecDepth 100000 in
set_option maxHeartbeats 4000000 in
theorem t_L_believes_86 {g : zF} (hl0 : g.2.2.2.1.stackTraces = false) {Q : zR × zS → Prop} (r14 : Int → Int → Int → Int → Int → Int → zS → zFn) (hr14 : ∀ b0 b1 b2 b3 b4 b5 τ, zo (r14 b0 b1 b2 b3 b4 b5 τ) Q → zw g Y_L_believes R_L_believes 14 [(0, (4, b0)), (1, (0, b1)), (2, (0, b2)), (3, (4, b3)), (4, (0, b4)), (5, (0, b5))] [] τ 1 6 Q) {a0 a1 a2 a3 a4 a5 : Int} {σ : zS} (h : zo (f_L_believes_86 r14 a0 a1 a2 a3 a4 a5 σ) Q) : zw g Y_L_believes R_L_believes 86 [(0, (4, a0)), (1, (0, a1)), (2, (0, a2)), (3, (4, a3)), (4, (0, a4)), (5, (0, a5))] [] σ 1 6 Q := by
  unfold f_L_believes_86 at h
  refine r_iinc (L' := [(5, (0, (w32 (a5 + 1)))), (0, (4, a0)), (1, (0, a1)), (2, (0, a2)), (3, (4, a3)), (4, (0, a4))]) 5 dL_believes_86 rfl (by decide) rfl ?_
  refine r_goto 14 dL_believes_89 (by decide) ?_
  refine r_weak (L' := [(0, (4, a0)), (1, (0, a1)), (2, (0, a2)), (3, (4, a3)), (4, (0, a4)), (5, (0, (w32 (a5 + 1))))]) [1, 2, 3, 4, 5, 0] rfl ?_
  refine r_room (C' := 1) (D' := 6) (by omega) (by omega) ?_
  exact hr14 _ _ _ _ _ _ _ h

set_option maxRecDepth 100000 in
set_option maxHeartbeats 4000000 in
theorem t_L_believes_77 {g : zF} (hl0 : g.2.2.2.1.stackTraces = false) {Q : zR × zS → Prop} (r14 : Int → Int → Int → Int → Int → Int → zS → zFn) (hr14 : ∀ b0 b1 b2 b3 b4 b5 τ, zo (r14 b0 b1 b2 b3 b4 b5 τ) Q → zw g Y_L_believes R_L_believes 14 [(0, (4, b0)), (1, (0, b1)), (2, (0, b2)), (3, (4, b3)), (4, (0, b4)), (5, (0, b5))] [] τ 1 6 Q) {a0 a1 a2 a3 a4 a5 a6 : Int} {σ : zS} (h : zo (f_L_believes_77 r14 a0 a1 a2 a3 a4 a5 a6 σ) Q) : zw g Y_L_believes R_L_believes 77 [(0, (4, a0)), (1, (0, a1)), (2, (0, a2)), (3, (4, a3)), (4, (0, a4)), (5, (0, a5)), (6, (0, a6))] [] σ 1 6 Q := by
  unfold f_L_believes_77 at h
  refine r_aload_n 3 dL_believes_77 rfl ?_
  refine r_iload 6 dL_believes_78 rfl ?_
  refine r_iload 5 dL_believes_80 rfl ?_
  refine r_iast dL_believes_82 h (fun τ1 h => ?_)
  refine r_iinc (L' := [(4, (0, (w32 (a4 + 1)))), (0, (4, a0)), (1, (0, a1)), (2, (0, a2)), (3, (4, a3)), (5, (0, a5)), (6, (0, a6))]) 4 dL_believes_83 rfl (by decide) rfl ?_
  refine r_weak (L' := [(0, (4, a0)), (1, (0, a1)), (2, (0, a2)), (3, (4, a3)), (4, (0, (w32 (a4 + 1)))), (5, (0, a5))]) [1, 2, 3, 4, 0, 5] rfl ?_
  refine r_room (C' := 1) (D' := 6) (by omega) (by omega) ?_
  exact t_L_believes_86 hl0  r14 hr14 h

set_option maxRecDepth 100000 in
set_option maxHeartbeats 4000000 in
theorem t_L_believes_40 {g : zF} (hl0 : g.2.2.2.1.stackTraces = false) {Q : zR × zS → Prop} (r14 : Int → Int → Int → Int → Int → Int → zS → zFn) (hr14 : ∀ b0 b1 b2 b3 b4 b5 τ, zo (r14 b0 b1 b2 b3 b4 b5 τ) Q → zw g Y_L_believes R_L_believes 14 [(0, (4, b0)), (1, (0, b1)), (2, (0, b2)), (3, (4, b3)), (4, (0, b4)), (5, (0, b5))] [] τ 1 6 Q) : ∀ (n : Nat) (a0 a1 a2 a3 a4 a5 a6 : Int) (σ : zS), zo (f_L_believes_40 r14 n a0 a1 a2 a3 a4 a5 a6 σ) Q → zw g Y_L_believes R_L_believes 40 [(0, (4, a0)), (1, (0, a1)), (2, (0, a2)), (3, (4, a3)), (4, (0, a4)), (5, (0, a5)), (6, (0, a6))] [] σ 1 6 Q := by
  intro n
  induction n with
  | zero => intro a0 a1 a2 a3 a4 a5 a6 σ h; obtain ⟨r, h, -⟩ := h; cases h
  | succ n ih =>
    intro a0 a1 a2 a3 a4 a5 a6 σ h
    unfold f_L_believes_40 at h
    refine r_iload 6 dL_believes_40 rfl ?_
    refine r_if_le 77 dL_believes_42 (by decide) h (fun h => ?_) (fun h => ?_)
    · refine r_room (C' := 1) (D' := 6) (by omega) (by omega) ?_
      exact t_L_believes_77 hl0  r14 hr14 h
    · refine r_aload_n 0 dL_believes_45 rfl ?_
      refine r_iload_n 1 dL_believes_46 rfl ?_
      refine r_iload 5 dL_believes_47 rfl ?_
      refine r_aload_n 3 dL_believes_49 rfl ?_
      refine r_iload 6 dL_believes_50 rfl ?_
      refine r_iconst (v := 1) dL_believes_52 rfl rfl ?_
      refine r_isub dL_believes_53 ?_
      refine r_iald dL_believes_54 h (fun x1 h => ?_)
      refine r_callS (K' := Y_L_ahead) (R' := R_L_ahead) (idx := 171) (n := 4) (as := [(4, a0), (0, a1), (0, a5), (0, x1)]) (rest := []) (C' := 1) (D' := 6) rfl k0_L_ahead wd_1154 kl_L_171 ⟨by decide, by decide⟩ dL_believes_55 rfl rfl (Nat.le_of_ble_eq_true rfl) (by decide) (by decide) h (fun r hr => m_L_ahead hl0 ⟨r, hr, hr⟩) (fun x2 τ3 _ h => ?_)
      refine r_if_eq 77 dL_believes_58 (by decide) h (fun h => ?_) (fun h => ?_)
      · refine r_room (C' := 1) (D' := 6) (by omega) (by omega) ?_
        exact t_L_believes_77 hl0  r14 hr14 h
      · refine r_aload_n 3 dL_believes_61 rfl ?_
        refine r_iload 6 dL_believes_62 rfl ?_
        refine r_aload_n 3 dL_believes_64 rfl ?_
        refine r_iload 6 dL_believes_65 rfl ?_
        refine r_iconst (v := 1) dL_believes_67 rfl rfl ?_
        refine r_isub dL_believes_68 ?_
        refine r_iald dL_believes_69 h (fun x4 h => ?_)
        refine r_iast dL_believes_70 h (fun τ5 h => ?_)
        refine r_iinc (L' := [(6, (0, (w32 (a6 + (-1))))), (0, (4, a0)), (1, (0, a1)), (2, (0, a2)), (3, (4, a3)), (4, (0, a4)), (5, (0, a5))]) 6 dL_believes_71 rfl (by decide) rfl ?_
        refine r_goto 40 dL_believes_74 (by decide) ?_
        refine r_weak (L' := [(0, (4, a0)), (1, (0, a1)), (2, (0, a2)), (3, (4, a3)), (4, (0, a4)), (5, (0, a5)), (6, (0, (w32 (a6 + (-1)))))]) [1, 2, 3, 4, 5, 6, 0] rfl ?_
        refine r_room (C' := 1) (D' := 6) (by omega) (by omega) ?_
        exact ih _ _ _ _ _ _ _ _ h

set_option maxRecDepth 100000 in
set_option maxHeartbeats 4000000 in
theorem t_L_believes_14 {g : zF} (hl0 : g.2.2.2.1.stackTraces = false) {Q : zR × zS → Prop}   : ∀ (n : Nat) (a0 a1 a2 a3 a4 a5 : Int) (σ : zS), zo (f_L_believes_14  n a0 a1 a2 a3 a4 a5 σ) Q → zw g Y_L_believes R_L_believes 14 [(0, (4, a0)), (1, (0, a1)), (2, (0, a2)), (3, (4, a3)), (4, (0, a4)), (5, (0, a5))] [] σ 1 6 Q := by
  intro n
  induction n with
  | zero => intro a0 a1 a2 a3 a4 a5 σ h; obtain ⟨r, h, -⟩ := h; cases h
  | succ n ih =>
    intro a0 a1 a2 a3 a4 a5 σ h
    unfold f_L_believes_14 at h
    refine r_iload 5 dL_believes_14 rfl ?_
    refine r_aload_n 3 dL_believes_16 rfl ?_
    refine r_alen dL_believes_17 h (fun x1 h => ?_)
    refine r_icmp_ge 92 dL_believes_18 (by decide) h (fun h => ?_) (fun h => ?_)
    · refine r_weak (L' := [(0, (4, a0)), (1, (0, a1)), (2, (0, a2)), (3, (4, a3)), (4, (0, a4))]) [0, 1, 2, 3, 4] rfl ?_
      refine r_room (C' := 1) (D' := 6) (by omega) (by omega) ?_
      exact t_L_believes_92 hl0    h
    · refine r_aload_n 0 dL_believes_21 rfl ?_
      refine r_iload_n 1 dL_believes_22 rfl ?_
      refine r_iload 5 dL_believes_23 rfl ?_
      refine r_iconst (v := 3) dL_believes_25 rfl rfl ?_
      refine r_callV (K' := Y_X7_report) (R' := R_X7_report) (idx := 140) (n := 3) (b := a0) (as := [(0, a1), (0, a5), (0, 3)]) (rest := []) (C' := 1) (D' := 6) (cn := 7) rfl k0_X7_report kV_X7_report kl_L_140 ⟨by decide, by decide⟩ dL_believes_26 rfl rfl (Nat.le_of_ble_eq_true rfl) (by decide) (by decide) rfl h (fun r hr => m_X7_report hl0 ⟨r, hr, hr⟩) (fun x2 τ3 _ h => ?_)
      refine r_iload_n 2 dL_believes_29 rfl ?_
      refine r_icmp_eq 36 dL_believes_30 (by decide) h (fun h => ?_) (fun h => ?_)
      · refine r_iload 4 dL_believes_36 rfl ?_
        refine r_istore (L' := [(6, (0, a4)), (0, (4, a0)), (1, (0, a1)), (2, (0, a2)), (3, (4, a3)), (4, (0, a4)), (5, (0, a5))]) dL_believes_38 (by decide) rfl ?_
        refine r_weak (L' := [(0, (4, a0)), (1, (0, a1)), (2, (0, a2)), (3, (4, a3)), (4, (0, a4)), (5, (0, a5)), (6, (0, a4))]) [1, 2, 3, 4, 5, 6, 0] rfl ?_
        refine r_room (C' := 1) (D' := 6) (by omega) (by omega) ?_
        exact t_L_believes_40 hl0  (f_L_believes_14  n) (fun b0 b1 b2 b3 b4 b5 τ h => ih b0 b1 b2 b3 b4 b5 τ h) zFU _ _ _ _ _ _ _ _ h
      · refine r_goto 86 dL_believes_33 (by decide) ?_
        refine r_room (C' := 1) (D' := 6) (by omega) (by omega) ?_
        exact t_L_believes_86 hl0  (f_L_believes_14  n) (fun b0 b1 b2 b3 b4 b5 τ h => ih b0 b1 b2 b3 b4 b5 τ h) h

set_option maxRecDepth 100000 in
set_option maxHeartbeats 4000000 in
theorem t_L_believes {g : zF} (hl0 : g.2.2.2.1.stackTraces = false) {Q : zR × zS → Prop}   {a0 a1 a2 : Int} {σ : zS} (h : zo (f_L_believes  a0 a1 a2 σ) Q) : zw g Y_L_believes R_L_believes 0 [(0, (4, a0)), (1, (0, a1)), (2, (0, a2))] [] σ 2 42 Q := by
  unfold f_L_believes at h
  refine r_aload_n 0 dL_believes_0 rfl ?_
  refine r_iload_n 1 dL_believes_1 rfl ?_
  refine r_callV (K' := Y_X7_reports) (R' := R_X7_reports) (idx := 159) (n := 1) (b := a0) (as := [(0, a1)]) (rest := []) (C' := 2) (D' := 42) (cn := 7) rfl k0_X7_reports kV_X7_reports kl_L_159 ⟨by decide, by decide⟩ dL_believes_2 rfl rfl (Nat.le_of_ble_eq_true rfl) (by decide) (by decide) rfl h (fun r hr => m_X7_reports hl0 ⟨r, hr, hr⟩) (fun x1 τ2 _ h => ?_)
  refine r_newa1 (C' := 1) (D' := 6) (N := 36) wd_165 dL_believes_5 (by decide) (by decide) (by decide) h (fun x3 τ4 h => ?_)
  refine r_astore_n (L' := [(3, (4, x3)), (0, (4, a0)), (1, (0, a1)), (2, (0, a2))]) dL_believes_7 (by decide) rfl ?_
  refine r_iconst (v := 0) dL_believes_8 rfl rfl ?_
  refine r_istore (L' := [(4, (0, 0)), (3, (4, x3)), (0, (4, a0)), (1, (0, a1)), (2, (0, a2))]) dL_believes_9 (by decide) rfl ?_
  refine r_iconst (v := 0) dL_believes_11 rfl rfl ?_
  refine r_istore (L' := [(5, (0, 0)), (4, (0, 0)), (3, (4, x3)), (0, (4, a0)), (1, (0, a1)), (2, (0, a2))]) dL_believes_12 (by decide) rfl ?_
  refine r_weak (L' := [(0, (4, a0)), (1, (0, a1)), (2, (0, a2)), (3, (4, x3)), (4, (0, 0)), (5, (0, 0))]) [3, 4, 5, 2, 1, 0] rfl ?_
  refine r_room (C' := 1) (D' := 6) (by omega) (by omega) ?_
  exact t_L_believes_14 hl0    zFU _ _ _ _ _ _ _ h
theorem m_L_believes {g : zF} (hl0 : g.2.2.2.1.stackTraces = false) {Q : zR × zS → Prop} {a0 a1 a2 : Int} {σ : zS} (h : zo (f_L_believes a0 a1 a2 σ) Q) : zm g Y_L_believes R_L_believes [(4, a0), (0, a1), (0, a2)] σ Q := zm_of (by decide) rfl (Nat.le_of_ble_eq_true rfl) (t_L_believes hl0 h)

