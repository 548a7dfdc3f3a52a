/- X8_bestThen -/

set_option maxRecDepth 100000 in
set_option maxHeartbeats 4000000 in
theorem t_X8_bestThen {g : zF} (hl0 : g.2.2.2.1.stackTraces = false) {Q : zR × zS → Prop}   {a0 a1 : Int} {σ : zS} (h : zo (f_X8_bestThen  a0 a1 σ) Q) : zw g Y_X8_bestThen R_X8_bestThen 0 [(0, (4, a0)), (1, (0, a1))] [] σ 0 0 Q := by
  unfold f_X8_bestThen at h
  refine r_aload_n 0 dX8_bestThen_0 rfl ?_
  refine r_aload_n 0 dX8_bestThen_1 rfl ?_
  refine r_iload_n 1 dX8_bestThen_2 rfl ?_
  refine r_callV (K' := Y_X8_isAgent) (R' := R_X8_isAgent) (idx := 88) (n := 1) (b := a0) (as := [(0, a1)]) (rest := [(4, a0)]) (C' := 0) (D' := 0) (cn := 8) rfl k0_X8_isAgent kV_X8_isAgent kl_X8_88 ⟨by decide, by decide⟩ dX8_bestThen_3 rfl rfl (Nat.le_of_ble_eq_true rfl) (by decide) (by decide) rfl h (fun r hr => m_X8_isAgent hl0 ⟨r, hr, hr⟩) (fun x1 τ2 _ h => ?_)
  refine r_callV (K' := Y_X8_passes) (R' := R_X8_passes) (idx := 215) (n := 1) (b := a0) (as := [(0, x1)]) (rest := []) (C' := 0) (D' := 0) (cn := 8) rfl k0_X8_passes kV_X8_passes kl_X8_215 ⟨by decide, by decide⟩ dX8_bestThen_6 rfl rfl (Nat.le_of_ble_eq_true rfl) (by decide) (by decide) rfl h (fun r hr => m_X8_passes hl0 ⟨r, hr, hr⟩) (fun x3 τ4 _ h => ?_)
  refine r_if_ne 14 dX8_bestThen_9 (by decide) h (fun h => ?_) (fun h => ?_)
  · refine r_aload_n 0 dX8_bestThen_14 rfl ?_
    refine r_callV (K' := Y_X8_keepAside) (R' := R_X8_keepAside) (idx := 427) (n := 0) (b := a0) (as := []) (rest := []) (C' := 0) (D' := 0) (cn := 8) rfl k0_X8_keepAside kV_X8_keepAside kl_X8_427 ⟨by decide, by decide⟩ dX8_bestThen_15 rfl rfl (Nat.le_of_ble_eq_true rfl) (by decide) (by decide) rfl h (fun r hr => m_X8_keepAside hl0 ⟨r, hr, hr⟩) (fun _ τ6 _ h => ?_)
    refine r_aload_n 0 dX8_bestThen_18 rfl ?_
    refine r_bipush (v := 100) dX8_bestThen_19 rfl rfl ?_
    refine r_callV (K' := Y_X8_deliverAll) (R' := R_X8_deliverAll) (idx := 424) (n := 1) (b := a0) (as := [(0, 100)]) (rest := []) (C' := 0) (D' := 0) (cn := 8) rfl k0_X8_deliverAll kV_X8_deliverAll kl_X8_424 ⟨by decide, by decide⟩ dX8_bestThen_21 rfl rfl (Nat.le_of_ble_eq_true rfl) (by decide) (by decide) rfl h (fun r hr => m_X8_deliverAll hl0 ⟨r, hr, hr⟩) (fun x7 τ8 _ h => ?_)
    refine r_istore_n (L' := [(2, (0, x7)), (0, (4, a0)), (1, (0, a1))]) dX8_bestThen_24 (by decide) rfl ?_
    refine r_aload_n 1 dX8_bestThen_25 rfl ?_
    refine r_aload_n 1 dX8_bestThen_26 rfl ?_
    refine r_iload_n 2 dX8_bestThen_27 rfl ?_
    refine r_iconst (v := 0) dX8_bestThen_28 rfl rfl ?_
    refine r_callV (K' := Y_X8_bestOf) (R' := R_X8_bestOf) (idx := 209) (n := 2) (b := a0) (as := [(0, a1), (0, 0)]) (rest := [(4, a0)]) (C' := 0) (D' := 0) (cn := 8) rfl k0_X8_bestOf kV_X8_bestOf kl_X8_209 ⟨by decide, by decide⟩ dX8_bestThen_29 rfl rfl (Nat.le_of_ble_eq_true rfl) (by decide) (by decide) rfl h (fun r hr => m_X8_bestOf hl0 ⟨r, hr, hr⟩) (fun x9 τ10 _ h => ?_)
    refine r_callV (K' := Y_X8_layBack) (R' := R_X8_layBack) (idx := 433) (n := 1) (b := a0) (as := [(0, x9)]) (rest := []) (C' := 0) (D' := 0) (cn := 8) rfl k0_X8_layBack kV_X8_layBack kl_X8_433 ⟨by decide, by decide⟩ dX8_bestThen_32 rfl rfl (Nat.le_of_ble_eq_true rfl) (by decide) (by decide) rfl h (fun r hr => m_X8_layBack hl0 ⟨r, hr, hr⟩) (fun x11 τ12 _ h => ?_)
    exact r_iret rfl dX8_bestThen_35 h
  · refine r_iconst (v := 0) dX8_bestThen_12 rfl rfl ?_
    exact r_iret rfl dX8_bestThen_13 h
theorem m_X8_bestThen {g : zF} (hl0 : g.2.2.2.1.stackTraces = false) {Q : zR × zS → Prop} {a0 a1 : Int} {σ : zS} (h : zo (f_X8_bestThen a0 a1 σ) Q) : zm g Y_X8_bestThen R_X8_bestThen [(4, a0), (0, a1)] σ Q := zm_of (by decide) rfl (Nat.le_of_ble_eq_true rfl) (t_X8_bestThen hl0 h)


/- X8_probe -/

set_option maxRecDepth 100000 in
set_option maxHeartbeats 4000000 in
theorem t_X8_probe {g : zF} (hl0 : g.2.2.2.1.stackTraces = false) {Q : zR × zS → Prop}   {a0 a1 a2 a3 a4 : Int} {σ : zS} (h : zo (f_X8_probe  a0 a1 a2 a3 a4 σ) Q) : zw g Y_X8_probe R_X8_probe 0 [(0, (4, a0)), (1, (0, a1)), (2, (0, a2)), (3, (0, a3)), (4, (0, a4))] [] σ 0 0 Q := by
  unfold f_X8_probe at h
  refine r_aload_n 0 dX8_probe_0 rfl ?_
  refine r_aload_n 0 dX8_probe_1 rfl ?_
  refine r_iload_n 1 dX8_probe_2 rfl ?_
  refine r_iload_n 2 dX8_probe_3 rfl ?_
  refine r_callV (K' := Y_X8_areThere) (R' := R_X8_areThere) (idx := 381) (n := 2) (b := a0) (as := [(0, a1), (0, a2)]) (rest := [(4, a0)]) (C' := 0) (D' := 0) (cn := 8) rfl k0_X8_areThere kV_X8_areThere kl_X8_381 ⟨by decide, by decide⟩ dX8_probe_4 rfl rfl (Nat.le_of_ble_eq_true rfl) (by decide) (by decide) rfl h (fun r hr => m_X8_areThere hl0 ⟨r, hr, hr⟩) (fun x1 τ2 _ h => ?_)
  refine r_iload_n 3 dX8_probe_7 rfl ?_
  refine r_iload 4 dX8_probe_8 rfl ?_
  refine r_callS (K' := Y_X8_areBounds) (R' := R_X8_areBounds) (idx := 438) (n := 2) (as := [(0, a3), (0, a4)]) (rest := [(0, x1), (4, a0)]) (C' := 0) (D' := 0) rfl k0_X8_areBounds wd_2066 kl_X8_438 ⟨by decide, by decide⟩ dX8_probe_10 rfl rfl (Nat.le_of_ble_eq_true rfl) (by decide) (by decide) h (fun r hr => m_X8_areBounds hl0 ⟨r, hr, hr⟩) (fun x3 τ4 _ h => ?_)
  refine r_callV (K' := Y_X8_passes2) (R' := R_X8_passes2) (idx := 368) (n := 2) (b := a0) (as := [(0, x1), (0, x3)]) (rest := []) (C' := 0) (D' := 0) (cn := 8) rfl k0_X8_passes2 kV_X8_passes2 kl_X8_368 ⟨by decide, by decide⟩ dX8_probe_13 rfl rfl (Nat.le_of_ble_eq_true rfl) (by decide) (by decide) rfl h (fun r hr => m_X8_passes2 hl0 ⟨r, hr, hr⟩) (fun x5 τ6 _ h => ?_)
  refine r_if_ne 21 dX8_probe_16 (by decide) h (fun h => ?_) (fun h => ?_)
  · refine r_aload_n 0 dX8_probe_21 rfl ?_
    refine r_callV (K' := Y_X8_remember) (R' := R_X8_remember) (idx := 344) (n := 0) (b := a0) (as := []) (rest := []) (C' := 0) (D' := 0) (cn := 8) rfl k0_X8_remember kV_X8_remember kl_X8_344 ⟨by decide, by decide⟩ dX8_probe_22 rfl rfl (Nat.le_of_ble_eq_true rfl) (by decide) (by decide) rfl h (fun r hr => m_X8_remember hl0 ⟨r, hr, hr⟩) (fun _ τ8 _ h => ?_)
    refine r_aload_n 0 dX8_probe_25 rfl ?_
    refine r_iload_n 1 dX8_probe_26 rfl ?_
    refine r_iload_n 2 dX8_probe_27 rfl ?_
    refine r_iload_n 3 dX8_probe_28 rfl ?_
    refine r_iload 4 dX8_probe_29 rfl ?_
    refine r_callV (K' := Y_X8_doProbe) (R' := R_X8_doProbe) (idx := 322) (n := 4) (b := a0) (as := [(0, a1), (0, a2), (0, a3), (0, a4)]) (rest := []) (C' := 0) (D' := 0) (cn := 8) rfl k0_X8_doProbe kV_X8_doProbe kl_X8_322 ⟨by decide, by decide⟩ dX8_probe_31 rfl rfl (Nat.le_of_ble_eq_true rfl) (by decide) (by decide) rfl h (fun r hr => m_X8_doProbe hl0 ⟨r, hr, hr⟩) (fun x9 τ10 _ h => ?_)
    exact r_iret rfl dX8_probe_34 h
  · refine r_iconst (v := 0) dX8_probe_19 rfl rfl ?_
    exact r_iret rfl dX8_probe_20 h
theorem m_X8_probe {g : zF} (hl0 : g.2.2.2.1.stackTraces = false) {Q : zR × zS → Prop} {a0 a1 a2 a3 a4 : Int} {σ : zS} (h : zo (f_X8_probe a0 a1 a2 a3 a4 σ) Q) : zm g Y_X8_probe R_X8_probe [(4, a0), (0, a1), (0, a2), (0, a3), (0, a4)] σ Q := zm_of (by decide) rfl (Nat.le_of_ble_eq_true rfl) (t_X8_probe hl0 h)


/- X8_share -/

set_option maxRecDepth 100000 in
set_option maxHeartbeats 4000000 in
theorem t_X8_share_53 {g : zF} (hl0 : g.2.2.2.1.stackTraces = false) {Q : zR × zS → Prop} (r22 : Int → Int → Int → Int → zS → zFn) (hr22 : ∀ b0 b1 b2 b3 τ, zo (r22 b0 b1 b2 b3 τ) Q → zw g Y_X8_share R_X8_share 22 [(0, (4, b0)), (1, (0, b1)), (2, (0, b2)), (3, (0, b3))] [] τ 0 0 Q) {a0 a1 a3 s0 s1 : Int} {σ : zS} (h : zo (f_X8_share_53 r22 a0 a1 a3 s0 s1 σ) Q) : zw g Y_X8_share R_X8_share 53 [(0, (4, a0)), (1, (0, a1)), (3, (0, a3))] [(0, s1), (0, s0)] σ 0 0 Q := by
  unfold f_X8_share_53 at h
  refine r_iadd dX8_share_53 ?_
  refine r_istore_n (L' := [(2, (0, (w32 (s0 + s1)))), (0, (4, a0)), (1, (0, a1)), (3, (0, a3))]) dX8_share_54 (by decide) rfl ?_
  refine r_iinc (L' := [(3, (0, (w32 (a3 + 1)))), (2, (0, (w32 (s0 + s1)))), (0, (4, a0)), (1, (0, a1))]) 3 dX8_share_55 rfl (by decide) rfl ?_
  refine r_goto 22 dX8_share_58 (by decide) ?_
  refine r_weak (L' := [(0, (4, a0)), (1, (0, a1)), (2, (0, (w32 (s0 + s1)))), (3, (0, (w32 (a3 + 1))))]) [2, 3, 1, 0] rfl ?_
  exact hr22 _ _ _ _ _ h

set_option maxRecDepth 100000 in
set_option maxHeartbeats 4000000 in
theorem t_X8_share_22 {g : zF} (hl0 : g.2.2.2.1.stackTraces = false) {Q : zR × zS → Prop}   : ∀ (n : Nat) (a0 a1 a2 a3 : Int) (σ : zS), zo (f_X8_share_22  n a0 a1 a2 a3 σ) Q → zw g Y_X8_share R_X8_share 22 [(0, (4, a0)), (1, (0, a1)), (2, (0, a2)), (3, (0, a3))] [] σ 0 0 Q := by
  intro n
  induction n with
  | zero => intro a0 a1 a2 a3 σ h; obtain ⟨r, h, -⟩ := h; cases h
  | succ n ih =>
    intro a0 a1 a2 a3 σ h
    unfold f_X8_share_22 at h
    refine r_iload_n 3 dX8_share_22 rfl ?_
    refine r_aload_n 0 dX8_share_23 rfl ?_
    refine r_iload_n 1 dX8_share_24 rfl ?_
    refine r_callV (K' := Y_X8_manyOf) (R' := R_X8_manyOf) (idx := 92) (n := 1) (b := a0) (as := [(0, a1)]) (rest := [(0, a3)]) (C' := 0) (D' := 0) (cn := 8) rfl k0_X8_manyOf kV_X8_manyOf kl_X8_92 ⟨by decide, by decide⟩ dX8_share_25 rfl rfl (Nat.le_of_ble_eq_true rfl) (by decide) (by decide) rfl h (fun r hr => m_X8_manyOf hl0 ⟨r, hr, hr⟩) (fun x1 τ2 _ h => ?_)
    refine r_icmp_ge 61 dX8_share_28 (by decide) h (fun h => ?_) (fun h => ?_)
    · refine r_iload_n 2 dX8_share_61 rfl ?_
      exact r_iret rfl dX8_share_62 h
    · refine r_iload_n 2 dX8_share_31 rfl ?_
      refine r_aload_n 0 dX8_share_32 rfl ?_
      refine r_iload_n 1 dX8_share_33 rfl ?_
      refine r_iload_n 3 dX8_share_34 rfl ?_
      refine r_callV (K' := Y_X8_isOwn) (R' := R_X8_isOwn) (idx := 179) (n := 2) (b := a0) (as := [(0, a1), (0, a3)]) (rest := [(0, a2)]) (C' := 0) (D' := 0) (cn := 8) rfl k0_X8_isOwn kV_X8_isOwn kl_X8_179 ⟨by decide, by decide⟩ dX8_share_35 rfl rfl (Nat.le_of_ble_eq_true rfl) (by decide) (by decide) rfl h (fun r hr => m_X8_isOwn hl0 ⟨r, hr, hr⟩) (fun x3 τ4 _ h => ?_)
      refine r_if_eq 52 dX8_share_38 (by decide) h (fun h => ?_) (fun h => ?_)
      · refine r_iconst (v := 0) dX8_share_52 rfl rfl ?_
        refine r_weak (L' := [(0, (4, a0)), (1, (0, a1)), (3, (0, a3))]) [0, 1, 3] rfl ?_
        exact t_X8_share_53 hl0 (f_X8_share_22  n) (fun b0 b1 b2 b3 τ h => ih b0 b1 b2 b3 τ h) h
      · refine r_aload_n 0 dX8_share_41 rfl ?_
        refine r_iload_n 1 dX8_share_42 rfl ?_
        refine r_iload_n 3 dX8_share_43 rfl ?_
        refine r_iconst (v := (-1)) dX8_share_44 rfl rfl ?_
        refine r_iconst (v := (-1)) dX8_share_45 rfl rfl ?_
        refine r_callV (K' := Y_X8_spreads) (R' := R_X8_spreads) (idx := 452) (n := 4) (b := a0) (as := [(0, a1), (0, a3), (0, (-1)), (0, (-1))]) (rest := [(0, a2)]) (C' := 0) (D' := 0) (cn := 8) rfl k0_X8_spreads kV_X8_spreads kl_X8_452 ⟨by decide, by decide⟩ dX8_share_46 rfl rfl (Nat.le_of_ble_eq_true rfl) (by decide) (by decide) rfl h (fun r hr => m_X8_spreads hl0 ⟨r, hr, hr⟩) (fun x5 τ6 _ h => ?_)
        refine r_goto 53 dX8_share_49 (by decide) ?_
        refine r_weak (L' := [(0, (4, a0)), (1, (0, a1)), (3, (0, a3))]) [0, 1, 3] rfl ?_
        exact t_X8_share_53 hl0 (f_X8_share_22  n) (fun b0 b1 b2 b3 τ h => ih b0 b1 b2 b3 τ h) h

set_option maxRecDepth 100000 in
set_option maxHeartbeats 4000000 in
theorem t_X8_share {g : zF} (hl0 : g.2.2.2.1.stackTraces = false) {Q : zR × zS → Prop}   {a0 a1 : Int} {σ : zS} (h : zo (f_X8_share  a0 a1 σ) Q) : zw g Y_X8_share R_X8_share 0 [(0, (4, a0)), (1, (0, a1))] [] σ 0 0 Q := by
  unfold f_X8_share at h
  refine r_aload_n 0 dX8_share_0 rfl ?_
  refine r_aload_n 0 dX8_share_1 rfl ?_
  refine r_iload_n 1 dX8_share_2 rfl ?_
  refine r_callV (K' := Y_X8_isAgent) (R' := R_X8_isAgent) (idx := 88) (n := 1) (b := a0) (as := [(0, a1)]) (rest := [(4, a0)]) (C' := 0) (D' := 0) (cn := 8) rfl k0_X8_isAgent kV_X8_isAgent kl_X8_88 ⟨by decide, by decide⟩ dX8_share_3 rfl rfl (Nat.le_of_ble_eq_true rfl) (by decide) (by decide) rfl h (fun r hr => m_X8_isAgent hl0 ⟨r, hr, hr⟩) (fun x1 τ2 _ h => ?_)
  refine r_callV (K' := Y_X8_passes) (R' := R_X8_passes) (idx := 215) (n := 1) (b := a0) (as := [(0, x1)]) (rest := []) (C' := 0) (D' := 0) (cn := 8) rfl k0_X8_passes kV_X8_passes kl_X8_215 ⟨by decide, by decide⟩ dX8_share_6 rfl rfl (Nat.le_of_ble_eq_true rfl) (by decide) (by decide) rfl h (fun r hr => m_X8_passes hl0 ⟨r, hr, hr⟩) (fun x3 τ4 _ h => ?_)
  refine r_if_ne 14 dX8_share_9 (by decide) h (fun h => ?_) (fun h => ?_)
  · refine r_aload_n 0 dX8_share_14 rfl ?_
    refine r_callV (K' := Y_X8_remember) (R' := R_X8_remember) (idx := 344) (n := 0) (b := a0) (as := []) (rest := []) (C' := 0) (D' := 0) (cn := 8) rfl k0_X8_remember kV_X8_remember kl_X8_344 ⟨by decide, by decide⟩ dX8_share_15 rfl rfl (Nat.le_of_ble_eq_true rfl) (by decide) (by decide) rfl h (fun r hr => m_X8_remember hl0 ⟨r, hr, hr⟩) (fun _ τ6 _ h => ?_)
    refine r_iconst (v := 0) dX8_share_18 rfl rfl ?_
    refine r_istore_n (L' := [(2, (0, 0)), (0, (4, a0)), (1, (0, a1))]) dX8_share_19 (by decide) rfl ?_
    refine r_iconst (v := 0) dX8_share_20 rfl rfl ?_
    refine r_istore_n (L' := [(3, (0, 0)), (2, (0, 0)), (0, (4, a0)), (1, (0, a1))]) dX8_share_21 (by decide) rfl ?_
    refine r_weak (L' := [(0, (4, a0)), (1, (0, a1)), (2, (0, 0)), (3, (0, 0))]) [2, 3, 1, 0] rfl ?_
    exact t_X8_share_22 hl0   zFU _ _ _ _ _ h
  · refine r_iconst (v := 0) dX8_share_12 rfl rfl ?_
    exact r_iret rfl dX8_share_13 h
theorem m_X8_share {g : zF} (hl0 : g.2.2.2.1.stackTraces = false) {Q : zR × zS → Prop} {a0 a1 : Int} {σ : zS} (h : zo (f_X8_share a0 a1 σ) Q) : zm g Y_X8_share R_X8_share [(4, a0), (0, a1)] σ Q := zm_of (by decide) rfl (Nat.le_of_ble_eq_true rfl) (t_X8_share hl0 h)


/- X8_relay -/

set_option maxRecDepth 100000 in
set_option maxHeartbeats 4000000 in
theorem t_X8_relay {g : zF} (hl0 : g.2.2.2.1.stackTraces = false) {Q : zR × zS → Prop}   {a0 a1 : Int} {σ : zS} (h : zo (f_X8_relay  a0 a1 σ) Q) : zw g Y_X8_relay R_X8_relay 0 [(0, (4, a0)), (1, (0, a1))] [] σ 0 0 Q := by
  unfold f_X8_relay at h
  refine r_aload_n 0 dX8_relay_0 rfl ?_
  refine r_aload_n 0 dX8_relay_1 rfl ?_
  refine r_iload_n 1 dX8_relay_2 rfl ?_
  refine r_callV (K' := Y_X8_isAgent) (R' := R_X8_isAgent) (idx := 88) (n := 1) (b := a0) (as := [(0, a1)]) (rest := [(4, a0)]) (C' := 0) (D' := 0) (cn := 8) rfl k0_X8_isAgent kV_X8_isAgent kl_X8_88 ⟨by decide, by decide⟩ dX8_relay_3 rfl rfl (Nat.le_of_ble_eq_true rfl) (by decide) (by decide) rfl h (fun r hr => m_X8_isAgent hl0 ⟨r, hr, hr⟩) (fun x1 τ2 _ h => ?_)
  refine r_callV (K' := Y_X8_passes) (R' := R_X8_passes) (idx := 215) (n := 1) (b := a0) (as := [(0, x1)]) (rest := []) (C' := 0) (D' := 0) (cn := 8) rfl k0_X8_passes kV_X8_passes kl_X8_215 ⟨by decide, by decide⟩ dX8_relay_6 rfl rfl (Nat.le_of_ble_eq_true rfl) (by decide) (by decide) rfl h (fun r hr => m_X8_passes hl0 ⟨r, hr, hr⟩) (fun x3 τ4 _ h => ?_)
  refine r_if_ne 14 dX8_relay_9 (by decide) h (fun h => ?_) (fun h => ?_)
  · refine r_aload_n 0 dX8_relay_14 rfl ?_
    refine r_callV (K' := Y_X8_remember) (R' := R_X8_remember) (idx := 344) (n := 0) (b := a0) (as := []) (rest := []) (C' := 0) (D' := 0) (cn := 8) rfl k0_X8_remember kV_X8_remember kl_X8_344 ⟨by decide, by decide⟩ dX8_relay_15 rfl rfl (Nat.le_of_ble_eq_true rfl) (by decide) (by decide) rfl h (fun r hr => m_X8_remember hl0 ⟨r, hr, hr⟩) (fun _ τ6 _ h => ?_)
    refine r_aload_n 0 dX8_relay_18 rfl ?_
    refine r_iload_n 1 dX8_relay_19 rfl ?_
    refine r_callV (K' := Y_X8_doRelay) (R' := R_X8_doRelay) (idx := 421) (n := 1) (b := a0) (as := [(0, a1)]) (rest := []) (C' := 0) (D' := 0) (cn := 8) rfl k0_X8_doRelay kV_X8_doRelay kl_X8_421 ⟨by decide, by decide⟩ dX8_relay_20 rfl rfl (Nat.le_of_ble_eq_true rfl) (by decide) (by decide) rfl h (fun r hr => m_X8_doRelay hl0 ⟨r, hr, hr⟩) (fun x7 τ8 _ h => ?_)
    exact r_iret rfl dX8_relay_23 h
  · refine r_iconst (v := 0) dX8_relay_12 rfl rfl ?_
    exact r_iret rfl dX8_relay_13 h
theorem m_X8_relay {g : zF} (hl0 : g.2.2.2.1.stackTraces = false) {Q : zR × zS → Prop} {a0 a1 : Int} {σ : zS} (h : zo (f_X8_relay a0 a1 σ) Q) : zm g Y_X8_relay R_X8_relay [(4, a0), (0, a1)] σ Q := zm_of (by decide) rfl (Nat.le_of_ble_eq_true rfl) (t_X8_relay hl0 h)


/- X8_deliver -/

set_option maxRecDepth 100000 in
set_option maxHeartbeats 4000000 in
theorem t_X8_deliver {g : zF} (hl0 : g.2.2.2.1.stackTraces = false) {Q : zR × zS → Prop}   {a0 a1 : Int} {σ : zS} (h : zo (f_X8_deliver  a0 a1 σ) Q) : zw g Y_X8_deliver R_X8_deliver 0 [(0, (4, a0)), (1, (0, a1))] [] σ 0 0 Q := by
  unfold f_X8_deliver at h
  refine r_aload_n 0 dX8_deliver_0 rfl ?_
  refine r_iload_n 1 dX8_deliver_1 rfl ?_
  refine r_i2l dX8_deliver_2 ?_
  refine r_lconst dX8_deliver_3 ?_
  refine r_ldcL (z := 100) wd_2114 (by decide +kernel) dX8_deliver_4 ?_
  refine r_callS (K' := Y_X8_in) (R' := R_X8_in) (idx := 70) (n := 3) (as := [(1, a1), (1, 1), (1, 100)]) (rest := [(4, a0)]) (C' := 0) (D' := 0) rfl k0_X8_in wd_1562 kl_X8_70 ⟨by decide, by decide⟩ dX8_deliver_7 rfl rfl (Nat.le_of_ble_eq_true rfl) (by decide) (by decide) h (fun r hr => m_X8_in hl0 ⟨r, hr, hr⟩) (fun x1 τ2 _ h => ?_)
  refine r_callV (K' := Y_X8_passes) (R' := R_X8_passes) (idx := 215) (n := 1) (b := a0) (as := [(0, x1)]) (rest := []) (C' := 0) (D' := 0) (cn := 8) rfl k0_X8_passes kV_X8_passes kl_X8_215 ⟨by decide, by decide⟩ dX8_deliver_10 rfl rfl (Nat.le_of_ble_eq_true rfl) (by decide) (by decide) rfl h (fun r hr => m_X8_passes hl0 ⟨r, hr, hr⟩) (fun x3 τ4 _ h => ?_)
  refine r_if_ne 18 dX8_deliver_13 (by decide) h (fun h => ?_) (fun h => ?_)
  · refine r_aload_n 0 dX8_deliver_18 rfl ?_
    refine r_callV (K' := Y_X8_remember) (R' := R_X8_remember) (idx := 344) (n := 0) (b := a0) (as := []) (rest := []) (C' := 0) (D' := 0) (cn := 8) rfl k0_X8_remember kV_X8_remember kl_X8_344 ⟨by decide, by decide⟩ dX8_deliver_19 rfl rfl (Nat.le_of_ble_eq_true rfl) (by decide) (by decide) rfl h (fun r hr => m_X8_remember hl0 ⟨r, hr, hr⟩) (fun _ τ6 _ h => ?_)
    refine r_aload_n 0 dX8_deliver_22 rfl ?_
    refine r_iload_n 1 dX8_deliver_23 rfl ?_
    refine r_callV (K' := Y_X8_deliverAll) (R' := R_X8_deliverAll) (idx := 424) (n := 1) (b := a0) (as := [(0, a1)]) (rest := []) (C' := 0) (D' := 0) (cn := 8) rfl k0_X8_deliverAll kV_X8_deliverAll kl_X8_424 ⟨by decide, by decide⟩ dX8_deliver_24 rfl rfl (Nat.le_of_ble_eq_true rfl) (by decide) (by decide) rfl h (fun r hr => m_X8_deliverAll hl0 ⟨r, hr, hr⟩) (fun x7 τ8 _ h => ?_)
    exact r_iret rfl dX8_deliver_27 h
  · refine r_iconst (v := 0) dX8_deliver_16 rfl rfl ?_
    exact r_iret rfl dX8_deliver_17 h
theorem m_X8_deliver {g : zF} (hl0 : g.2.2.2.1.stackTraces = false) {Q : zR × zS → Prop} {a0 a1 : Int} {σ : zS} (h : zo (f_X8_deliver a0 a1 σ) Q) : zm g Y_X8_deliver R_X8_deliver [(4, a0), (0, a1)] σ Q := zm_of (by decide) rfl (Nat.le_of_ble_eq_true rfl) (t_X8_deliver hl0 h)


/- X8_lose -/

set_option maxRecDepth 100000 in
set_option maxHeartbeats 4000000 in
theorem t_X8_lose_13 {g : zF} (hl0 : g.2.2.2.1.stackTraces = false) {Q : zR × zS → Prop}   {a0 s0 s1 : Int} {σ : zS} (h : zo (f_X8_lose_13  a0 s0 s1 σ) Q) : zw g Y_X8_lose R_X8_lose 13 [(0, (4, a0))] [(0, s1), (4, s0)] σ 0 0 Q := by
  unfold f_X8_lose_13 at h
  refine r_callV (K' := Y_X8_passes) (R' := R_X8_passes) (idx := 215) (n := 1) (b := s0) (as := [(0, s1)]) (rest := []) (C' := 0) (D' := 0) (cn := 8) rfl k0_X8_passes kV_X8_passes kl_X8_215 ⟨by decide, by decide⟩ dX8_lose_13 rfl rfl (Nat.le_of_ble_eq_true rfl) (by decide) (by decide) rfl h (fun r hr => m_X8_passes hl0 ⟨r, hr, hr⟩) (fun x1 τ2 _ h => ?_)
  refine r_if_ne 21 dX8_lose_16 (by decide) h (fun h => ?_) (fun h => ?_)
  · refine r_aload_n 0 dX8_lose_21 rfl ?_
    refine r_callV (K' := Y_X8_remember) (R' := R_X8_remember) (idx := 344) (n := 0) (b := a0) (as := []) (rest := []) (C' := 0) (D' := 0) (cn := 8) rfl k0_X8_remember kV_X8_remember kl_X8_344 ⟨by decide, by decide⟩ dX8_lose_22 rfl rfl (Nat.le_of_ble_eq_true rfl) (by decide) (by decide) rfl h (fun r hr => m_X8_remember hl0 ⟨r, hr, hr⟩) (fun _ τ4 _ h => ?_)
    refine r_aload_n 0 dX8_lose_25 rfl ?_
    refine r_callV (K' := Y_X8_dropFirst) (R' := R_X8_dropFirst) (idx := 172) (n := 0) (b := a0) (as := []) (rest := []) (C' := 0) (D' := 0) (cn := 8) rfl k0_X8_dropFirst kV_X8_dropFirst kl_X8_172 ⟨by decide, by decide⟩ dX8_lose_26 rfl rfl (Nat.le_of_ble_eq_true rfl) (by decide) (by decide) rfl h (fun r hr => m_X8_dropFirst hl0 ⟨r, hr, hr⟩) (fun _ τ6 _ h => ?_)
    refine r_aload_n 0 dX8_lose_29 rfl ?_
    refine r_callV (K' := Y_X8_queued) (R' := R_X8_queued) (idx := 160) (n := 0) (b := a0) (as := []) (rest := []) (C' := 0) (D' := 0) (cn := 8) rfl k0_X8_queued kV_X8_queued kl_X8_160 ⟨by decide, by decide⟩ dX8_lose_30 rfl rfl (Nat.le_of_ble_eq_true rfl) (by decide) (by decide) rfl h (fun r hr => m_X8_queued hl0 ⟨r, hr, hr⟩) (fun x7 τ8 _ h => ?_)
    exact r_iret rfl dX8_lose_33 h
  · refine r_iconst (v := 0) dX8_lose_19 rfl rfl ?_
    exact r_iret rfl dX8_lose_20 h

set_option maxRecDepth 100000 in
set_option maxHeartbeats 4000000 in
theorem t_X8_lose {g : zF} (hl0 : g.2.2.2.1.stackTraces = false) {Q : zR × zS → Prop}   {a0 : Int} {σ : zS} (h : zo (f_X8_lose  a0 σ) Q) : zw g Y_X8_lose R_X8_lose 0 [(0, (4, a0))] [] σ 0 0 Q := by
  unfold f_X8_lose at h
  refine r_aload_n 0 dX8_lose_0 rfl ?_
  refine r_aload_n 0 dX8_lose_1 rfl ?_
  refine r_callV (K' := Y_X8_queued) (R' := R_X8_queued) (idx := 160) (n := 0) (b := a0) (as := []) (rest := [(4, a0)]) (C' := 0) (D' := 0) (cn := 8) rfl k0_X8_queued kV_X8_queued kl_X8_160 ⟨by decide, by decide⟩ dX8_lose_2 rfl rfl (Nat.le_of_ble_eq_true rfl) (by decide) (by decide) rfl h (fun r hr => m_X8_queued hl0 ⟨r, hr, hr⟩) (fun x1 τ2 _ h => ?_)
  refine r_if_le 12 dX8_lose_5 (by decide) h (fun h => ?_) (fun h => ?_)
  · refine r_iconst (v := 0) dX8_lose_12 rfl rfl ?_
    exact t_X8_lose_13 hl0   h
  · refine r_iconst (v := 1) dX8_lose_8 rfl rfl ?_
    refine r_goto 13 dX8_lose_9 (by decide) ?_
    exact t_X8_lose_13 hl0   h
theorem m_X8_lose {g : zF} (hl0 : g.2.2.2.1.stackTraces = false) {Q : zR × zS → Prop} {a0 : Int} {σ : zS} (h : zo (f_X8_lose a0 σ) Q) : zm g Y_X8_lose R_X8_lose [(4, a0)] σ Q := zm_of (by decide) rfl (Nat.le_of_ble_eq_true rfl) (t_X8_lose hl0 h)


/- X8_pass -/

set_option maxRecDepth 100000 in
set_option maxHeartbeats 4000000 in
theorem t_X8_pass {g : zF} (hl0 : g.2.2.2.1.stackTraces = false) {Q : zR × zS → Prop}   {a0 a1 : Int} {σ : zS} (h : zo (f_X8_pass  a0 a1 σ) Q) : zw g Y_X8_pass R_X8_pass 0 [(0, (4, a0)), (1, (0, a1))] [] σ 0 0 Q := by
  unfold f_X8_pass at h
  refine r_aload_n 0 dX8_pass_0 rfl ?_
  refine r_iload_n 1 dX8_pass_1 rfl ?_
  refine r_i2l dX8_pass_2 ?_
  refine r_lconst dX8_pass_3 ?_
  refine r_ldcL (z := 99) wd_2077 (by decide +kernel) dX8_pass_4 ?_
  refine r_callS (K' := Y_X8_in) (R' := R_X8_in) (idx := 70) (n := 3) (as := [(1, a1), (1, 1), (1, 99)]) (rest := [(4, a0)]) (C' := 0) (D' := 0) rfl k0_X8_in wd_1562 kl_X8_70 ⟨by decide, by decide⟩ dX8_pass_7 rfl rfl (Nat.le_of_ble_eq_true rfl) (by decide) (by decide) h (fun r hr => m_X8_in hl0 ⟨r, hr, hr⟩) (fun x1 τ2 _ h => ?_)
  refine r_callV (K' := Y_X8_passes) (R' := R_X8_passes) (idx := 215) (n := 1) (b := a0) (as := [(0, x1)]) (rest := []) (C' := 0) (D' := 0) (cn := 8) rfl k0_X8_passes kV_X8_passes kl_X8_215 ⟨by decide, by decide⟩ dX8_pass_10 rfl rfl (Nat.le_of_ble_eq_true rfl) (by decide) (by decide) rfl h (fun r hr => m_X8_passes hl0 ⟨r, hr, hr⟩) (fun x3 τ4 _ h => ?_)
  refine r_if_ne 18 dX8_pass_13 (by decide) h (fun h => ?_) (fun h => ?_)
  · refine r_aload_n 0 dX8_pass_18 rfl ?_
    refine r_callV (K' := Y_X8_remember) (R' := R_X8_remember) (idx := 344) (n := 0) (b := a0) (as := []) (rest := []) (C' := 0) (D' := 0) (cn := 8) rfl k0_X8_remember kV_X8_remember kl_X8_344 ⟨by decide, by decide⟩ dX8_pass_19 rfl rfl (Nat.le_of_ble_eq_true rfl) (by decide) (by decide) rfl h (fun r hr => m_X8_remember hl0 ⟨r, hr, hr⟩) (fun _ τ6 _ h => ?_)
    refine r_aload_n 0 dX8_pass_22 rfl ?_
    refine r_iload_n 1 dX8_pass_23 rfl ?_
    refine r_callV (K' := Y_X8_doPass) (R' := R_X8_doPass) (idx := 443) (n := 1) (b := a0) (as := [(0, a1)]) (rest := []) (C' := 0) (D' := 0) (cn := 8) rfl k0_X8_doPass kV_X8_doPass kl_X8_443 ⟨by decide, by decide⟩ dX8_pass_24 rfl rfl (Nat.le_of_ble_eq_true rfl) (by decide) (by decide) rfl h (fun r hr => m_X8_doPass hl0 ⟨r, hr, hr⟩) (fun x7 τ8 _ h => ?_)
    exact r_iret rfl dX8_pass_27 h
  · refine r_iconst (v := 0) dX8_pass_16 rfl rfl ?_
    exact r_iret rfl dX8_pass_17 h
theorem m_X8_pass {g : zF} (hl0 : g.2.2.2.1.stackTraces = false) {Q : zR × zS → Prop} {a0 a1 : Int} {σ : zS} (h : zo (f_X8_pass a0 a1 σ) Q) : zm g Y_X8_pass R_X8_pass [(4, a0), (0, a1)] σ Q := zm_of (by decide) rfl (Nat.le_of_ble_eq_true rfl) (t_X8_pass hl0 h)


/- X8_link -/

set_option maxRecDepth 100000 in
set_option maxHeartbeats 4000000 in
theorem t_X8_link_70 {g : zF} (hl0 : g.2.2.2.1.stackTraces = false) {Q : zR × zS → Prop}   {a4 s0 s1 s2 s3 : Int} {σ : zS} (h : zo (f_X8_link_70  a4 s0 s1 s2 s3 σ) Q) : zw g Y_X8_link R_X8_link 70 [(4, (0, a4))] [(0, s3), (0, s2), (0, s1), (4, s0)] σ 0 0 Q := by
  unfold f_X8_link_70 at h
  refine r_callV (K' := Y_X8_putTrust) (R' := R_X8_putTrust) (idx := 139) (n := 3) (b := s0) (as := [(0, s1), (0, s2), (0, s3)]) (rest := []) (C' := 0) (D' := 0) (cn := 8) rfl k0_X8_putTrust kV_X8_putTrust kl_X8_139 ⟨by decide, by decide⟩ dX8_link_70 rfl rfl (Nat.le_of_ble_eq_true rfl) (by decide) (by decide) rfl h (fun r hr => m_X8_putTrust hl0 ⟨r, hr, hr⟩) (fun _ τ2 _ h => ?_)
  refine r_iload 0 dX8_link_73 rfl ?_
  exact r_zret rfl dX8_link_75 h

set_option maxRecDepth 100000 in
set_option maxHeartbeats 4000000 in
theorem t_X8_link_55 {g : zF} (hl0 : g.2.2.2.1.stackTraces = false) {Q : zR × zS → Prop}   {a0 a1 a2 a3 a4 s0 s1 s2 s3 : Int} {σ : zS} (h : zo (f_X8_link_55  a0 a1 a2 a3 a4 s0 s1 s2 s3 σ) Q) : zw g Y_X8_link R_X8_link 55 [(0, (4, a0)), (1, (0, a1)), (2, (0, a2)), (3, (0, a3)), (4, (0, a4))] [(0, s3), (0, s2), (0, s1), (4, s0)] σ 0 0 Q := by
  unfold f_X8_link_55 at h
  refine r_callV (K' := Y_X8_putTrust) (R' := R_X8_putTrust) (idx := 139) (n := 3) (b := s0) (as := [(0, s1), (0, s2), (0, s3)]) (rest := []) (C' := 0) (D' := 0) (cn := 8) rfl k0_X8_putTrust kV_X8_putTrust kl_X8_139 ⟨by decide, by decide⟩ dX8_link_55 rfl rfl (Nat.le_of_ble_eq_true rfl) (by decide) (by decide) rfl h (fun r hr => m_X8_putTrust hl0 ⟨r, hr, hr⟩) (fun _ τ2 _ h => ?_)
  refine r_aload_n 0 dX8_link_58 rfl ?_
  refine r_iload_n 2 dX8_link_59 rfl ?_
  refine r_iload_n 1 dX8_link_60 rfl ?_
  refine r_iload_n 3 dX8_link_61 rfl ?_
  refine r_if_eq 69 dX8_link_62 (by decide) h (fun h => ?_) (fun h => ?_)
  · refine r_iconst (v := (-1)) dX8_link_69 rfl rfl ?_
    refine r_weak (L' := [(4, (0, a4))]) [4] rfl ?_
    exact t_X8_link_70 hl0   h
  · refine r_iconst (v := 5) dX8_link_65 rfl rfl ?_
    refine r_goto 70 dX8_link_66 (by decide) ?_
    refine r_weak (L' := [(4, (0, a4))]) [4] rfl ?_
    exact t_X8_link_70 hl0   h

set_option maxRecDepth 100000 in
set_option maxHeartbeats 4000000 in
theorem t_X8_link_17 {g : zF} (hl0 : g.2.2.2.1.stackTraces = false) {Q : zR × zS → Prop}   {a0 a1 a2 a3 s0 s1 s2 : Int} {σ : zS} (h : zo (f_X8_link_17  a0 a1 a2 a3 s0 s1 s2 σ) Q) : zw g Y_X8_link R_X8_link 17 [(0, (4, a0)), (1, (0, a1)), (2, (0, a2)), (3, (0, a3))] [(0, s2), (0, s1), (4, s0)] σ 0 0 Q := by
  unfold f_X8_link_17 at h
  refine r_callV (K' := Y_X8_passes2) (R' := R_X8_passes2) (idx := 368) (n := 2) (b := s0) (as := [(0, s1), (0, s2)]) (rest := []) (C' := 0) (D' := 0) (cn := 8) rfl k0_X8_passes2 kV_X8_passes2 kl_X8_368 ⟨by decide, by decide⟩ dX8_link_17 rfl rfl (Nat.le_of_ble_eq_true rfl) (by decide) (by decide) rfl h (fun r hr => m_X8_passes2 hl0 ⟨r, hr, hr⟩) (fun x1 τ2 _ h => ?_)
  refine r_if_ne 25 dX8_link_20 (by decide) h (fun h => ?_) (fun h => ?_)
  · refine r_aload_n 0 dX8_link_25 rfl ?_
    refine r_callV (K' := Y_X8_remember) (R' := R_X8_remember) (idx := 344) (n := 0) (b := a0) (as := []) (rest := []) (C' := 0) (D' := 0) (cn := 8) rfl k0_X8_remember kV_X8_remember kl_X8_344 ⟨by decide, by decide⟩ dX8_link_26 rfl rfl (Nat.le_of_ble_eq_true rfl) (by decide) (by decide) rfl h (fun r hr => m_X8_remember hl0 ⟨r, hr, hr⟩) (fun _ τ4 _ h => ?_)
    refine r_aload_n 0 dX8_link_29 rfl ?_
    refine r_iload_n 1 dX8_link_30 rfl ?_
    refine r_iload_n 2 dX8_link_31 rfl ?_
    refine r_callV (K' := Y_X8_areLinked) (R' := R_X8_areLinked) (idx := 131) (n := 2) (b := a0) (as := [(0, a1), (0, a2)]) (rest := []) (C' := 0) (D' := 0) (cn := 8) rfl k0_X8_areLinked kV_X8_areLinked kl_X8_131 ⟨by decide, by decide⟩ dX8_link_32 rfl rfl (Nat.le_of_ble_eq_true rfl) (by decide) (by decide) rfl h (fun r hr => m_X8_areLinked hl0 ⟨r, hr, hr⟩) (fun x5 τ6 _ h => ?_)
    refine r_istore (L' := [(4, (0, x5)), (0, (4, a0)), (1, (0, a1)), (2, (0, a2)), (3, (0, a3))]) dX8_link_35 (by decide) rfl ?_
    refine r_iload_n 4 dX8_link_37 rfl ?_
    refine r_iload 0 dX8_link_38 rfl ?_
    refine r_icmp_eq 73 dX8_link_40 (by decide) h (fun h => ?_) (fun h => ?_)
    · refine r_iload 0 dX8_link_73 rfl ?_
      exact r_zret rfl dX8_link_75 h
    · refine r_aload_n 1 dX8_link_43 rfl ?_
      refine r_iload_n 2 dX8_link_44 rfl ?_
      refine r_iload_n 3 dX8_link_45 rfl ?_
      refine r_iload_n 4 dX8_link_46 rfl ?_
      refine r_if_eq 54 dX8_link_47 (by decide) h (fun h => ?_) (fun h => ?_)
      · refine r_iconst (v := (-1)) dX8_link_54 rfl rfl ?_
        refine r_weak (L' := [(0, (4, a0)), (1, (0, a1)), (2, (0, a2)), (3, (0, a3)), (4, (0, x5))]) [1, 2, 3, 4, 0] rfl ?_
        exact t_X8_link_55 hl0   h
      · refine r_iconst (v := 5) dX8_link_50 rfl rfl ?_
        refine r_goto 55 dX8_link_51 (by decide) ?_
        refine r_weak (L' := [(0, (4, a0)), (1, (0, a1)), (2, (0, a2)), (3, (0, a3)), (4, (0, x5))]) [1, 2, 3, 4, 0] rfl ?_
        exact t_X8_link_55 hl0   h
  · refine r_iconst (v := 0) dX8_link_23 rfl rfl ?_
    exact r_zretc (by decide) rfl dX8_link_24 h

set_option maxRecDepth 100000 in
set_option maxHeartbeats 4000000 in
theorem t_X8_link {g : zF} (hl0 : g.2.2.2.1.stackTraces = false) {Q : zR × zS → Prop}   {a0 a1 a2 a3 : Int} {σ : zS} (h : zo (f_X8_link  a0 a1 a2 a3 σ) Q) : zw g Y_X8_link R_X8_link 0 [(0, (4, a0)), (1, (0, a1)), (2, (0, a2)), (3, (0, a3))] [] σ 0 0 Q := by
  unfold f_X8_link at h
  refine r_aload_n 0 dX8_link_0 rfl ?_
  refine r_aload_n 0 dX8_link_1 rfl ?_
  refine r_iload_n 1 dX8_link_2 rfl ?_
  refine r_iload_n 2 dX8_link_3 rfl ?_
  refine r_callV (K' := Y_X8_areAgents) (R' := R_X8_areAgents) (idx := 363) (n := 2) (b := a0) (as := [(0, a1), (0, a2)]) (rest := [(4, a0)]) (C' := 0) (D' := 0) (cn := 8) rfl k0_X8_areAgents kV_X8_areAgents kl_X8_363 ⟨by decide, by decide⟩ dX8_link_4 rfl rfl (Nat.le_of_ble_eq_true rfl) (by decide) (by decide) rfl h (fun r hr => m_X8_areAgents hl0 ⟨r, hr, hr⟩) (fun x1 τ2 _ h => ?_)
  refine r_iload_n 1 dX8_link_7 rfl ?_
  refine r_iload_n 2 dX8_link_8 rfl ?_
  refine r_icmp_eq 16 dX8_link_9 (by decide) h (fun h => ?_) (fun h => ?_)
  · refine r_iconst (v := 0) dX8_link_16 rfl rfl ?_
    exact t_X8_link_17 hl0   h
  · refine r_iconst (v := 1) dX8_link_12 rfl rfl ?_
    refine r_goto 17 dX8_link_13 (by decide) ?_
    exact t_X8_link_17 hl0   h
theorem m_X8_link {g : zF} (hl0 : g.2.2.2.1.stackTraces = false) {Q : zR × zS → Prop} {a0 a1 a2 a3 : Int} {σ : zS} (h : zo (f_X8_link a0 a1 a2 a3 σ) Q) : zm g Y_X8_link R_X8_link [(4, a0), (0, a1), (0, a2), (0, a3)] σ Q := zm_of (by decide) rfl (Nat.le_of_ble_eq_true rfl) (t_X8_link hl0 h)


/- X8_setTrust -/

set_option maxRecDepth 100000 in
set_option maxHeartbeats 4000000 in
theorem t_X8_setTrust_39 {g : zF} (hl0 : g.2.2.2.1.stackTraces = false) {Q : zR × zS → Prop}   {a0 a1 a2 a3 s0 s1 s2 s3 : Int} {σ : zS} (h : zo (f_X8_setTrust_39  a0 a1 a2 a3 s0 s1 s2 s3 σ) Q) : zw g Y_X8_setTrust R_X8_setTrust 39 [(0, (4, a0)), (1, (0, a1)), (2, (0, a2)), (3, (0, a3))] [(0, s3), (0, s2), (0, s1), (4, s0)] σ 0 0 Q := by
  unfold f_X8_setTrust_39 at h
  refine r_callV (K' := Y_X8_passes3) (R' := R_X8_passes3) (idx := 7) (n := 3) (b := s0) (as := [(0, s1), (0, s2), (0, s3)]) (rest := []) (C' := 0) (D' := 0) (cn := 8) rfl k0_X8_passes3 kV_X8_passes3 kl_X8_7 ⟨by decide, by decide⟩ dX8_setTrust_39 rfl rfl (Nat.le_of_ble_eq_true rfl) (by decide) (by decide) rfl h (fun r hr => m_X8_passes3 hl0 ⟨r, hr, hr⟩) (fun x1 τ2 _ h => ?_)
  refine r_if_ne 47 dX8_setTrust_42 (by decide) h (fun h => ?_) (fun h => ?_)
  · refine r_aload_n 0 dX8_setTrust_47 rfl ?_
    refine r_callV (K' := Y_X8_remember) (R' := R_X8_remember) (idx := 344) (n := 0) (b := a0) (as := []) (rest := []) (C' := 0) (D' := 0) (cn := 8) rfl k0_X8_remember kV_X8_remember kl_X8_344 ⟨by decide, by decide⟩ dX8_setTrust_48 rfl rfl (Nat.le_of_ble_eq_true rfl) (by decide) (by decide) rfl h (fun r hr => m_X8_remember hl0 ⟨r, hr, hr⟩) (fun _ τ4 _ h => ?_)
    refine r_aload_n 0 dX8_setTrust_51 rfl ?_
    refine r_iload_n 1 dX8_setTrust_52 rfl ?_
    refine r_iload_n 2 dX8_setTrust_53 rfl ?_
    refine r_callV (K' := Y_X8_trustOf) (R' := R_X8_trustOf) (idx := 77) (n := 2) (b := a0) (as := [(0, a1), (0, a2)]) (rest := []) (C' := 0) (D' := 0) (cn := 8) rfl k0_X8_trustOf kV_X8_trustOf kl_X8_77 ⟨by decide, by decide⟩ dX8_setTrust_54 rfl rfl (Nat.le_of_ble_eq_true rfl) (by decide) (by decide) rfl h (fun r hr => m_X8_trustOf hl0 ⟨r, hr, hr⟩) (fun x5 τ6 _ h => ?_)
    refine r_istore (L' := [(5, (0, x5)), (0, (4, a0)), (1, (0, a1)), (2, (0, a2)), (3, (0, a3))]) dX8_setTrust_57 (by decide) rfl ?_
    refine r_aload_n 1 dX8_setTrust_59 rfl ?_
    refine r_iload_n 2 dX8_setTrust_60 rfl ?_
    refine r_iload_n 3 dX8_setTrust_61 rfl ?_
    refine r_iload_n 4 dX8_setTrust_62 rfl ?_
    refine r_callV (K' := Y_X8_putTrust) (R' := R_X8_putTrust) (idx := 139) (n := 3) (b := a0) (as := [(0, a1), (0, a2), (0, a3)]) (rest := []) (C' := 0) (D' := 0) (cn := 8) rfl k0_X8_putTrust kV_X8_putTrust kl_X8_139 ⟨by decide, by decide⟩ dX8_setTrust_63 rfl rfl (Nat.le_of_ble_eq_true rfl) (by decide) (by decide) rfl h (fun r hr => m_X8_putTrust hl0 ⟨r, hr, hr⟩) (fun _ τ8 _ h => ?_)
    refine r_iload 0 dX8_setTrust_66 rfl ?_
    exact r_iret rfl dX8_setTrust_68 h
  · refine r_iconst (v := 0) dX8_setTrust_45 rfl rfl ?_
    exact r_iret rfl dX8_setTrust_46 h

set_option maxRecDepth 100000 in
set_option maxHeartbeats 4000000 in
theorem t_X8_setTrust_38 {g : zF} (hl0 : g.2.2.2.1.stackTraces = false) {Q : zR × zS → Prop}   {a0 a1 a2 a3 s0 s1 s2 : Int} {σ : zS} (h : zo (f_X8_setTrust_38  a0 a1 a2 a3 s0 s1 s2 σ) Q) : zw g Y_X8_setTrust R_X8_setTrust 38 [(0, (4, a0)), (1, (0, a1)), (2, (0, a2)), (3, (0, a3))] [(0, s2), (0, s1), (4, s0)] σ 0 0 Q := by
  unfold f_X8_setTrust_38 at h
  refine r_iconst (v := 0) dX8_setTrust_38 rfl rfl ?_
  exact t_X8_setTrust_39 hl0   h

set_option maxRecDepth 100000 in
set_option maxHeartbeats 4000000 in
theorem t_X8_setTrust {g : zF} (hl0 : g.2.2.2.1.stackTraces = false) {Q : zR × zS → Prop}   {a0 a1 a2 a3 : Int} {σ : zS} (h : zo (f_X8_setTrust  a0 a1 a2 a3 σ) Q) : zw g Y_X8_setTrust R_X8_setTrust 0 [(0, (4, a0)), (1, (0, a1)), (2, (0, a2)), (3, (0, a3))] [] σ 0 0 Q := by
  unfold f_X8_setTrust at h
  refine r_aload_n 0 dX8_setTrust_0 rfl ?_
  refine r_iload_n 1 dX8_setTrust_1 rfl ?_
  refine r_iload_n 2 dX8_setTrust_2 rfl ?_
  refine r_callV (K' := Y_X8_areAgents) (R' := R_X8_areAgents) (idx := 363) (n := 2) (b := a0) (as := [(0, a1), (0, a2)]) (rest := []) (C' := 0) (D' := 0) (cn := 8) rfl k0_X8_areAgents kV_X8_areAgents kl_X8_363 ⟨by decide, by decide⟩ dX8_setTrust_3 rfl rfl (Nat.le_of_ble_eq_true rfl) (by decide) (by decide) rfl h (fun r hr => m_X8_areAgents hl0 ⟨r, hr, hr⟩) (fun x1 τ2 _ h => ?_)
  refine r_istore (L' := [(4, (0, x1)), (0, (4, a0)), (1, (0, a1)), (2, (0, a2)), (3, (0, a3))]) dX8_setTrust_6 (by decide) rfl ?_
  refine r_aload_n 1 dX8_setTrust_8 rfl ?_
  refine r_iload 0 dX8_setTrust_9 rfl ?_
  refine r_iload_n 4 dX8_setTrust_11 rfl ?_
  refine r_i2l dX8_setTrust_12 ?_
  refine r_lconst dX8_setTrust_13 ?_
  refine r_ldcL (z := 10) wd_2131 (by decide +kernel) dX8_setTrust_14 ?_
  refine r_callS (K' := Y_X8_in) (R' := R_X8_in) (idx := 70) (n := 3) (as := [(1, a3), (1, 0), (1, 10)]) (rest := [(0, x1), (4, a0)]) (C' := 0) (D' := 0) rfl k0_X8_in wd_1562 kl_X8_70 ⟨by decide, by decide⟩ dX8_setTrust_17 rfl rfl (Nat.le_of_ble_eq_true rfl) (by decide) (by decide) h (fun r hr => m_X8_in hl0 ⟨r, hr, hr⟩) (fun x3 τ4 _ h => ?_)
  refine r_iload 0 dX8_setTrust_20 rfl ?_
  refine r_if_eq 38 dX8_setTrust_22 (by decide) h (fun h => ?_) (fun h => ?_)
  · refine r_weak (L' := [(0, (4, a0)), (1, (0, a1)), (2, (0, a2)), (3, (0, a3))]) [1, 2, 3, 4] rfl ?_
    exact t_X8_setTrust_38 hl0   h
  · refine r_aload_n 1 dX8_setTrust_25 rfl ?_
    refine r_iload_n 2 dX8_setTrust_26 rfl ?_
    refine r_iload_n 3 dX8_setTrust_27 rfl ?_
    refine r_callV (K' := Y_X8_areLinked) (R' := R_X8_areLinked) (idx := 131) (n := 2) (b := a0) (as := [(0, a1), (0, a2)]) (rest := [(0, x3), (0, x1), (4, a0)]) (C' := 0) (D' := 0) (cn := 8) rfl k0_X8_areLinked kV_X8_areLinked kl_X8_131 ⟨by decide, by decide⟩ dX8_setTrust_28 rfl rfl (Nat.le_of_ble_eq_true rfl) (by decide) (by decide) rfl h (fun r hr => m_X8_areLinked hl0 ⟨r, hr, hr⟩) (fun x5 τ6 _ h => ?_)
    refine r_if_eq 38 dX8_setTrust_31 (by decide) h (fun h => ?_) (fun h => ?_)
    · refine r_weak (L' := [(0, (4, a0)), (1, (0, a1)), (2, (0, a2)), (3, (0, a3))]) [1, 2, 3, 4] rfl ?_
      exact t_X8_setTrust_38 hl0   h
    · refine r_iconst (v := 1) dX8_setTrust_34 rfl rfl ?_
      refine r_goto 39 dX8_setTrust_35 (by decide) ?_
      refine r_weak (L' := [(0, (4, a0)), (1, (0, a1)), (2, (0, a2)), (3, (0, a3))]) [1, 2, 3, 4] rfl ?_
      exact t_X8_setTrust_39 hl0   h
theorem m_X8_setTrust {g : zF} (hl0 : g.2.2.2.1.stackTraces = false) {Q : zR × zS → Prop} {a0 a1 a2 a3 : Int} {σ : zS} (h : zo (f_X8_setTrust a0 a1 a2 a3 σ) Q) : zm g Y_X8_setTrust R_X8_setTrust [(4, a0), (0, a1), (0, a2), (0, a3)] σ Q := zm_of (by decide) rfl (Nat.le_of_ble_eq_true rfl) (t_X8_setTrust hl0 h)


/- X8_leastOf -/

set_option maxRecDepth 100000 in
set_option maxHeartbeats 4000000 in
theorem t_X8_leastOf {g : zF} (hl0 : g.2.2.2.1.stackTraces = false) {Q : zR × zS → Prop}   {a0 : Int} {σ : zS} (h : zo (f_X8_leastOf  a0 σ) Q) : zw g Y_X8_leastOf R_X8_leastOf 0 [(0, (0, a0))] [] σ 0 0 Q := by
  unfold f_X8_leastOf at h
  refine r_iload_n 0 dX8_leastOf_0 rfl ?_
  refine r_iconst (v := 3) dX8_leastOf_1 rfl rfl ?_
  refine r_icmp_ge 9 dX8_leastOf_2 (by decide) h (fun h => ?_) (fun h => ?_)
  · refine r_iconst (v := 1) dX8_leastOf_9 rfl rfl ?_
    exact r_iret rfl dX8_leastOf_10 h
  · refine r_iconst (v := 0) dX8_leastOf_5 rfl rfl ?_
    refine r_goto 10 dX8_leastOf_6 (by decide) ?_
    exact r_iret rfl dX8_leastOf_10 h
theorem m_X8_leastOf {g : zF} (hl0 : g.2.2.2.1.stackTraces = false) {Q : zR × zS → Prop} {a0 : Int} {σ : zS} (h : zo (f_X8_leastOf a0 σ) Q) : zm g Y_X8_leastOf R_X8_leastOf [(0, a0)] σ Q := zm_of (by decide) rfl (Nat.le_of_ble_eq_true rfl) (t_X8_leastOf hl0 h)


/- X8_mostOf -/

set_option maxRecDepth 100000 in
set_option maxHeartbeats 4000000 in
theorem t_X8_mostOf {g : zF} (hl0 : g.2.2.2.1.stackTraces = false) {Q : zR × zS → Prop}   {a0 : Int} {σ : zS} (h : zo (f_X8_mostOf  a0 σ) Q) : zw g Y_X8_mostOf R_X8_mostOf 0 [(0, (0, a0))] [] σ 0 0 Q := by
  unfold f_X8_mostOf at h
  refine r_iload_n 0 dX8_mostOf_0 rfl ?_
  refine r_switch [32, 35, 38, 41] 44 dX8_mostOf_1 (by decide) (by decide) (by decide) (by decide) h (fun h => ?_) ⟨fun h => ?_, fun h => ?_, fun h => ?_, fun h => ?_, trivial⟩
  · refine r_iconst (v := 3) dX8_mostOf_44 rfl rfl ?_
    exact r_iret rfl dX8_mostOf_45 h
  · refine r_bipush (v := 20) dX8_mostOf_32 rfl rfl ?_
    exact r_iret rfl dX8_mostOf_34 h
  · refine r_bipush (v := 50) dX8_mostOf_35 rfl rfl ?_
    exact r_iret rfl dX8_mostOf_37 h
  · refine r_bipush (v := 10) dX8_mostOf_38 rfl rfl ?_
    exact r_iret rfl dX8_mostOf_40 h
  · refine r_bipush (v := 99) dX8_mostOf_41 rfl rfl ?_
    exact r_iret rfl dX8_mostOf_43 h
theorem m_X8_mostOf {g : zF} (hl0 : g.2.2.2.1.stackTraces = false) {Q : zR × zS → Prop} {a0 : Int} {σ : zS} (h : zo (f_X8_mostOf a0 σ) Q) : zm g Y_X8_mostOf R_X8_mostOf [(0, a0)] σ Q := zm_of (by decide) rfl (Nat.le_of_ble_eq_true rfl) (t_X8_mostOf hl0 h)


/- X8_setRule -/

set_option maxRecDepth 100000 in
set_option maxHeartbeats 4000000 in
theorem t_X8_setRule_36 {g : zF} (hl0 : g.2.2.2.1.stackTraces = false) {Q : zR × zS → Prop}   {a0 a1 a2 s0 s1 : Int} {σ : zS} (h : zo (f_X8_setRule_36  a0 a1 a2 s0 s1 σ) Q) : zw g Y_X8_setRule R_X8_setRule 36 [(0, (4, a0)), (1, (0, a1)), (2, (0, a2))] [(0, s1), (4, s0)] σ 0 0 Q := by
  unfold f_X8_setRule_36 at h
  refine r_callV (K' := Y_X8_passes) (R' := R_X8_passes) (idx := 215) (n := 1) (b := s0) (as := [(0, s1)]) (rest := []) (C' := 0) (D' := 0) (cn := 8) rfl k0_X8_passes kV_X8_passes kl_X8_215 ⟨by decide, by decide⟩ dX8_setRule_36 rfl rfl (Nat.le_of_ble_eq_true rfl) (by decide) (by decide) rfl h (fun r hr => m_X8_passes hl0 ⟨r, hr, hr⟩) (fun x1 τ2 _ h => ?_)
  refine r_if_ne 44 dX8_setRule_39 (by decide) h (fun h => ?_) (fun h => ?_)
  · refine r_aload_n 0 dX8_setRule_44 rfl ?_
    refine r_callV (K' := Y_X8_remember) (R' := R_X8_remember) (idx := 344) (n := 0) (b := a0) (as := []) (rest := []) (C' := 0) (D' := 0) (cn := 8) rfl k0_X8_remember kV_X8_remember kl_X8_344 ⟨by decide, by decide⟩ dX8_setRule_45 rfl rfl (Nat.le_of_ble_eq_true rfl) (by decide) (by decide) rfl h (fun r hr => m_X8_remember hl0 ⟨r, hr, hr⟩) (fun _ τ4 _ h => ?_)
    refine r_aload_n 0 dX8_setRule_48 rfl ?_
    refine r_iload_n 1 dX8_setRule_49 rfl ?_
    refine r_callV (K' := Y_X8_rule) (R' := R_X8_rule) (idx := 110) (n := 1) (b := a0) (as := [(0, a1)]) (rest := []) (C' := 0) (D' := 0) (cn := 8) rfl k0_X8_rule kV_X8_rule kl_X8_110 ⟨by decide, by decide⟩ dX8_setRule_50 rfl rfl (Nat.le_of_ble_eq_true rfl) (by decide) (by decide) rfl h (fun r hr => m_X8_rule hl0 ⟨r, hr, hr⟩) (fun x5 τ6 _ h => ?_)
    refine r_istore_n (L' := [(3, (0, x5)), (0, (4, a0)), (1, (0, a1)), (2, (0, a2))]) dX8_setRule_53 (by decide) rfl ?_
    refine r_aload_n 1 dX8_setRule_54 rfl ?_
    refine r_getr fd_X8_17 rfl dX8_setRule_55 h (fun x7 h => ?_)
    refine r_iconst (v := 3) dX8_setRule_58 rfl rfl ?_
    refine r_iload_n 2 dX8_setRule_59 rfl ?_
    refine r_iadd dX8_setRule_60 ?_
    refine r_iload_n 3 dX8_setRule_61 rfl ?_
    refine r_iast dX8_setRule_62 h (fun τ8 h => ?_)
    refine r_iload_n 0 dX8_setRule_63 rfl ?_
    exact r_iret rfl dX8_setRule_64 h
  · refine r_iconst (v := 0) dX8_setRule_42 rfl rfl ?_
    exact r_iret rfl dX8_setRule_43 h

set_option maxRecDepth 100000 in
set_option maxHeartbeats 4000000 in
theorem t_X8_setRule_35 {g : zF} (hl0 : g.2.2.2.1.stackTraces = false) {Q : zR × zS → Prop}   {a0 a1 a2 s0 : Int} {σ : zS} (h : zo (f_X8_setRule_35  a0 a1 a2 s0 σ) Q) : zw g Y_X8_setRule R_X8_setRule 35 [(0, (4, a0)), (1, (0, a1)), (2, (0, a2))] [(4, s0)] σ 0 0 Q := by
  unfold f_X8_setRule_35 at h
  refine r_iconst (v := 0) dX8_setRule_35 rfl rfl ?_
  exact t_X8_setRule_36 hl0   h

set_option maxRecDepth 100000 in
set_option maxHeartbeats 4000000 in
theorem t_X8_setRule {g : zF} (hl0 : g.2.2.2.1.stackTraces = false) {Q : zR × zS → Prop}   {a0 a1 a2 : Int} {σ : zS} (h : zo (f_X8_setRule  a0 a1 a2 σ) Q) : zw g Y_X8_setRule R_X8_setRule 0 [(0, (4, a0)), (1, (0, a1)), (2, (0, a2))] [] σ 0 0 Q := by
  unfold f_X8_setRule at h
  refine r_aload_n 0 dX8_setRule_0 rfl ?_
  refine r_iload_n 1 dX8_setRule_1 rfl ?_
  refine r_i2l dX8_setRule_2 ?_
  refine r_lconst dX8_setRule_3 ?_
  refine r_ldcL (z := 4) wd_1827 (by decide +kernel) dX8_setRule_4 ?_
  refine r_callS (K' := Y_X8_in) (R' := R_X8_in) (idx := 70) (n := 3) (as := [(1, a1), (1, 0), (1, 4)]) (rest := [(4, a0)]) (C' := 0) (D' := 0) rfl k0_X8_in wd_1562 kl_X8_70 ⟨by decide, by decide⟩ dX8_setRule_7 rfl rfl (Nat.le_of_ble_eq_true rfl) (by decide) (by decide) h (fun r hr => m_X8_in hl0 ⟨r, hr, hr⟩) (fun x1 τ2 _ h => ?_)
  refine r_if_eq 35 dX8_setRule_10 (by decide) h (fun h => ?_) (fun h => ?_)
  · exact t_X8_setRule_35 hl0   h
  · refine r_iload_n 2 dX8_setRule_13 rfl ?_
    refine r_i2l dX8_setRule_14 ?_
    refine r_iload_n 1 dX8_setRule_15 rfl ?_
    refine r_callS (K' := Y_X8_leastOf) (R' := R_X8_leastOf) (idx := 459) (n := 1) (as := [(0, a1)]) (rest := [(1, a2), (4, a0)]) (C' := 0) (D' := 0) rfl k0_X8_leastOf wd_2137 kl_X8_459 ⟨by decide, by decide⟩ dX8_setRule_16 rfl rfl (Nat.le_of_ble_eq_true rfl) (by decide) (by decide) h (fun r hr => m_X8_leastOf hl0 ⟨r, hr, hr⟩) (fun x3 τ4 _ h => ?_)
    refine r_i2l dX8_setRule_19 ?_
    refine r_iload_n 1 dX8_setRule_20 rfl ?_
    refine r_callS (K' := Y_X8_mostOf) (R' := R_X8_mostOf) (idx := 462) (n := 1) (as := [(0, a1)]) (rest := [(1, x3), (1, a2), (4, a0)]) (C' := 0) (D' := 0) rfl k0_X8_mostOf wd_2140 kl_X8_462 ⟨by decide, by decide⟩ dX8_setRule_21 rfl rfl (Nat.le_of_ble_eq_true rfl) (by decide) (by decide) h (fun r hr => m_X8_mostOf hl0 ⟨r, hr, hr⟩) (fun x5 τ6 _ h => ?_)
    refine r_i2l dX8_setRule_24 ?_
    refine r_callS (K' := Y_X8_in) (R' := R_X8_in) (idx := 70) (n := 3) (as := [(1, a2), (1, x3), (1, x5)]) (rest := [(4, a0)]) (C' := 0) (D' := 0) rfl k0_X8_in wd_1562 kl_X8_70 ⟨by decide, by decide⟩ dX8_setRule_25 rfl rfl (Nat.le_of_ble_eq_true rfl) (by decide) (by decide) h (fun r hr => m_X8_in hl0 ⟨r, hr, hr⟩) (fun x7 τ8 _ h => ?_)
    refine r_if_eq 35 dX8_setRule_28 (by decide) h (fun h => ?_) (fun h => ?_)
    · exact t_X8_setRule_35 hl0   h
    · refine r_iconst (v := 1) dX8_setRule_31 rfl rfl ?_
      refine r_goto 36 dX8_setRule_32 (by decide) ?_
      exact t_X8_setRule_36 hl0   h
theorem m_X8_setRule {g : zF} (hl0 : g.2.2.2.1.stackTraces = false) {Q : zR × zS → Prop} {a0 a1 a2 : Int} {σ : zS} (h : zo (f_X8_setRule a0 a1 a2 σ) Q) : zm g Y_X8_setRule R_X8_setRule [(4, a0), (0, a1), (0, a2)] σ Q := zm_of (by decide) rfl (Nat.le_of_ble_eq_true rfl) (t_X8_setRule hl0 h)


/- X8_forget -/

set_option maxRecDepth 100000 in
set_option maxHeartbeats 4000000 in
theorem t_X8_forget_82 {g : zF} (hl0 : g.2.2.2.1.stackTraces = false) {Q : zR × zS → Prop} (r24 : Int → Int → Int → Int → Int → zS → zFn) (hr24 : ∀ b0 b1 b2 b3 b4 τ, zo (r24 b0 b1 b2 b3 b4 τ) Q → zw g Y_X8_forget R_X8_forget 24 [(0, (4, b0)), (1, (0, b1)), (2, (0, b2)), (3, (0, b3)), (4, (0, b4))] [] τ 0 0 Q) {a0 a1 a2 a4 s0 s1 : Int} {σ : zS} (h : zo (f_X8_forget_82 r24 a0 a1 a2 a4 s0 s1 σ) Q) : zw g Y_X8_forget R_X8_forget 82 [(0, (4, a0)), (1, (0, a1)), (2, (0, a2)), (4, (0, a4))] [(0, s1), (0, s0)] σ 0 0 Q := by
  unfold f_X8_forget_82 at h
  refine r_iadd dX8_forget_82 ?_
  refine r_istore_n (L' := [(3, (0, (w32 (s0 + s1)))), (0, (4, a0)), (1, (0, a1)), (2, (0, a2)), (4, (0, a4))]) dX8_forget_83 (by decide) rfl ?_
  refine r_goto 24 dX8_forget_84 (by decide) ?_
  refine r_weak (L' := [(0, (4, a0)), (1, (0, a1)), (2, (0, a2)), (3, (0, (w32 (s0 + s1)))), (4, (0, a4))]) [1, 2, 3, 0, 4] rfl ?_
  exact hr24 _ _ _ _ _ _ h

set_option maxRecDepth 100000 in
set_option maxHeartbeats 4000000 in
theorem t_X8_forget_71 {g : zF} (hl0 : g.2.2.2.1.stackTraces = false) {Q : zR × zS → Prop} (r24 : Int → Int → Int → Int → Int → zS → zFn) (hr24 : ∀ b0 b1 b2 b3 b4 τ, zo (r24 b0 b1 b2 b3 b4 τ) Q → zw g Y_X8_forget R_X8_forget 24 [(0, (4, b0)), (1, (0, b1)), (2, (0, b2)), (3, (0, b3)), (4, (0, b4))] [] τ 0 0 Q) {a0 a1 a2 a3 a4 a5 : Int} {σ : zS} (h : zo (f_X8_forget_71 r24 a0 a1 a2 a3 a4 a5 σ) Q) : zw g Y_X8_forget R_X8_forget 71 [(0, (4, a0)), (1, (0, a1)), (2, (0, a2)), (3, (0, a3)), (4, (0, a4)), (5, (0, a5))] [] σ 0 0 Q := by
  unfold f_X8_forget_71 at h
  refine r_iload_n 3 dX8_forget_71 rfl ?_
  refine r_iload 5 dX8_forget_72 rfl ?_
  refine r_if_eq 81 dX8_forget_74 (by decide) h (fun h => ?_) (fun h => ?_)
  · refine r_iconst (v := 0) dX8_forget_81 rfl rfl ?_
    refine r_weak (L' := [(0, (4, a0)), (1, (0, a1)), (2, (0, a2)), (4, (0, a4))]) [0, 1, 2, 4] rfl ?_
    exact t_X8_forget_82 hl0 r24 hr24 h
  · refine r_iconst (v := 1) dX8_forget_77 rfl rfl ?_
    refine r_goto 82 dX8_forget_78 (by decide) ?_
    refine r_weak (L' := [(0, (4, a0)), (1, (0, a1)), (2, (0, a2)), (4, (0, a4))]) [0, 1, 2, 4] rfl ?_
    exact t_X8_forget_82 hl0 r24 hr24 h

set_option maxRecDepth 100000 in
set_option maxHeartbeats 4000000 in
theorem t_X8_forget_51 {g : zF} (hl0 : g.2.2.2.1.stackTraces = false) {Q : zR × zS → Prop} (r24 : Int → Int → Int → Int → Int → zS → zFn) (hr24 : ∀ b0 b1 b2 b3 b4 τ, zo (r24 b0 b1 b2 b3 b4 τ) Q → zw g Y_X8_forget R_X8_forget 24 [(0, (4, b0)), (1, (0, b1)), (2, (0, b2)), (3, (0, b3)), (4, (0, b4))] [] τ 0 0 Q) {a0 a1 a2 a3 a4 s0 : Int} {σ : zS} (h : zo (f_X8_forget_51 r24 a0 a1 a2 a3 a4 s0 σ) Q) : zw g Y_X8_forget R_X8_forget 51 [(0, (4, a0)), (1, (0, a1)), (2, (0, a2)), (3, (0, a3)), (4, (0, a4))] [(0, s0)] σ 0 0 Q := by
  unfold f_X8_forget_51 at h
  refine r_istore (L' := [(5, (0, s0)), (0, (4, a0)), (1, (0, a1)), (2, (0, a2)), (3, (0, a3)), (4, (0, a4))]) dX8_forget_51 (by decide) rfl ?_
  refine r_iload 0 dX8_forget_53 rfl ?_
  refine r_if_eq 68 dX8_forget_55 (by decide) h (fun h => ?_) (fun h => ?_)
  · refine r_iinc (L' := [(4, (0, (w32 (a4 + 1)))), (5, (0, s0)), (0, (4, a0)), (1, (0, a1)), (2, (0, a2)), (3, (0, a3))]) 5 dX8_forget_68 rfl (by decide) rfl ?_
    refine r_weak (L' := [(0, (4, a0)), (1, (0, a1)), (2, (0, a2)), (3, (0, a3)), (4, (0, (w32 (a4 + 1)))), (5, (0, s0))]) [2, 3, 4, 5, 0, 1] rfl ?_
    exact t_X8_forget_71 hl0 r24 hr24 h
  · refine r_aload_n 1 dX8_forget_58 rfl ?_
    refine r_iload_n 2 dX8_forget_59 rfl ?_
    refine r_iload 5 dX8_forget_60 rfl ?_
    refine r_callV (K' := Y_X8_dropReport) (R' := R_X8_dropReport) (idx := 147) (n := 2) (b := a0) (as := [(0, a1), (0, a4)]) (rest := []) (C' := 0) (D' := 0) (cn := 8) rfl k0_X8_dropReport kV_X8_dropReport kl_X8_147 ⟨by decide, by decide⟩ dX8_forget_62 rfl rfl (Nat.le_of_ble_eq_true rfl) (by decide) (by decide) rfl h (fun r hr => m_X8_dropReport hl0 ⟨r, hr, hr⟩) (fun _ τ2 _ h => ?_)
    refine r_goto 71 dX8_forget_65 (by decide) ?_
    refine r_weak (L' := [(0, (4, a0)), (1, (0, a1)), (2, (0, a2)), (3, (0, a3)), (4, (0, a4)), (5, (0, s0))]) [1, 2, 3, 4, 5, 0] rfl ?_
    exact t_X8_forget_71 hl0 r24 hr24 h

set_option maxRecDepth 100000 in
set_option maxHeartbeats 4000000 in
theorem t_X8_forget_24 {g : zF} (hl0 : g.2.2.2.1.stackTraces = false) {Q : zR × zS → Prop}   : ∀ (n : Nat) (a0 a1 a2 a3 a4 : Int) (σ : zS), zo (f_X8_forget_24  n a0 a1 a2 a3 a4 σ) Q → zw g Y_X8_forget R_X8_forget 24 [(0, (4, a0)), (1, (0, a1)), (2, (0, a2)), (3, (0, a3)), (4, (0, a4))] [] σ 0 0 Q := by
  intro n
  induction n with
  | zero => intro a0 a1 a2 a3 a4 σ h; obtain ⟨r, h, -⟩ := h; cases h
  | succ n ih =>
    intro a0 a1 a2 a3 a4 σ h
    unfold f_X8_forget_24 at h
    refine r_iload 4 dX8_forget_24 rfl ?_
    refine r_aload_n 0 dX8_forget_26 rfl ?_
    refine r_iload_n 1 dX8_forget_27 rfl ?_
    refine r_callV (K' := Y_X8_manyOf) (R' := R_X8_manyOf) (idx := 92) (n := 1) (b := a0) (as := [(0, a1)]) (rest := [(0, a4)]) (C' := 0) (D' := 0) (cn := 8) rfl k0_X8_manyOf kV_X8_manyOf kl_X8_92 ⟨by decide, by decide⟩ dX8_forget_28 rfl rfl (Nat.le_of_ble_eq_true rfl) (by decide) (by decide) rfl h (fun r hr => m_X8_manyOf hl0 ⟨r, hr, hr⟩) (fun x1 τ2 _ h => ?_)
    refine r_icmp_ge 87 dX8_forget_31 (by decide) h (fun h => ?_) (fun h => ?_)
    · refine r_iload_n 3 dX8_forget_87 rfl ?_
      exact r_iret rfl dX8_forget_88 h
    · refine r_aload_n 0 dX8_forget_34 rfl ?_
      refine r_iload_n 1 dX8_forget_35 rfl ?_
      refine r_iload 4 dX8_forget_36 rfl ?_
      refine r_iconst (v := 3) dX8_forget_38 rfl rfl ?_
      refine r_callV (K' := Y_X8_ofReport) (R' := R_X8_ofReport) (idx := 95) (n := 3) (b := a0) (as := [(0, a1), (0, a4), (0, 3)]) (rest := []) (C' := 0) (D' := 0) (cn := 8) rfl k0_X8_ofReport kV_X8_ofReport kl_X8_95 ⟨by decide, by decide⟩ dX8_forget_39 rfl rfl (Nat.le_of_ble_eq_true rfl) (by decide) (by decide) rfl h (fun r hr => m_X8_ofReport hl0 ⟨r, hr, hr⟩) (fun x3 τ4 _ h => ?_)
      refine r_iload_n 2 dX8_forget_42 rfl ?_
      refine r_icmp_ne 50 dX8_forget_43 (by decide) h (fun h => ?_) (fun h => ?_)
      · refine r_iconst (v := 0) dX8_forget_50 rfl rfl ?_
        exact t_X8_forget_51 hl0 (f_X8_forget_24  n) (fun b0 b1 b2 b3 b4 τ h => ih b0 b1 b2 b3 b4 τ h) h
      · refine r_iconst (v := 1) dX8_forget_46 rfl rfl ?_
        refine r_goto 51 dX8_forget_47 (by decide) ?_
        exact t_X8_forget_51 hl0 (f_X8_forget_24  n) (fun b0 b1 b2 b3 b4 τ h => ih b0 b1 b2 b3 b4 τ h) h

set_option maxRecDepth 100000 in
set_option maxHeartbeats 4000000 in
theorem t_X8_forget {g : zF} (hl0 : g.2.2.2.1.stackTraces = false) {Q : zR × zS → Prop}   {a0 a1 a2 : Int} {σ : zS} (h : zo (f_X8_forget  a0 a1 a2 σ) Q) : zw g Y_X8_forget R_X8_forget 0 [(0, (4, a0)), (1, (0, a1)), (2, (0, a2))] [] σ 0 0 Q := by
  unfold f_X8_forget at h
  refine r_aload_n 0 dX8_forget_0 rfl ?_
  refine r_aload_n 0 dX8_forget_1 rfl ?_
  refine r_iload_n 1 dX8_forget_2 rfl ?_
  refine r_iload_n 2 dX8_forget_3 rfl ?_
  refine r_callV (K' := Y_X8_areThere) (R' := R_X8_areThere) (idx := 381) (n := 2) (b := a0) (as := [(0, a1), (0, a2)]) (rest := [(4, a0)]) (C' := 0) (D' := 0) (cn := 8) rfl k0_X8_areThere kV_X8_areThere kl_X8_381 ⟨by decide, by decide⟩ dX8_forget_4 rfl rfl (Nat.le_of_ble_eq_true rfl) (by decide) (by decide) rfl h (fun r hr => m_X8_areThere hl0 ⟨r, hr, hr⟩) (fun x1 τ2 _ h => ?_)
  refine r_callV (K' := Y_X8_passes) (R' := R_X8_passes) (idx := 215) (n := 1) (b := a0) (as := [(0, x1)]) (rest := []) (C' := 0) (D' := 0) (cn := 8) rfl k0_X8_passes kV_X8_passes kl_X8_215 ⟨by decide, by decide⟩ dX8_forget_7 rfl rfl (Nat.le_of_ble_eq_true rfl) (by decide) (by decide) rfl h (fun r hr => m_X8_passes hl0 ⟨r, hr, hr⟩) (fun x3 τ4 _ h => ?_)
  refine r_if_ne 15 dX8_forget_10 (by decide) h (fun h => ?_) (fun h => ?_)
  · refine r_aload_n 0 dX8_forget_15 rfl ?_
    refine r_callV (K' := Y_X8_remember) (R' := R_X8_remember) (idx := 344) (n := 0) (b := a0) (as := []) (rest := []) (C' := 0) (D' := 0) (cn := 8) rfl k0_X8_remember kV_X8_remember kl_X8_344 ⟨by decide, by decide⟩ dX8_forget_16 rfl rfl (Nat.le_of_ble_eq_true rfl) (by decide) (by decide) rfl h (fun r hr => m_X8_remember hl0 ⟨r, hr, hr⟩) (fun _ τ6 _ h => ?_)
    refine r_iconst (v := 0) dX8_forget_19 rfl rfl ?_
    refine r_istore_n (L' := [(3, (0, 0)), (0, (4, a0)), (1, (0, a1)), (2, (0, a2))]) dX8_forget_20 (by decide) rfl ?_
    refine r_iconst (v := 0) dX8_forget_21 rfl rfl ?_
    refine r_istore (L' := [(4, (0, 0)), (3, (0, 0)), (0, (4, a0)), (1, (0, a1)), (2, (0, a2))]) dX8_forget_22 (by decide) rfl ?_
    refine r_weak (L' := [(0, (4, a0)), (1, (0, a1)), (2, (0, a2)), (3, (0, 0)), (4, (0, 0))]) [2, 3, 4, 1, 0] rfl ?_
    exact t_X8_forget_24 hl0   zFU _ _ _ _ _ _ h
  · refine r_iconst (v := 0) dX8_forget_13 rfl rfl ?_
    exact r_iret rfl dX8_forget_14 h
theorem m_X8_forget {g : zF} (hl0 : g.2.2.2.1.stackTraces = false) {Q : zR × zS → Prop} {a0 a1 a2 : Int} {σ : zS} (h : zo (f_X8_forget a0 a1 a2 σ) Q) : zm g Y_X8_forget R_X8_forget [(4, a0), (0, a1), (0, a2)] σ Q := zm_of (by decide) rfl (Nat.le_of_ble_eq_true rfl) (t_X8_forget hl0 h)


/- X8_isSlot -/

set_option maxRecDepth 100000 in
set_option maxHeartbeats 4000000 in
theorem t_X8_isSlot {g : zF} (hl0 : g.2.2.2.1.stackTraces = false) {Q : zR × zS → Prop}   {a0 : Int} {σ : zS} (h : zo (f_X8_isSlot  a0 σ) Q) : zw g Y_X8_isSlot R_X8_isSlot 0 [(0, (0, a0))] [] σ 0 0 Q := by
  unfold f_X8_isSlot at h
  refine r_iload_n 0 dX8_isSlot_0 rfl ?_
  refine r_i2l dX8_isSlot_1 ?_
  refine r_lconst dX8_isSlot_2 ?_
  refine r_lconst dX8_isSlot_3 ?_
  refine r_callS (K' := Y_X8_in) (R' := R_X8_in) (idx := 70) (n := 3) (as := [(1, a0), (1, 0), (1, 1)]) (rest := []) (C' := 0) (D' := 0) rfl k0_X8_in wd_1562 kl_X8_70 ⟨by decide, by decide⟩ dX8_isSlot_4 rfl rfl (Nat.le_of_ble_eq_true rfl) (by decide) (by decide) h (fun r hr => m_X8_in hl0 ⟨r, hr, hr⟩) (fun x1 τ2 _ h => ?_)
  exact r_zret rfl dX8_isSlot_7 h
theorem m_X8_isSlot {g : zF} (hl0 : g.2.2.2.1.stackTraces = false) {Q : zR × zS → Prop} {a0 : Int} {σ : zS} (h : zo (f_X8_isSlot a0 σ) Q) : zm g Y_X8_isSlot R_X8_isSlot [(0, a0)] σ Q := zm_of (by decide) rfl (Nat.le_of_ble_eq_true rfl) (t_X8_isSlot hl0 h)


/- X8_keep -/

set_option maxRecDepth 100000 in
set_option maxHeartbeats 4000000 in
theorem t_X8_keep_46 {g : zF} (hl0 : g.2.2.2.1.stackTraces = false) {Q : zR × zS → Prop}   {a0 a1 : Int} {σ : zS} (h : zo (f_X8_keep_46  a0 a1 σ) Q) : zw g Y_X8_keep R_X8_keep 46 [(0, (4, a0)), (1, (0, a1))] [] σ 0 0 Q := by
  unfold f_X8_keep_46 at h
  refine r_aload_n 0 dX8_keep_46 rfl ?_
  refine r_getr fd_X8_53 rfl dX8_keep_47 h (fun x1 h => ?_)
  refine r_iload_n 1 dX8_keep_50 rfl ?_
  refine r_iconst (v := 1) dX8_keep_51 rfl rfl ?_
  refine r_zast dX8_keep_52 h (fun τ2 h => ?_)
  refine r_aload_n 0 dX8_keep_53 rfl ?_
  refine r_getr fd_X8_17 rfl dX8_keep_54 h (fun x3 h => ?_)
  refine r_iconst (v := 2) dX8_keep_57 rfl rfl ?_
  refine r_iald dX8_keep_58 h (fun x4 h => ?_)
  exact r_iret rfl dX8_keep_59 h

set_option maxRecDepth 100000 in
set_option maxHeartbeats 4000000 in
theorem t_X8_keep_15 {g : zF} (hl0 : g.2.2.2.1.stackTraces = false) {Q : zR × zS → Prop}   : ∀ (n : Nat) (a0 a1 a2 : Int) (σ : zS), zo (f_X8_keep_15  n a0 a1 a2 σ) Q → zw g Y_X8_keep R_X8_keep 15 [(0, (4, a0)), (1, (0, a1)), (2, (0, a2))] [] σ 0 0 Q := by
  intro n
  induction n with
  | zero => intro a0 a1 a2 σ h; obtain ⟨r, h, -⟩ := h; cases h
  | succ n ih =>
    intro a0 a1 a2 σ h
    unfold f_X8_keep_15 at h
    refine r_iload_n 2 dX8_keep_15 rfl ?_
    refine r_sipush (v := 2405) dX8_keep_16 rfl rfl ?_
    refine r_icmp_ge 46 dX8_keep_19 (by decide) h (fun h => ?_) (fun h => ?_)
    · refine r_weak (L' := [(0, (4, a0)), (1, (0, a1))]) [0, 1] rfl ?_
      exact t_X8_keep_46 hl0   h
    · refine r_aload_n 0 dX8_keep_22 rfl ?_
      refine r_getr fd_X8_50 rfl dX8_keep_23 h (fun x1 h => ?_)
      refine r_sipush (v := 2405) dX8_keep_26 rfl rfl ?_
      refine r_iload_n 1 dX8_keep_29 rfl ?_
      refine r_imul dX8_keep_30 ?_
      refine r_iload_n 2 dX8_keep_31 rfl ?_
      refine r_iadd dX8_keep_32 ?_
      refine r_aload_n 0 dX8_keep_33 rfl ?_
      refine r_getr fd_X8_17 rfl dX8_keep_34 h (fun x2 h => ?_)
      refine r_iload_n 2 dX8_keep_37 rfl ?_
      refine r_iald dX8_keep_38 h (fun x3 h => ?_)
      refine r_iast dX8_keep_39 h (fun τ4 h => ?_)
      refine r_iinc (L' := [(2, (0, (w32 (a2 + 1)))), (0, (4, a0)), (1, (0, a1))]) 2 dX8_keep_40 rfl (by decide) rfl ?_
      refine r_goto 15 dX8_keep_43 (by decide) ?_
      refine r_weak (L' := [(0, (4, a0)), (1, (0, a1)), (2, (0, (w32 (a2 + 1))))]) [1, 2, 0] rfl ?_
      exact ih _ _ _ _ h

set_option maxRecDepth 100000 in
set_option maxHeartbeats 4000000 in
theorem t_X8_keep {g : zF} (hl0 : g.2.2.2.1.stackTraces = false) {Q : zR × zS → Prop}   {a0 a1 : Int} {σ : zS} (h : zo (f_X8_keep  a0 a1 σ) Q) : zw g Y_X8_keep R_X8_keep 0 [(0, (4, a0)), (1, (0, a1))] [] σ 0 0 Q := by
  unfold f_X8_keep at h
  refine r_aload_n 0 dX8_keep_0 rfl ?_
  refine r_iload_n 1 dX8_keep_1 rfl ?_
  refine r_callS (K' := Y_X8_isSlot) (R' := R_X8_isSlot) (idx := 465) (n := 1) (as := [(0, a1)]) (rest := [(4, a0)]) (C' := 0) (D' := 0) rfl k0_X8_isSlot wd_2151 kl_X8_465 ⟨by decide, by decide⟩ dX8_keep_2 rfl rfl (Nat.le_of_ble_eq_true rfl) (by decide) (by decide) h (fun r hr => m_X8_isSlot hl0 ⟨r, hr, hr⟩) (fun x1 τ2 _ h => ?_)
  refine r_callV (K' := Y_X8_passes) (R' := R_X8_passes) (idx := 215) (n := 1) (b := a0) (as := [(0, x1)]) (rest := []) (C' := 0) (D' := 0) (cn := 8) rfl k0_X8_passes kV_X8_passes kl_X8_215 ⟨by decide, by decide⟩ dX8_keep_5 rfl rfl (Nat.le_of_ble_eq_true rfl) (by decide) (by decide) rfl h (fun r hr => m_X8_passes hl0 ⟨r, hr, hr⟩) (fun x3 τ4 _ h => ?_)
  refine r_if_ne 13 dX8_keep_8 (by decide) h (fun h => ?_) (fun h => ?_)
  · refine r_iconst (v := 0) dX8_keep_13 rfl rfl ?_
    refine r_istore_n (L' := [(2, (0, 0)), (0, (4, a0)), (1, (0, a1))]) dX8_keep_14 (by decide) rfl ?_
    refine r_weak (L' := [(0, (4, a0)), (1, (0, a1)), (2, (0, 0))]) [1, 2, 0] rfl ?_
    exact t_X8_keep_15 hl0   zFU _ _ _ _ h
  · refine r_iconst (v := 0) dX8_keep_11 rfl rfl ?_
    exact r_iret rfl dX8_keep_12 h
theorem m_X8_keep {g : zF} (hl0 : g.2.2.2.1.stackTraces = false) {Q : zR × zS → Prop} {a0 a1 : Int} {σ : zS} (h : zo (f_X8_keep a0 a1 σ) Q) : zm g Y_X8_keep R_X8_keep [(4, a0), (0, a1)] σ Q := zm_of (by decide) rfl (Nat.le_of_ble_eq_true rfl) (t_X8_keep hl0 h)


/- X8_restore -/

set_option maxRecDepth 100000 in
set_option maxHeartbeats 4000000 in
theorem t_X8_restore_40 {g : zF} (hl0 : g.2.2.2.1.stackTraces = false) {Q : zR × zS → Prop}   : ∀ (n : Nat) (a0 a1 a2 : Int) (σ : zS), zo (f_X8_restore_40  n a0 a1 a2 σ) Q → zw g Y_X8_restore R_X8_restore 40 [(0, (4, a0)), (1, (0, a1)), (2, (0, a2))] [] σ 0 0 Q := by
  intro n
  induction n with
  | zero => intro a0 a1 a2 σ h; obtain ⟨r, h, -⟩ := h; cases h
  | succ n ih =>
    intro a0 a1 a2 σ h
    unfold f_X8_restore_40 at h
    refine r_iload_n 2 dX8_restore_40 rfl ?_
    refine r_sipush (v := 2405) dX8_restore_41 rfl rfl ?_
    refine r_icmp_ge 71 dX8_restore_44 (by decide) h (fun h => ?_) (fun h => ?_)
    · refine r_aload_n 0 dX8_restore_71 rfl ?_
      refine r_getr fd_X8_17 rfl dX8_restore_72 h (fun x1 h => ?_)
      refine r_iconst (v := 2) dX8_restore_75 rfl rfl ?_
      refine r_iald dX8_restore_76 h (fun x2 h => ?_)
      exact r_iret rfl dX8_restore_77 h
    · refine r_aload_n 0 dX8_restore_47 rfl ?_
      refine r_getr fd_X8_17 rfl dX8_restore_48 h (fun x3 h => ?_)
      refine r_iload_n 2 dX8_restore_51 rfl ?_
      refine r_aload_n 0 dX8_restore_52 rfl ?_
      refine r_getr fd_X8_50 rfl dX8_restore_53 h (fun x4 h => ?_)
      refine r_sipush (v := 2405) dX8_restore_56 rfl rfl ?_
      refine r_iload_n 1 dX8_restore_59 rfl ?_
      refine r_imul dX8_restore_60 ?_
      refine r_iload_n 2 dX8_restore_61 rfl ?_
      refine r_iadd dX8_restore_62 ?_
      refine r_iald dX8_restore_63 h (fun x5 h => ?_)
      refine r_iast dX8_restore_64 h (fun τ6 h => ?_)
      refine r_iinc (L' := [(2, (0, (w32 (a2 + 1)))), (0, (4, a0)), (1, (0, a1))]) 2 dX8_restore_65 rfl (by decide) rfl ?_
      refine r_goto 40 dX8_restore_68 (by decide) ?_
      refine r_weak (L' := [(0, (4, a0)), (1, (0, a1)), (2, (0, (w32 (a2 + 1))))]) [1, 2, 0] rfl ?_
      exact ih _ _ _ _ h

set_option maxRecDepth 100000 in
set_option maxHeartbeats 4000000 in
theorem t_X8_restore_26 {g : zF} (hl0 : g.2.2.2.1.stackTraces = false) {Q : zR × zS → Prop}   {a0 a1 s0 s1 s2 : Int} {σ : zS} (h : zo (f_X8_restore_26  a0 a1 s0 s1 s2 σ) Q) : zw g Y_X8_restore R_X8_restore 26 [(0, (4, a0)), (1, (0, a1))] [(0, s2), (0, s1), (4, s0)] σ 0 0 Q := by
  unfold f_X8_restore_26 at h
  refine r_callV (K' := Y_X8_passes2) (R' := R_X8_passes2) (idx := 368) (n := 2) (b := s0) (as := [(0, s1), (0, s2)]) (rest := []) (C' := 0) (D' := 0) (cn := 8) rfl k0_X8_passes2 kV_X8_passes2 kl_X8_368 ⟨by decide, by decide⟩ dX8_restore_26 rfl rfl (Nat.le_of_ble_eq_true rfl) (by decide) (by decide) rfl h (fun r hr => m_X8_passes2 hl0 ⟨r, hr, hr⟩) (fun x1 τ2 _ h => ?_)
  refine r_if_ne 34 dX8_restore_29 (by decide) h (fun h => ?_) (fun h => ?_)
  · refine r_aload_n 0 dX8_restore_34 rfl ?_
    refine r_callV (K' := Y_X8_remember) (R' := R_X8_remember) (idx := 344) (n := 0) (b := a0) (as := []) (rest := []) (C' := 0) (D' := 0) (cn := 8) rfl k0_X8_remember kV_X8_remember kl_X8_344 ⟨by decide, by decide⟩ dX8_restore_35 rfl rfl (Nat.le_of_ble_eq_true rfl) (by decide) (by decide) rfl h (fun r hr => m_X8_remember hl0 ⟨r, hr, hr⟩) (fun _ τ4 _ h => ?_)
    refine r_iconst (v := 0) dX8_restore_38 rfl rfl ?_
    refine r_istore_n (L' := [(2, (0, 0)), (0, (4, a0)), (1, (0, a1))]) dX8_restore_39 (by decide) rfl ?_
    refine r_weak (L' := [(0, (4, a0)), (1, (0, a1)), (2, (0, 0))]) [1, 2, 0] rfl ?_
    exact t_X8_restore_40 hl0   zFU _ _ _ _ h
  · refine r_iconst (v := 0) dX8_restore_32 rfl rfl ?_
    exact r_iret rfl dX8_restore_33 h

set_option maxRecDepth 100000 in
set_option maxHeartbeats 4000000 in
theorem t_X8_restore_21 {g : zF} (hl0 : g.2.2.2.1.stackTraces = false) {Q : zR × zS → Prop}   {a0 a1 s0 s1 : Int} {σ : zS} (h : zo (f_X8_restore_21  a0 a1 s0 s1 σ) Q) : zw g Y_X8_restore R_X8_restore 21 [(0, (4, a0)), (1, (0, a1))] [(0, s1), (4, s0)] σ 0 0 Q := by
  unfold f_X8_restore_21 at h
  refine r_iconst (v := 1) dX8_restore_21 rfl rfl ?_
  refine r_goto 26 dX8_restore_22 (by decide) ?_
  exact t_X8_restore_26 hl0   h

set_option maxRecDepth 100000 in
set_option maxHeartbeats 4000000 in
theorem t_X8_restore {g : zF} (hl0 : g.2.2.2.1.stackTraces = false) {Q : zR × zS → Prop}   {a0 a1 : Int} {σ : zS} (h : zo (f_X8_restore  a0 a1 σ) Q) : zw g Y_X8_restore R_X8_restore 0 [(0, (4, a0)), (1, (0, a1))] [] σ 0 0 Q := by
  unfold f_X8_restore at h
  refine r_aload_n 0 dX8_restore_0 rfl ?_
  refine r_iload_n 1 dX8_restore_1 rfl ?_
  refine r_callS (K' := Y_X8_isSlot) (R' := R_X8_isSlot) (idx := 465) (n := 1) (as := [(0, a1)]) (rest := [(4, a0)]) (C' := 0) (D' := 0) rfl k0_X8_isSlot wd_2151 kl_X8_465 ⟨by decide, by decide⟩ dX8_restore_2 rfl rfl (Nat.le_of_ble_eq_true rfl) (by decide) (by decide) h (fun r hr => m_X8_isSlot hl0 ⟨r, hr, hr⟩) (fun x1 τ2 _ h => ?_)
  refine r_iload_n 1 dX8_restore_5 rfl ?_
  refine r_callS (K' := Y_X8_isSlot) (R' := R_X8_isSlot) (idx := 465) (n := 1) (as := [(0, a1)]) (rest := [(0, x1), (4, a0)]) (C' := 0) (D' := 0) rfl k0_X8_isSlot wd_2151 kl_X8_465 ⟨by decide, by decide⟩ dX8_restore_6 rfl rfl (Nat.le_of_ble_eq_true rfl) (by decide) (by decide) h (fun r hr => m_X8_isSlot hl0 ⟨r, hr, hr⟩) (fun x3 τ4 _ h => ?_)
  refine r_if_eq 21 dX8_restore_9 (by decide) h (fun h => ?_) (fun h => ?_)
  · exact t_X8_restore_21 hl0   h
  · refine r_aload_n 0 dX8_restore_12 rfl ?_
    refine r_getr fd_X8_53 rfl dX8_restore_13 h (fun x5 h => ?_)
    refine r_iload_n 1 dX8_restore_16 rfl ?_
    refine r_zald dX8_restore_17 h (fun x6 h => ?_)
    refine r_if_eq 25 dX8_restore_18 (by decide) h (fun h => ?_) (fun h => ?_)
    · refine r_iconst (v := 0) dX8_restore_25 rfl rfl ?_
      exact t_X8_restore_26 hl0   h
    · exact t_X8_restore_21 hl0   h
theorem m_X8_restore {g : zF} (hl0 : g.2.2.2.1.stackTraces = false) {Q : zR × zS → Prop} {a0 a1 : Int} {σ : zS} (h : zo (f_X8_restore a0 a1 σ) Q) : zm g Y_X8_restore R_X8_restore [(4, a0), (0, a1)] σ Q := zm_of (by decide) rfl (Nat.le_of_ble_eq_true rfl) (t_X8_restore hl0 h)


/- X8_undo -/

set_option maxRecDepth 100000 in
set_option maxHeartbeats 4000000 in
theorem t_X8_undo_33 {g : zF} (hl0 : g.2.2.2.1.stackTraces = false) {Q : zR × zS → Prop}   : ∀ (n : Nat) (a0 a1 : Int) (σ : zS), zo (f_X8_undo_33  n a0 a1 σ) Q → zw g Y_X8_undo R_X8_undo 33 [(0, (4, a0)), (1, (0, a1))] [] σ 0 0 Q := by
  intro n
  induction n with
  | zero => intro a0 a1 σ h; obtain ⟨r, h, -⟩ := h; cases h
  | succ n ih =>
    intro a0 a1 σ h
    unfold f_X8_undo_33 at h
    refine r_iload_n 1 dX8_undo_33 rfl ?_
    refine r_sipush (v := 2405) dX8_undo_34 rfl rfl ?_
    refine r_icmp_ge 67 dX8_undo_37 (by decide) h (fun h => ?_) (fun h => ?_)
    · refine r_aload_n 0 dX8_undo_67 rfl ?_
      refine r_getf fd_X8_468 rfl dX8_undo_68 h (fun x1 h => ?_)
      exact r_iret rfl dX8_undo_71 h
    · refine r_aload_n 0 dX8_undo_40 rfl ?_
      refine r_getr fd_X8_17 rfl dX8_undo_41 h (fun x2 h => ?_)
      refine r_iload_n 1 dX8_undo_44 rfl ?_
      refine r_aload_n 0 dX8_undo_45 rfl ?_
      refine r_getr fd_X8_56 rfl dX8_undo_46 h (fun x3 h => ?_)
      refine r_sipush (v := 2405) dX8_undo_49 rfl rfl ?_
      refine r_aload_n 0 dX8_undo_52 rfl ?_
      refine r_getf fd_X8_468 rfl dX8_undo_53 h (fun x4 h => ?_)
      refine r_imul dX8_undo_56 ?_
      refine r_iload_n 1 dX8_undo_57 rfl ?_
      refine r_iadd dX8_undo_58 ?_
      refine r_iald dX8_undo_59 h (fun x5 h => ?_)
      refine r_iast dX8_undo_60 h (fun τ6 h => ?_)
      refine r_iinc (L' := [(1, (0, (w32 (a1 + 1)))), (0, (4, a0))]) 1 dX8_undo_61 rfl (by decide) rfl ?_
      refine r_goto 33 dX8_undo_64 (by decide) ?_
      refine r_weak (L' := [(0, (4, a0)), (1, (0, (w32 (a1 + 1))))]) [1, 0] rfl ?_
      exact ih _ _ _ h

set_option maxRecDepth 100000 in
set_option maxHeartbeats 4000000 in
theorem t_X8_undo_13 {g : zF} (hl0 : g.2.2.2.1.stackTraces = false) {Q : zR × zS → Prop}   {a0 s0 s1 : Int} {σ : zS} (h : zo (f_X8_undo_13  a0 s0 s1 σ) Q) : zw g Y_X8_undo R_X8_undo 13 [(0, (4, a0))] [(0, s1), (4, s0)] σ 0 0 Q := by
  unfold f_X8_undo_13 at h
  refine r_callV (K' := Y_X8_passes) (R' := R_X8_passes) (idx := 215) (n := 1) (b := s0) (as := [(0, s1)]) (rest := []) (C' := 0) (D' := 0) (cn := 8) rfl k0_X8_passes kV_X8_passes kl_X8_215 ⟨by decide, by decide⟩ dX8_undo_13 rfl rfl (Nat.le_of_ble_eq_true rfl) (by decide) (by decide) rfl h (fun r hr => m_X8_passes hl0 ⟨r, hr, hr⟩) (fun x1 τ2 _ h => ?_)
  refine r_if_ne 21 dX8_undo_16 (by decide) h (fun h => ?_) (fun h => ?_)
  · refine r_aload_n 0 dX8_undo_21 rfl ?_
    refine r_dup dX8_undo_22 rfl ?_
    refine r_getf fd_X8_468 rfl dX8_undo_23 h (fun x3 h => ?_)
    refine r_iconst (v := 1) dX8_undo_26 rfl rfl ?_
    refine r_isub dX8_undo_27 ?_
    refine r_putf fd_X8_468 fp_X8_undo_468 dX8_undo_28 h (fun τ4 h => ?_)
    refine r_iconst (v := 0) dX8_undo_31 rfl rfl ?_
    refine r_istore_n (L' := [(1, (0, 0)), (0, (4, a0))]) dX8_undo_32 (by decide) rfl ?_
    refine r_weak (L' := [(0, (4, a0)), (1, (0, 0))]) [1, 0] rfl ?_
    exact t_X8_undo_33 hl0   zFU _ _ _ h
  · refine r_iconst (v := 0) dX8_undo_19 rfl rfl ?_
    exact r_iret rfl dX8_undo_20 h

set_option maxRecDepth 100000 in
set_option maxHeartbeats 4000000 in
theorem t_X8_undo {g : zF} (hl0 : g.2.2.2.1.stackTraces = false) {Q : zR × zS → Prop}   {a0 : Int} {σ : zS} (h : zo (f_X8_undo  a0 σ) Q) : zw g Y_X8_undo R_X8_undo 0 [(0, (4, a0))] [] σ 0 0 Q := by
  unfold f_X8_undo at h
  refine r_aload_n 0 dX8_undo_0 rfl ?_
  refine r_aload_n 0 dX8_undo_1 rfl ?_
  refine r_getf fd_X8_468 rfl dX8_undo_2 h (fun x1 h => ?_)
  refine r_if_le 12 dX8_undo_5 (by decide) h (fun h => ?_) (fun h => ?_)
  · refine r_iconst (v := 0) dX8_undo_12 rfl rfl ?_
    exact t_X8_undo_13 hl0   h
  · refine r_iconst (v := 1) dX8_undo_8 rfl rfl ?_
    refine r_goto 13 dX8_undo_9 (by decide) ?_
    exact t_X8_undo_13 hl0   h
theorem m_X8_undo {g : zF} (hl0 : g.2.2.2.1.stackTraces = false) {Q : zR × zS → Prop} {a0 : Int} {σ : zS} (h : zo (f_X8_undo a0 σ) Q) : zm g Y_X8_undo R_X8_undo [(4, a0)] σ Q := zm_of (by decide) rfl (Nat.le_of_ble_eq_true rfl) (t_X8_undo hl0 h)


/- X8_undoCount -/

set_option maxRecDepth 100000 in
set_option maxHeartbeats 4000000 in
theorem t_X8_undoCount {g : zF} (hl0 : g.2.2.2.1.stackTraces = false) {Q : zR × zS → Prop}   {a0 : Int} {σ : zS} (h : zo (f_X8_undoCount  a0 σ) Q) : zw g Y_X8_undoCount R_X8_undoCount 0 [(0, (4, a0))] [] σ 0 0 Q := by
  unfold f_X8_undoCount at h
  refine r_aload_n 0 dX8_undoCount_0 rfl ?_
  refine r_iconst (v := 0) dX8_undoCount_1 rfl rfl ?_
  refine r_putf fd_X8_3 fp_X8_undoCount_3 dX8_undoCount_2 h (fun τ1 h => ?_)
  refine r_aload_n 0 dX8_undoCount_5 rfl ?_
  refine r_getf fd_X8_468 rfl dX8_undoCount_6 h (fun x2 h => ?_)
  exact r_iret rfl dX8_undoCount_9 h
theorem m_X8_undoCount {g : zF} (hl0 : g.2.2.2.1.stackTraces = false) {Q : zR × zS → Prop} {a0 : Int} {σ : zS} (h : zo (f_X8_undoCount a0 σ) Q) : zm g Y_X8_undoCount R_X8_undoCount [(4, a0)] σ Q := zm_of (by decide) rfl (Nat.le_of_ble_eq_true rfl) (t_X8_undoCount hl0 h)


/- X8_write -/

set_option maxRecDepth 100000 in
set_option maxHeartbeats 4000000 in
theorem t_X8_write {g : zF} (hl0 : g.2.2.2.1.stackTraces = false) {Q : zR × zS → Prop}   {a0 a1 : Int} {σ : zS} (h : zo (f_X8_write  a0 a1 σ) Q) : zw g Y_X8_write R_X8_write 0 [(0, (4, a0)), (1, (0, a1))] [] σ 0 0 Q := by
  unfold f_X8_write at h
  refine r_aload_n 0 dX8_write_0 rfl ?_
  refine r_getr fd_X8_59 rfl dX8_write_1 h (fun x1 h => ?_)
  refine r_aload_n 0 dX8_write_4 rfl ?_
  refine r_getf fd_X8_471 rfl dX8_write_5 h (fun x2 h => ?_)
  refine r_iload_n 1 dX8_write_8 rfl ?_
  refine r_i2b dX8_write_9 ?_
  refine r_bast dX8_write_10 h (fun τ3 h => ?_)
  refine r_aload_n 0 dX8_write_11 rfl ?_
  refine r_dup dX8_write_12 rfl ?_
  refine r_getf fd_X8_471 rfl dX8_write_13 h (fun x4 h => ?_)
  refine r_iconst (v := 1) dX8_write_16 rfl rfl ?_
  refine r_iadd dX8_write_17 ?_
  refine r_putf fd_X8_471 fp_X8_write_471 dX8_write_18 h (fun τ5 h => ?_)
  exact r_vret rfl dX8_write_21 h
theorem m_X8_write {g : zF} (hl0 : g.2.2.2.1.stackTraces = false) {Q : zR × zS → Prop} {a0 a1 : Int} {σ : zS} (h : zo (f_X8_write a0 a1 σ) Q) : zm g Y_X8_write R_X8_write [(4, a0), (0, a1)] σ Q := zm_of (by decide) rfl (Nat.le_of_ble_eq_true rfl) (t_X8_write hl0 h)


/- X8_writeNumber -/

set_option maxRecDepth 100000 in
set_option maxHeartbeats 4000000 in
theorem t_X8_writeNumber_20 {g : zF} (hl0 : g.2.2.2.1.stackTraces = false) {Q : zR × zS → Prop}   : ∀ (n : Nat) (a0 a1 a3 : Int) (σ : zS), zo (f_X8_writeNumber_20  n a0 a1 a3 σ) Q → zw g Y_X8_writeNumber R_X8_writeNumber 20 [(0, (4, a0)), (1, (0, a1)), (3, (0, a3))] [] σ 0 0 Q := by
  intro n
  induction n with
  | zero => intro a0 a1 a3 σ h; obtain ⟨r, h, -⟩ := h; cases h
  | succ n ih =>
    intro a0 a1 a3 σ h
    unfold f_X8_writeNumber_20 at h
    refine r_iload_n 2 dX8_writeNumber_20 rfl ?_
    refine r_if_le 45 dX8_writeNumber_21 (by decide) h (fun h => ?_) (fun h => ?_)
    · exact r_vret rfl dX8_writeNumber_45 h
    · refine r_aload_n 0 dX8_writeNumber_24 rfl ?_
      refine r_bipush (v := 48) dX8_writeNumber_25 rfl rfl ?_
      refine r_iload_n 1 dX8_writeNumber_27 rfl ?_
      refine r_iload_n 2 dX8_writeNumber_28 rfl ?_
      refine r_idiv dX8_writeNumber_29 h (fun h => ?_)
      refine r_bipush (v := 10) dX8_writeNumber_30 rfl rfl ?_
      refine r_irem dX8_writeNumber_32 h (fun h => ?_)
      refine r_iadd dX8_writeNumber_33 ?_
      refine r_callV (K' := Y_X8_write) (R' := R_X8_write) (idx := 474) (n := 1) (b := a0) (as := [(0, (w32 (48 + (Int.tmod (w32 (Int.tdiv a1 a3)) 10))))]) (rest := []) (C' := 0) (D' := 0) (cn := 8) rfl k0_X8_write kV_X8_write kl_X8_474 ⟨by decide, by decide⟩ dX8_writeNumber_34 rfl rfl (Nat.le_of_ble_eq_true rfl) (by decide) (by decide) rfl h (fun r hr => m_X8_write hl0 ⟨r, hr, hr⟩) (fun _ τ2 _ h => ?_)
      refine r_iload_n 2 dX8_writeNumber_37 rfl ?_
      refine r_bipush (v := 10) dX8_writeNumber_38 rfl rfl ?_
      refine r_idiv dX8_writeNumber_40 h (fun h => ?_)
      refine r_istore_n (L' := [(3, (0, (w32 (Int.tdiv a3 10)))), (0, (4, a0)), (1, (0, a1))]) dX8_writeNumber_41 (by decide) rfl ?_
      refine r_goto 20 dX8_writeNumber_42 (by decide) ?_
      refine r_weak (L' := [(0, (4, a0)), (1, (0, a1)), (3, (0, (w32 (Int.tdiv a3 10))))]) [1, 2, 0] rfl ?_
      exact ih _ _ _ _ h

set_option maxRecDepth 100000 in
set_option maxHeartbeats 4000000 in
theorem t_X8_writeNumber_18 {g : zF} (hl0 : g.2.2.2.1.stackTraces = false) {Q : zR × zS → Prop}   {a0 a1 a2 : Int} {σ : zS} (h : zo (f_X8_writeNumber_18  a0 a1 a2 σ) Q) : zw g Y_X8_writeNumber R_X8_writeNumber 18 [(0, (4, a0)), (1, (0, a1)), (2, (0, a2))] [] σ 0 0 Q := by
  unfold f_X8_writeNumber_18 at h
  refine r_iload_n 2 dX8_writeNumber_18 rfl ?_
  refine r_istore_n (L' := [(3, (0, a2)), (0, (4, a0)), (1, (0, a1)), (2, (0, a2))]) dX8_writeNumber_19 (by decide) rfl ?_
  refine r_weak (L' := [(0, (4, a0)), (1, (0, a1)), (3, (0, a2))]) [1, 2, 0] rfl ?_
  exact t_X8_writeNumber_20 hl0   zFU _ _ _ _ h

set_option maxRecDepth 100000 in
set_option maxHeartbeats 4000000 in
theorem t_X8_writeNumber_2 {g : zF} (hl0 : g.2.2.2.1.stackTraces = false) {Q : zR × zS → Prop}   : ∀ (n : Nat) (a0 a1 a2 : Int) (σ : zS), zo (f_X8_writeNumber_2  n a0 a1 a2 σ) Q → zw g Y_X8_writeNumber R_X8_writeNumber 2 [(0, (4, a0)), (1, (0, a1)), (2, (0, a2))] [] σ 0 0 Q := by
  intro n
  induction n with
  | zero => intro a0 a1 a2 σ h; obtain ⟨r, h, -⟩ := h; cases h
  | succ n ih =>
    intro a0 a1 a2 σ h
    unfold f_X8_writeNumber_2 at h
    refine r_iload_n 1 dX8_writeNumber_2 rfl ?_
    refine r_iload_n 2 dX8_writeNumber_3 rfl ?_
    refine r_idiv dX8_writeNumber_4 h (fun h => ?_)
    refine r_bipush (v := 10) dX8_writeNumber_5 rfl rfl ?_
    refine r_icmp_lt 18 dX8_writeNumber_7 (by decide) h (fun h => ?_) (fun h => ?_)
    · exact t_X8_writeNumber_18 hl0   h
    · refine r_iload_n 2 dX8_writeNumber_10 rfl ?_
      refine r_bipush (v := 10) dX8_writeNumber_11 rfl rfl ?_
      refine r_imul dX8_writeNumber_13 ?_
      refine r_istore_n (L' := [(2, (0, (w32 (a2 * 10)))), (0, (4, a0)), (1, (0, a1))]) dX8_writeNumber_14 (by decide) rfl ?_
      refine r_goto 2 dX8_writeNumber_15 (by decide) ?_
      refine r_weak (L' := [(0, (4, a0)), (1, (0, a1)), (2, (0, (w32 (a2 * 10))))]) [1, 2, 0] rfl ?_
      exact ih _ _ _ _ h

set_option maxRecDepth 100000 in
set_option maxHeartbeats 4000000 in
theorem t_X8_writeNumber {g : zF} (hl0 : g.2.2.2.1.stackTraces = false) {Q : zR × zS → Prop}   {a0 a1 : Int} {σ : zS} (h : zo (f_X8_writeNumber  a0 a1 σ) Q) : zw g Y_X8_writeNumber R_X8_writeNumber 0 [(0, (4, a0)), (1, (0, a1))] [] σ 0 0 Q := by
  unfold f_X8_writeNumber at h
  refine r_iconst (v := 1) dX8_writeNumber_0 rfl rfl ?_
  refine r_istore_n (L' := [(2, (0, 1)), (0, (4, a0)), (1, (0, a1))]) dX8_writeNumber_1 (by decide) rfl ?_
  refine r_weak (L' := [(0, (4, a0)), (1, (0, a1)), (2, (0, 1))]) [1, 2, 0] rfl ?_
  exact t_X8_writeNumber_2 hl0   zFU _ _ _ _ h
theorem m_X8_writeNumber {g : zF} (hl0 : g.2.2.2.1.stackTraces = false) {Q : zR × zS → Prop} {a0 a1 : Int} {σ : zS} (h : zo (f_X8_writeNumber a0 a1 σ) Q) : zm g Y_X8_writeNumber R_X8_writeNumber [(4, a0), (0, a1)] σ Q := zm_of (by decide) rfl (Nat.le_of_ble_eq_true rfl) (t_X8_writeNumber hl0 h)


/- X8_writeName -/

set_option maxRecDepth 100000 in
set_option maxHeartbeats 4000000 in
theorem t_X8_writeName_20 {g : zF} (hl0 : g.2.2.2.1.stackTraces = false) {Q : zR × zS → Prop}   : ∀ (n : Nat) (a0 a1 a3 : Int) (σ : zS), zo (f_X8_writeName_20  n a0 a1 a3 σ) Q → zw g Y_X8_writeName R_X8_writeName 20 [(0, (4, a0)), (1, (0, a1)), (3, (0, a3))] [] σ 0 0 Q := by
  intro n
  induction n with
  | zero => intro a0 a1 a3 σ h; obtain ⟨r, h, -⟩ := h; cases h
  | succ n ih =>
    intro a0 a1 a3 σ h
    unfold f_X8_writeName_20 at h
    refine r_iload_n 2 dX8_writeName_20 rfl ?_
    refine r_if_le 45 dX8_writeName_21 (by decide) h (fun h => ?_) (fun h => ?_)
    · exact r_vret rfl dX8_writeName_45 h
    · refine r_aload_n 0 dX8_writeName_24 rfl ?_
      refine r_bipush (v := 96) dX8_writeName_25 rfl rfl ?_
      refine r_iload_n 1 dX8_writeName_27 rfl ?_
      refine r_iload_n 2 dX8_writeName_28 rfl ?_
      refine r_idiv dX8_writeName_29 h (fun h => ?_)
      refine r_bipush (v := 27) dX8_writeName_30 rfl rfl ?_
      refine r_irem dX8_writeName_32 h (fun h => ?_)
      refine r_iadd dX8_writeName_33 ?_
      refine r_callV (K' := Y_X8_write) (R' := R_X8_write) (idx := 474) (n := 1) (b := a0) (as := [(0, (w32 (96 + (Int.tmod (w32 (Int.tdiv a1 a3)) 27))))]) (rest := []) (C' := 0) (D' := 0) (cn := 8) rfl k0_X8_write kV_X8_write kl_X8_474 ⟨by decide, by decide⟩ dX8_writeName_34 rfl rfl (Nat.le_of_ble_eq_true rfl) (by decide) (by decide) rfl h (fun r hr => m_X8_write hl0 ⟨r, hr, hr⟩) (fun _ τ2 _ h => ?_)
      refine r_iload_n 2 dX8_writeName_37 rfl ?_
      refine r_bipush (v := 27) dX8_writeName_38 rfl rfl ?_
      refine r_idiv dX8_writeName_40 h (fun h => ?_)
      refine r_istore_n (L' := [(3, (0, (w32 (Int.tdiv a3 27)))), (0, (4, a0)), (1, (0, a1))]) dX8_writeName_41 (by decide) rfl ?_
      refine r_goto 20 dX8_writeName_42 (by decide) ?_
      refine r_weak (L' := [(0, (4, a0)), (1, (0, a1)), (3, (0, (w32 (Int.tdiv a3 27))))]) [1, 2, 0] rfl ?_
      exact ih _ _ _ _ h

set_option maxRecDepth 100000 in
set_option maxHeartbeats 4000000 in
theorem t_X8_writeName_18 {g : zF} (hl0 : g.2.2.2.1.stackTraces = false) {Q : zR × zS → Prop}   {a0 a1 a2 : Int} {σ : zS} (h : zo (f_X8_writeName_18  a0 a1 a2 σ) Q) : zw g Y_X8_writeName R_X8_writeName 18 [(0, (4, a0)), (1, (0, a1)), (2, (0, a2))] [] σ 0 0 Q := by
  unfold f_X8_writeName_18 at h
  refine r_iload_n 2 dX8_writeName_18 rfl ?_
  refine r_istore_n (L' := [(3, (0, a2)), (0, (4, a0)), (1, (0, a1)), (2, (0, a2))]) dX8_writeName_19 (by decide) rfl ?_
  refine r_weak (L' := [(0, (4, a0)), (1, (0, a1)), (3, (0, a2))]) [1, 2, 0] rfl ?_
  exact t_X8_writeName_20 hl0   zFU _ _ _ _ h

set_option maxRecDepth 100000 in
set_option maxHeartbeats 4000000 in
theorem t_X8_writeName_2 {g : zF} (hl0 : g.2.2.2.1.stackTraces = false) {Q : zR × zS → Prop}   : ∀ (n : Nat) (a0 a1 a2 : Int) (σ : zS), zo (f_X8_writeName_2  n a0 a1 a2 σ) Q → zw g Y_X8_writeName R_X8_writeName 2 [(0, (4, a0)), (1, (0, a1)), (2, (0, a2))] [] σ 0 0 Q := by
  intro n
  induction n with
  | zero => intro a0 a1 a2 σ h; obtain ⟨r, h, -⟩ := h; cases h
  | succ n ih =>
    intro a0 a1 a2 σ h
    unfold f_X8_writeName_2 at h
    refine r_iload_n 1 dX8_writeName_2 rfl ?_
    refine r_iload_n 2 dX8_writeName_3 rfl ?_
    refine r_idiv dX8_writeName_4 h (fun h => ?_)
    refine r_bipush (v := 27) dX8_writeName_5 rfl rfl ?_
    refine r_icmp_lt 18 dX8_writeName_7 (by decide) h (fun h => ?_) (fun h => ?_)
    · exact t_X8_writeName_18 hl0   h
    · refine r_iload_n 2 dX8_writeName_10 rfl ?_
      refine r_bipush (v := 27) dX8_writeName_11 rfl rfl ?_
      refine r_imul dX8_writeName_13 ?_
      refine r_istore_n (L' := [(2, (0, (w32 (a2 * 27)))), (0, (4, a0)), (1, (0, a1))]) dX8_writeName_14 (by decide) rfl ?_
      refine r_goto 2 dX8_writeName_15 (by decide) ?_
      refine r_weak (L' := [(0, (4, a0)), (1, (0, a1)), (2, (0, (w32 (a2 * 27))))]) [1, 2, 0] rfl ?_
      exact ih _ _ _ _ h

set_option maxRecDepth 100000 in
set_option maxHeartbeats 4000000 in
theorem t_X8_writeName {g : zF} (hl0 : g.2.2.2.1.stackTraces = false) {Q : zR × zS → Prop}   {a0 a1 : Int} {σ : zS} (h : zo (f_X8_writeName  a0 a1 σ) Q) : zw g Y_X8_writeName R_X8_writeName 0 [(0, (4, a0)), (1, (0, a1))] [] σ 0 0 Q := by
  unfold f_X8_writeName at h
  refine r_iconst (v := 1) dX8_writeName_0 rfl rfl ?_
  refine r_istore_n (L' := [(2, (0, 1)), (0, (4, a0)), (1, (0, a1))]) dX8_writeName_1 (by decide) rfl ?_
  refine r_weak (L' := [(0, (4, a0)), (1, (0, a1)), (2, (0, 1))]) [1, 2, 0] rfl ?_
  exact t_X8_writeName_2 hl0   zFU _ _ _ _ h
theorem m_X8_writeName {g : zF} (hl0 : g.2.2.2.1.stackTraces = false) {Q : zR × zS → Prop} {a0 a1 : Int} {σ : zS} (h : zo (f_X8_writeName a0 a1 σ) Q) : zm g Y_X8_writeName R_X8_writeName [(4, a0), (0, a1)] σ Q := zm_of (by decide) rfl (Nat.le_of_ble_eq_true rfl) (t_X8_writeName hl0 h)

