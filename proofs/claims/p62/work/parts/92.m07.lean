/- J8_newLength_cabcc -/

set_option maxRecDepth 100000 in
set_option maxHeartbeats 4000000 in
theorem t_J8_newLength_cabcc {g : zF} (hl0 : g.2.2.2.1.stackTraces = false) {Q : zR × zS → Prop}   {a0 a1 a2 : Int} {σ : zS} (h : zo (f_J8_newLength_cabcc  a0 a1 a2 σ) Q) : zw g Y_J8_newLength_cabcc R_J8_newLength_cabcc 0 [(0, (0, a0)), (1, (0, a1)), (2, (0, a2))] [] σ 0 0 Q := by
  unfold f_J8_newLength_cabcc at h
  refine r_iload_n 0 dJ8_newLength_cabcc_0 rfl ?_
  refine r_iload_n 1 dJ8_newLength_cabcc_1 rfl ?_
  refine r_iload_n 2 dJ8_newLength_cabcc_2 rfl ?_
  refine r_mmax mq_J8_194 ⟨by decide, Nat.le_of_ble_eq_true rfl⟩ rfl dJ8_newLength_cabcc_3 ?_
  refine r_iadd dJ8_newLength_cabcc_6 ?_
  refine r_istore_n (L' := [(3, (0, (w32 (a0 + (max a1 a2))))), (0, (0, a0)), (1, (0, a1)), (2, (0, a2))]) dJ8_newLength_cabcc_7 (by decide) rfl ?_
  refine r_iconst (v := 0) dJ8_newLength_cabcc_8 rfl rfl ?_
  refine r_iload_n 0 dJ8_newLength_cabcc_9 rfl ?_
  refine r_icmp_ge 21 dJ8_newLength_cabcc_10 (by decide) h (fun h => ?_) (fun h => ?_)
  · obtain ⟨r, h, -⟩ := h
    cases h
  · refine r_iload_n 0 dJ8_newLength_cabcc_13 rfl ?_
    refine r_ldcI (z := 2147483639) wd_397 (by decide +kernel) dJ8_newLength_cabcc_14 ?_
    refine r_icmp_gt 21 dJ8_newLength_cabcc_16 (by decide) h (fun h => ?_) (fun h => ?_)
    · obtain ⟨r, h, -⟩ := h
      cases h
    · refine r_iload_n 0 dJ8_newLength_cabcc_19 rfl ?_
      exact r_iret rfl dJ8_newLength_cabcc_20 h
theorem m_J8_newLength_cabcc {g : zF} (hl0 : g.2.2.2.1.stackTraces = false) {Q : zR × zS → Prop} {a0 a1 a2 : Int} {σ : zS} (h : zo (f_J8_newLength_cabcc a0 a1 a2 σ) Q) : zm g Y_J8_newLength_cabcc R_J8_newLength_cabcc [(0, a0), (0, a1), (0, a2)] σ Q := zm_of (by decide) rfl (Nat.le_of_ble_eq_true rfl) (t_J8_newLength_cabcc hl0 h)


/- J5_newCapacity_0f7a4 -/

set_option maxRecDepth 100000 in
set_option maxHeartbeats 4000000 in
theorem t_J5_newCapacity_0f7a4 {g : zF} (hl0 : g.2.2.2.1.stackTraces = false) {Q : zR × zS → Prop}   {a0 a1 : Int} {σ : zS} (h : zo (f_J5_newCapacity_0f7a4  a0 a1 σ) Q) : zw g Y_J5_newCapacity_0f7a4 R_J5_newCapacity_0f7a4 0 [(0, (4, a0)), (1, (0, a1))] [] σ 0 0 Q := by
  unfold f_J5_newCapacity_0f7a4 at h
  refine r_aload_n 0 dJ5_newCapacity_0f7a4_0 rfl ?_
  refine r_getr fd_J5_15 rfl dJ5_newCapacity_0f7a4_1 h (fun x1 h => ?_)
  refine r_alen dJ5_newCapacity_0f7a4_4 h (fun x2 h => ?_)
  refine r_istore_n (L' := [(2, (0, x2)), (0, (4, a0)), (1, (0, a1))]) dJ5_newCapacity_0f7a4_5 (by decide) rfl ?_
  refine r_iload_n 2 dJ5_newCapacity_0f7a4_6 rfl ?_
  refine r_aload_n 1 dJ5_newCapacity_0f7a4_7 rfl ?_
  refine r_getf fd_J5_22 rfl dJ5_newCapacity_0f7a4_8 h (fun x3 h => ?_)
  refine r_ishl dJ5_newCapacity_0f7a4_11 ?_
  refine r_istore_n (L' := [(3, (0, (zshl a1 x3))), (2, (0, x2)), (0, (4, a0)), (1, (0, a1))]) dJ5_newCapacity_0f7a4_12 (by decide) rfl ?_
  refine r_iload_n 0 dJ5_newCapacity_0f7a4_13 rfl ?_
  refine r_iload_n 1 dJ5_newCapacity_0f7a4_14 rfl ?_
  refine r_isub dJ5_newCapacity_0f7a4_15 ?_
  refine r_istore (L' := [(4, (0, (w32 ((zshl a1 x3) - x2)))), (3, (0, (zshl a1 x3))), (2, (0, x2)), (0, (4, a0)), (1, (0, a1))]) dJ5_newCapacity_0f7a4_16 (by decide) rfl ?_
  refine r_iload_n 2 dJ5_newCapacity_0f7a4_18 rfl ?_
  refine r_iload 0 dJ5_newCapacity_0f7a4_19 rfl ?_
  refine r_iload_n 2 dJ5_newCapacity_0f7a4_21 rfl ?_
  refine r_iconst (v := 2) dJ5_newCapacity_0f7a4_22 rfl rfl ?_
  refine r_aload_n 3 dJ5_newCapacity_0f7a4_23 rfl ?_
  refine r_getf fd_J5_22 rfl dJ5_newCapacity_0f7a4_24 h (fun x4 h => ?_)
  refine r_ishl dJ5_newCapacity_0f7a4_27 ?_
  refine r_iadd dJ5_newCapacity_0f7a4_28 ?_
  refine r_callS (K' := Y_J8_newLength_cabcc) (R' := R_J8_newLength_cabcc) (idx := 114) (n := 3) (as := [(0, x2), (0, (w32 ((zshl a1 x3) - x2))), (0, (w32 (x2 + (zshl 2 x4))))]) (rest := []) (C' := 0) (D' := 0) rfl k0_J8_newLength_cabcc wd_392 kl_J5_114 ⟨by decide, by decide⟩ dJ5_newCapacity_0f7a4_29 rfl rfl (Nat.le_of_ble_eq_true rfl) (by decide) (by decide) h (fun r hr => m_J8_newLength_cabcc hl0 ⟨r, hr, hr⟩) (fun x5 τ6 _ h => ?_)
  refine r_istore (L' := [(5, (0, x5)), (4, (0, (w32 ((zshl a1 x3) - x2)))), (3, (0, (zshl a1 x3))), (2, (0, x2)), (0, (4, a0)), (1, (0, a1))]) dJ5_newCapacity_0f7a4_32 (by decide) rfl ?_
  refine r_iload 0 dJ5_newCapacity_0f7a4_34 rfl ?_
  refine r_ldcI (z := 2147483647) wd_357 (by decide +kernel) dJ5_newCapacity_0f7a4_36 ?_
  refine r_icmp_ne 51 dJ5_newCapacity_0f7a4_38 (by decide) h (fun h => ?_) (fun h => ?_)
  · refine r_iload 0 dJ5_newCapacity_0f7a4_51 rfl ?_
    refine r_aload_n 4 dJ5_newCapacity_0f7a4_53 rfl ?_
    refine r_getf fd_J5_22 rfl dJ5_newCapacity_0f7a4_54 h (fun x7 h => ?_)
    refine r_ishr dJ5_newCapacity_0f7a4_57 ?_
    exact r_iret rfl dJ5_newCapacity_0f7a4_58 h
  · obtain ⟨r, h, -⟩ := h
    cases h
theorem m_J5_newCapacity_0f7a4 {g : zF} (hl0 : g.2.2.2.1.stackTraces = false) {Q : zR × zS → Prop} {a0 a1 : Int} {σ : zS} (h : zo (f_J5_newCapacity_0f7a4 a0 a1 σ) Q) : zm g Y_J5_newCapacity_0f7a4 R_J5_newCapacity_0f7a4 [(4, a0), (0, a1)] σ Q := zm_of (by decide) rfl (Nat.le_of_ble_eq_true rfl) (t_J5_newCapacity_0f7a4 hl0 h)


/- J7_copyOf_9075b -/

set_option maxRecDepth 100000 in
set_option maxHeartbeats 4000000 in
theorem t_J7_copyOf_9075b {g : zF} (hl0 : g.2.2.2.1.stackTraces = false) {Q : zR × zS → Prop}   {a0 a1 : Int} {σ : zS} (h : zo (f_J7_copyOf_9075b  a0 a1 σ) Q) : zw g Y_J7_copyOf_9075b R_J7_copyOf_9075b 0 [(0, (4, a0)), (1, (0, a1))] [] σ 1 1024 Q := by
  unfold f_J7_copyOf_9075b at h
  refine r_iload_n 1 dJ7_copyOf_9075b_0 rfl ?_
  refine r_aload_n 0 dJ7_copyOf_9075b_1 rfl ?_
  refine r_alen dJ7_copyOf_9075b_2 h (fun x1 h => ?_)
  refine r_icmp_ne 14 dJ7_copyOf_9075b_3 (by decide) h (fun h => ?_) (fun h => ?_)
  · refine r_iload_n 1 dJ7_copyOf_9075b_14 rfl ?_
    refine r_newa2 (C' := 0) (D' := 0) (N := 1024) wd_128 dJ7_copyOf_9075b_15 (by decide) (by decide) (by decide) h (fun x2 τ3 h => ?_)
    refine r_astore_n (L' := [(2, (4, x2)), (0, (4, a0)), (1, (0, a1))]) dJ7_copyOf_9075b_17 (by decide) rfl ?_
    refine r_aload_n 1 dJ7_copyOf_9075b_18 rfl ?_
    refine r_iconst (v := 0) dJ7_copyOf_9075b_19 rfl rfl ?_
    refine r_aload_n 0 dJ7_copyOf_9075b_20 rfl ?_
    refine r_iconst (v := 0) dJ7_copyOf_9075b_21 rfl rfl ?_
    refine r_aload_n 1 dJ7_copyOf_9075b_22 rfl ?_
    refine r_alen dJ7_copyOf_9075b_23 h (fun x4 h => ?_)
    refine r_iload_n 2 dJ7_copyOf_9075b_24 rfl ?_
    refine r_mmin mq_J7_304 ⟨by decide, Nat.le_of_ble_eq_true rfl⟩ rfl dJ7_copyOf_9075b_25 ?_
    refine r_acopyB ac_J7_150 ⟨by decide, Nat.le_of_ble_eq_true rfl⟩ dJ7_copyOf_9075b_28 h (fun τ5 h => ?_)
    refine r_aload_n 0 dJ7_copyOf_9075b_31 rfl ?_
    exact r_aretA rfl dJ7_copyOf_9075b_32 h
  · refine r_room (C' := 0) (D' := 0) (by omega) (by omega) ?_
    obtain ⟨r, h, -⟩ := h
    cases h
theorem m_J7_copyOf_9075b {g : zF} (hl0 : g.2.2.2.1.stackTraces = false) {Q : zR × zS → Prop} {a0 a1 : Int} {σ : zS} (h : zo (f_J7_copyOf_9075b a0 a1 σ) Q) : zm g Y_J7_copyOf_9075b R_J7_copyOf_9075b [(4, a0), (0, a1)] σ Q := zm_of (by decide) rfl (Nat.le_of_ble_eq_true rfl) (t_J7_copyOf_9075b hl0 h)


/- J5_ensureCapacityInternal_d00df -/

set_option maxRecDepth 100000 in
set_option maxHeartbeats 4000000 in
theorem t_J5_ensureCapacityInternal_d00df {g : zF} (hl0 : g.2.2.2.1.stackTraces = false) {Q : zR × zS → Prop}   {a0 a1 : Int} {σ : zS} (h : zo (f_J5_ensureCapacityInternal_d00df  a0 a1 σ) Q) : zw g Y_J5_ensureCapacityInternal_d00df R_J5_ensureCapacityInternal_d00df 0 [(0, (4, a0)), (1, (0, a1))] [] σ 1 1024 Q := by
  unfold f_J5_ensureCapacityInternal_d00df at h
  refine r_aload_n 0 dJ5_ensureCapacityInternal_d00df_0 rfl ?_
  refine r_getr fd_J5_15 rfl dJ5_ensureCapacityInternal_d00df_1 h (fun x1 h => ?_)
  refine r_alen dJ5_ensureCapacityInternal_d00df_4 h (fun x2 h => ?_)
  refine r_aload_n 0 dJ5_ensureCapacityInternal_d00df_5 rfl ?_
  refine r_getf fd_J5_22 rfl dJ5_ensureCapacityInternal_d00df_6 h (fun x3 h => ?_)
  refine r_ishr dJ5_ensureCapacityInternal_d00df_9 ?_
  refine r_istore_n (L' := [(2, (0, (zshr x2 x3))), (0, (4, a0)), (1, (0, a1))]) dJ5_ensureCapacityInternal_d00df_10 (by decide) rfl ?_
  refine r_iload_n 2 dJ5_ensureCapacityInternal_d00df_11 rfl ?_
  refine r_iload_n 0 dJ5_ensureCapacityInternal_d00df_12 rfl ?_
  refine r_isub dJ5_ensureCapacityInternal_d00df_13 ?_
  refine r_if_le 38 dJ5_ensureCapacityInternal_d00df_14 (by decide) h (fun h => ?_) (fun h => ?_)
  · refine r_room (C' := 0) (D' := 0) (by omega) (by omega) ?_
    exact r_vret rfl dJ5_ensureCapacityInternal_d00df_38 h
  · refine r_aload_n 1 dJ5_ensureCapacityInternal_d00df_17 rfl ?_
    refine r_aload_n 1 dJ5_ensureCapacityInternal_d00df_18 rfl ?_
    refine r_getr fd_J5_15 rfl dJ5_ensureCapacityInternal_d00df_19 h (fun x4 h => ?_)
    refine r_aload_n 1 dJ5_ensureCapacityInternal_d00df_22 rfl ?_
    refine r_iload_n 2 dJ5_ensureCapacityInternal_d00df_23 rfl ?_
    refine r_callP (K' := Y_J5_newCapacity_0f7a4) (R' := R_J5_newCapacity_0f7a4) (idx := 104) (n := 1) (b := a0) (as := [(0, a1)]) (rest := [(4, x4), (4, a0)]) (C' := 1) (D' := 1024) (cn := 8) (CN := "java/lang/StringBuilder") rfl k0_J5_newCapacity_0f7a4 kP_J5_newCapacity_0f7a4 kl_J5_104 ⟨by decide, by decide⟩ dJ5_ensureCapacityInternal_d00df_24 rfl rfl (Nat.le_of_ble_eq_true rfl) (by decide) (by decide) rfl h (fun r hr => m_J5_newCapacity_0f7a4 hl0 ⟨r, hr, hr⟩) (fun x5 τ6 _ h => ?_)
    refine r_aload_n 1 dJ5_ensureCapacityInternal_d00df_27 rfl ?_
    refine r_getf fd_J5_22 rfl dJ5_ensureCapacityInternal_d00df_28 h (fun x7 h => ?_)
    refine r_ishl dJ5_ensureCapacityInternal_d00df_31 ?_
    refine r_callS (K' := Y_J7_copyOf_9075b) (R' := R_J7_copyOf_9075b) (idx := 108) (n := 2) (as := [(4, x4), (0, (zshl x5 x7))]) (rest := [(4, a0)]) (C' := 0) (D' := 0) rfl k0_J7_copyOf_9075b wd_402 kl_J5_108 ⟨by decide, by decide⟩ dJ5_ensureCapacityInternal_d00df_32 rfl rfl (Nat.le_of_ble_eq_true rfl) (by decide) (by decide) h (fun r hr => m_J7_copyOf_9075b hl0 ⟨r, hr, hr⟩) (fun x8 τ9 _ h => ?_)
    refine r_putr fd_J5_15 fp_J5_ensureCapacityInternal_d00df_15 dJ5_ensureCapacityInternal_d00df_35 h (fun τ10 h => ?_)
    exact r_vret rfl dJ5_ensureCapacityInternal_d00df_38 h
theorem m_J5_ensureCapacityInternal_d00df {g : zF} (hl0 : g.2.2.2.1.stackTraces = false) {Q : zR × zS → Prop} {a0 a1 : Int} {σ : zS} (h : zo (f_J5_ensureCapacityInternal_d00df a0 a1 σ) Q) : zm g Y_J5_ensureCapacityInternal_d00df R_J5_ensureCapacityInternal_d00df [(4, a0), (0, a1)] σ Q := zm_of (by decide) rfl (Nat.le_of_ble_eq_true rfl) (t_J5_ensureCapacityInternal_d00df hl0 h)


/- J5_inflateIfNeededFor_a7421 -/

set_option maxRecDepth 100000 in
set_option maxHeartbeats 4000000 in
theorem t_J5_inflateIfNeededFor_a7421 {g : zF} (hl0 : g.2.2.2.1.stackTraces = false) {Q : zR × zS → Prop}   {a0 a1 : Int} {σ : zS} (h : zo (f_J5_inflateIfNeededFor_a7421  a0 a1 σ) Q) : zw g Y_J5_inflateIfNeededFor_a7421 R_J5_inflateIfNeededFor_a7421 0 [(0, (4, a0)), (1, (6, a1))] [] σ 0 0 Q := by
  unfold f_J5_inflateIfNeededFor_a7421 at h
  refine r_compact wd_422 dJ5_inflateIfNeededFor_a7421_0 ?_
  refine r_if_eq 21 dJ5_inflateIfNeededFor_a7421_3 (by decide) h (fun h => ?_) (fun h => ?_)
  · obtain ⟨r, h, -⟩ := h
    cases h
  · refine r_aload_n 0 dJ5_inflateIfNeededFor_a7421_6 rfl ?_
    refine r_getf fd_J5_22 rfl dJ5_inflateIfNeededFor_a7421_7 h (fun x1 h => ?_)
    refine r_aload_n 1 dJ5_inflateIfNeededFor_a7421_10 rfl ?_
    refine r_scodJ sc_J5_40 rfl ⟨by decide, by decide⟩ (Nat.le_of_ble_eq_true rfl) dJ5_inflateIfNeededFor_a7421_11 h (fun h => ?_)
    refine r_icmp_eq 21 dJ5_inflateIfNeededFor_a7421_14 (by decide) h (fun h => ?_) (fun h => ?_)
    · exact r_vret rfl dJ5_inflateIfNeededFor_a7421_21 h
    · obtain ⟨r, h, -⟩ := h
      cases h
theorem m_J5_inflateIfNeededFor_a7421 {g : zF} (hl0 : g.2.2.2.1.stackTraces = false) {Q : zR × zS → Prop} {a0 a1 : Int} {σ : zS} (h : zo (f_J5_inflateIfNeededFor_a7421 a0 a1 σ) Q) : zm g Y_J5_inflateIfNeededFor_a7421 R_J5_inflateIfNeededFor_a7421 [(4, a0), (6, a1)] σ Q := zm_of (by decide) rfl (Nat.le_of_ble_eq_true rfl) (t_J5_inflateIfNeededFor_a7421 hl0 h)


/- J0_getBytes_840e7 -/

set_option maxRecDepth 100000 in
set_option maxHeartbeats 4000000 in
theorem t_J0_getBytes_840e7 {g : zF} (hl0 : g.2.2.2.1.stackTraces = false) {Q : zR × zS → Prop}   {a0 a1 a2 a3 : Int} {σ : zS} (h : zo (f_J0_getBytes_840e7  a0 a1 a2 a3 σ) Q) : zw g Y_J0_getBytes_840e7 R_J0_getBytes_840e7 0 [(0, (6, a0)), (1, (4, a1)), (2, (0, a2)), (3, (0, a3))] [] σ 0 0 Q := by
  unfold f_J0_getBytes_840e7 at h
  refine r_aload_n 0 dJ0_getBytes_840e7_0 rfl ?_
  refine r_scodJ sc_J0_335 rfl ⟨by decide, by decide⟩ (Nat.le_of_ble_eq_true rfl) dJ0_getBytes_840e7_1 h (fun h => ?_)
  refine r_iload_n 3 dJ0_getBytes_840e7_4 rfl ?_
  refine r_icmp_ne 28 dJ0_getBytes_840e7_5 (by decide) h (fun h => ?_) (fun h => ?_)
  · obtain ⟨r, h, -⟩ := h
    cases h
  · refine r_aload_n 0 dJ0_getBytes_840e7_8 rfl ?_
    refine r_sgetvJ wd_604 dJ0_getBytes_840e7_9 h (fun h => ?_)
    refine r_iconst (v := 0) dJ0_getBytes_840e7_12 rfl rfl ?_
    refine r_aload_n 1 dJ0_getBytes_840e7_13 rfl ?_
    refine r_iload_n 2 dJ0_getBytes_840e7_14 rfl ?_
    refine r_iload_n 3 dJ0_getBytes_840e7_15 rfl ?_
    refine r_ishl dJ0_getBytes_840e7_16 ?_
    refine r_aload_n 0 dJ0_getBytes_840e7_17 rfl ?_
    refine r_sgetvJ wd_604 dJ0_getBytes_840e7_18 h (fun h => ?_)
    refine r_sblenJ dJ0_getBytes_840e7_21 h (fun h => ?_)
    refine r_acopyS ac_J0_212 ⟨by decide, Nat.le_of_ble_eq_true rfl⟩ dJ0_getBytes_840e7_22 h (fun τ1 h => ?_)
    refine r_goto 43 dJ0_getBytes_840e7_25 (by decide) ?_
    exact r_vret rfl dJ0_getBytes_840e7_43 h
theorem m_J0_getBytes_840e7 {g : zF} (hl0 : g.2.2.2.1.stackTraces = false) {Q : zR × zS → Prop} {a0 a1 a2 a3 : Int} {σ : zS} (h : zo (f_J0_getBytes_840e7 a0 a1 a2 a3 σ) Q) : zm g Y_J0_getBytes_840e7 R_J0_getBytes_840e7 [(6, a0), (4, a1), (0, a2), (0, a3)] σ Q := zm_of (by decide) rfl (Nat.le_of_ble_eq_true rfl) (t_J0_getBytes_840e7 hl0 h)


/- J5_putStringAt_47b60 -/

set_option maxRecDepth 100000 in
set_option maxHeartbeats 4000000 in
theorem t_J5_putStringAt_47b60 {g : zF} (hl0 : g.2.2.2.1.stackTraces = false) {Q : zR × zS → Prop}   {a0 a1 a2 : Int} {σ : zS} (h : zo (f_J5_putStringAt_47b60  a0 a1 a2 σ) Q) : zw g Y_J5_putStringAt_47b60 R_J5_putStringAt_47b60 0 [(0, (4, a0)), (1, (0, a1)), (2, (6, a2))] [] σ 0 0 Q := by
  unfold f_J5_putStringAt_47b60 at h
  refine r_aload_n 0 dJ5_putStringAt_47b60_0 rfl ?_
  refine r_aload_n 2 dJ5_putStringAt_47b60_1 rfl ?_
  refine r_callP (K' := Y_J5_inflateIfNeededFor_a7421) (R' := R_J5_inflateIfNeededFor_a7421) (idx := 397) (n := 1) (b := a0) (as := [(6, a2)]) (rest := []) (C' := 0) (D' := 0) (cn := 8) (CN := "java/lang/StringBuilder") rfl k0_J5_inflateIfNeededFor_a7421 kP_J5_inflateIfNeededFor_a7421 kl_J5_397 ⟨by decide, by decide⟩ dJ5_putStringAt_47b60_2 rfl rfl (Nat.le_of_ble_eq_true rfl) (by decide) (by decide) rfl h (fun r hr => m_J5_inflateIfNeededFor_a7421 hl0 ⟨r, hr, hr⟩) (fun _ τ2 _ h => ?_)
  refine r_aload_n 2 dJ5_putStringAt_47b60_5 rfl ?_
  refine r_aload_n 0 dJ5_putStringAt_47b60_6 rfl ?_
  refine r_getr fd_J5_15 rfl dJ5_putStringAt_47b60_7 h (fun x3 h => ?_)
  refine r_iload_n 1 dJ5_putStringAt_47b60_10 rfl ?_
  refine r_aload_n 0 dJ5_putStringAt_47b60_11 rfl ?_
  refine r_getf fd_J5_22 rfl dJ5_putStringAt_47b60_12 h (fun x4 h => ?_)
  refine r_callTJ (K' := Y_J0_getBytes_840e7) (R' := R_J0_getBytes_840e7) (idx := 399) (n := 3) (j := a2) (as := [(4, x3), (0, a1), (0, x4)]) (rest := []) (C' := 0) (D' := 0) rfl k0_J0_getBytes_840e7 kV_J0_getBytes_840e7 kl_J5_399 ⟨by decide, by decide⟩ dJ5_putStringAt_47b60_15 rfl rfl (Nat.le_of_ble_eq_true rfl) (by decide) (by decide) rfl h (fun r hr => m_J0_getBytes_840e7 hl0 ⟨r, hr, hr⟩) (fun _ τ6 _ h => ?_)
  exact r_vret rfl dJ5_putStringAt_47b60_18 h
theorem m_J5_putStringAt_47b60 {g : zF} (hl0 : g.2.2.2.1.stackTraces = false) {Q : zR × zS → Prop} {a0 a1 a2 : Int} {σ : zS} (h : zo (f_J5_putStringAt_47b60 a0 a1 a2 σ) Q) : zm g Y_J5_putStringAt_47b60 R_J5_putStringAt_47b60 [(4, a0), (0, a1), (6, a2)] σ Q := zm_of (by decide) rfl (Nat.le_of_ble_eq_true rfl) (t_J5_putStringAt_47b60 hl0 h)


/- J5_append_cf1ce -/

set_option maxRecDepth 100000 in
set_option maxHeartbeats 4000000 in
theorem t_J5_append_cf1ce {g : zF} (hl0 : g.2.2.2.1.stackTraces = false) {Q : zR × zS → Prop}   {a0 a1 : Int} {σ : zS} (h : zo (f_J5_append_cf1ce  a0 a1 σ) Q) : zw g Y_J5_append_cf1ce R_J5_append_cf1ce 0 [(0, (4, a0)), (1, (6, a1))] [] σ 1 1024 Q := by
  unfold f_J5_append_cf1ce at h
  refine r_aload_n 1 dJ5_append_cf1ce_0 rfl ?_
  refine r_ifnn6 9 dJ5_append_cf1ce_1 (by decide) ?_
  refine r_aload_n 1 dJ5_append_cf1ce_9 rfl ?_
  refine r_slenJ sl_J5_32 rfl ⟨by decide, by decide⟩ (Nat.le_of_ble_eq_true rfl) dJ5_append_cf1ce_10 h (fun h => ?_)
  refine r_istore_n (L' := [(2, (0, (zlen (a1 : Int).toNat))), (0, (4, a0)), (1, (6, a1))]) dJ5_append_cf1ce_13 (by decide) rfl ?_
  refine r_aload_n 1 dJ5_append_cf1ce_14 rfl ?_
  refine r_aload_n 1 dJ5_append_cf1ce_15 rfl ?_
  refine r_getf fd_J5_79 rfl dJ5_append_cf1ce_16 h (fun x1 h => ?_)
  refine r_iload_n 0 dJ5_append_cf1ce_19 rfl ?_
  refine r_iadd dJ5_append_cf1ce_20 ?_
  refine r_callP (K' := Y_J5_ensureCapacityInternal_d00df) (R' := R_J5_ensureCapacityInternal_d00df) (idx := 100) (n := 1) (b := a0) (as := [(0, (w32 (x1 + (zlen (a1 : Int).toNat))))]) (rest := []) (C' := 0) (D' := 0) (cn := 8) (CN := "java/lang/StringBuilder") rfl k0_J5_ensureCapacityInternal_d00df kP_J5_ensureCapacityInternal_d00df kl_J5_100 ⟨by decide, by decide⟩ dJ5_append_cf1ce_21 rfl rfl (Nat.le_of_ble_eq_true rfl) (by decide) (by decide) rfl h (fun r hr => m_J5_ensureCapacityInternal_d00df hl0 ⟨r, hr, hr⟩) (fun _ τ3 _ h => ?_)
  refine r_aload_n 1 dJ5_append_cf1ce_24 rfl ?_
  refine r_aload_n 1 dJ5_append_cf1ce_25 rfl ?_
  refine r_getf fd_J5_79 rfl dJ5_append_cf1ce_26 h (fun x4 h => ?_)
  refine r_aload_n 2 dJ5_append_cf1ce_29 rfl ?_
  refine r_callP (K' := Y_J5_putStringAt_47b60) (R' := R_J5_putStringAt_47b60) (idx := 208) (n := 2) (b := a0) (as := [(0, x4), (6, a1)]) (rest := []) (C' := 0) (D' := 0) (cn := 8) (CN := "java/lang/StringBuilder") rfl k0_J5_putStringAt_47b60 kP_J5_putStringAt_47b60 kl_J5_208 ⟨by decide, by decide⟩ dJ5_append_cf1ce_30 rfl rfl (Nat.le_of_ble_eq_true rfl) (by decide) (by decide) rfl h (fun r hr => m_J5_putStringAt_47b60 hl0 ⟨r, hr, hr⟩) (fun _ τ6 _ h => ?_)
  refine r_aload_n 1 dJ5_append_cf1ce_33 rfl ?_
  refine r_dup dJ5_append_cf1ce_34 rfl ?_
  refine r_getf fd_J5_79 rfl dJ5_append_cf1ce_35 h (fun x7 h => ?_)
  refine r_iload_n 0 dJ5_append_cf1ce_38 rfl ?_
  refine r_iadd dJ5_append_cf1ce_39 ?_
  refine r_putf fd_J5_79 fp_J5_append_cf1ce_79 dJ5_append_cf1ce_40 h (fun τ8 h => ?_)
  refine r_aload_n 1 dJ5_append_cf1ce_43 rfl ?_
  exact r_aret rfl dJ5_append_cf1ce_44 h
theorem m_J5_append_cf1ce {g : zF} (hl0 : g.2.2.2.1.stackTraces = false) {Q : zR × zS → Prop} {a0 a1 : Int} {σ : zS} (h : zo (f_J5_append_cf1ce a0 a1 σ) Q) : zm g Y_J5_append_cf1ce R_J5_append_cf1ce [(4, a0), (6, a1)] σ Q := zm_of (by decide) rfl (Nat.le_of_ble_eq_true rfl) (t_J5_append_cf1ce hl0 h)


/- J4_append_15ec4 -/

set_option maxRecDepth 100000 in
set_option maxHeartbeats 4000000 in
theorem t_J4_append_15ec4 {g : zF} (hl0 : g.2.2.2.1.stackTraces = false) {Q : zR × zS → Prop}   {a0 a1 : Int} {σ : zS} (h : zo (f_J4_append_15ec4  a0 a1 σ) Q) : zw g Y_J4_append_15ec4 R_J4_append_15ec4 0 [(0, (4, a0)), (1, (6, a1))] [] σ 1 1024 Q := by
  unfold f_J4_append_15ec4 at h
  refine r_aload_n 0 dJ4_append_15ec4_0 rfl ?_
  refine r_aload_n 1 dJ4_append_15ec4_1 rfl ?_
  refine r_callSU (K' := Y_J5_append_cf1ce) (R' := R_J5_append_cf1ce) (idx := 29) (n := 1) (b := a0) (as := [(6, a1)]) (rest := []) (C' := 0) (D' := 0) (cn := 8) (CN := "java/lang/StringBuilder") rfl k0_J5_append_cf1ce kS_J4_29 lS_J4_29 ⟨by decide, by decide⟩ dJ4_append_15ec4_2 rfl rfl (Nat.le_of_ble_eq_true rfl) (by decide) (by decide) rfl h (fun r hr => m_J5_append_cf1ce hl0 ⟨r, hr, hr⟩) (fun x1 τ2 _ h => ?_)
  refine r_pop dJ4_append_15ec4_5 rfl ?_
  refine r_aload_n 0 dJ4_append_15ec4_6 rfl ?_
  exact r_aret rfl dJ4_append_15ec4_7 h
theorem m_J4_append_15ec4 {g : zF} (hl0 : g.2.2.2.1.stackTraces = false) {Q : zR × zS → Prop} {a0 a1 : Int} {σ : zS} (h : zo (f_J4_append_15ec4 a0 a1 σ) Q) : zm g Y_J4_append_15ec4 R_J4_append_15ec4 [(4, a0), (6, a1)] σ Q := zm_of (by decide) rfl (Nat.le_of_ble_eq_true rfl) (t_J4_append_15ec4 hl0 h)


/- J4_append_cf1ce -/

set_option maxRecDepth 100000 in
set_option maxHeartbeats 4000000 in
theorem t_J4_append_cf1ce {g : zF} (hl0 : g.2.2.2.1.stackTraces = false) {Q : zR × zS → Prop}   {a0 a1 : Int} {σ : zS} (h : zo (f_J4_append_cf1ce  a0 a1 σ) Q) : zw g Y_J4_append_cf1ce R_J4_append_cf1ce 0 [(0, (4, a0)), (1, (6, a1))] [] σ 1 1024 Q := by
  unfold f_J4_append_cf1ce at h
  refine r_aload_n 0 dJ4_append_cf1ce_0 rfl ?_
  refine r_aload_n 1 dJ4_append_cf1ce_1 rfl ?_
  refine r_callV (K' := Y_J4_append_15ec4) (R' := R_J4_append_15ec4) (idx := 23) (n := 1) (b := a0) (as := [(6, a1)]) (rest := []) (C' := 0) (D' := 0) (cn := 8) rfl k0_J4_append_15ec4 kV_J4_append_15ec4 kl_J4_23 ⟨by decide, by decide⟩ dJ4_append_cf1ce_2 rfl rfl (Nat.le_of_ble_eq_true rfl) (by decide) (by decide) rfl h (fun r hr => m_J4_append_15ec4 hl0 ⟨r, hr, hr⟩) (fun x1 τ2 _ h => ?_)
  exact r_aret rfl dJ4_append_cf1ce_5 h
theorem m_J4_append_cf1ce {g : zF} (hl0 : g.2.2.2.1.stackTraces = false) {Q : zR × zS → Prop} {a0 a1 : Int} {σ : zS} (h : zo (f_J4_append_cf1ce a0 a1 σ) Q) : zm g Y_J4_append_cf1ce R_J4_append_cf1ce [(4, a0), (6, a1)] σ Q := zm_of (by decide) rfl (Nat.le_of_ble_eq_true rfl) (t_J4_append_cf1ce hl0 h)


/- J5_init_a7421 -/

set_option maxRecDepth 100000 in
set_option maxHeartbeats 4000000 in
theorem t_J5_init_a7421 {g : zF} (hl0 : g.2.2.2.1.stackTraces = false) {Q : zR × zS → Prop}   {a0 a1 : Int} {σ : zS} (h : zo (f_J5_init_a7421  a0 a1 σ) Q) : zw g Y_J5_init_a7421 R_J5_init_a7421 0 [(0, (4, a0)), (1, (6, a1))] [] σ 2 1088 Q := by
  unfold f_J5_init_a7421 at h
  refine r_aload_n 0 dJ5_init_a7421_0 rfl ?_
  refine r_objinit oi_J5_3 ⟨by decide, Nat.le_of_ble_eq_true rfl⟩ dJ5_init_a7421_1 h (fun h => ?_)
  refine r_aload_n 1 dJ5_init_a7421_4 rfl ?_
  refine r_slenJ sl_J5_32 rfl ⟨by decide, by decide⟩ (Nat.le_of_ble_eq_true rfl) dJ5_init_a7421_5 h (fun h => ?_)
  refine r_istore_n (L' := [(2, (0, (zlen (a1 : Int).toNat))), (0, (4, a0)), (1, (6, a1))]) dJ5_init_a7421_8 (by decide) rfl ?_
  refine r_iload_n 0 dJ5_init_a7421_9 rfl ?_
  refine r_ldcI (z := 2147483631) wd_356 (by decide +kernel) dJ5_init_a7421_10 ?_
  refine r_icmp_ge 22 dJ5_init_a7421_12 (by decide) h (fun h => ?_) (fun h => ?_)
  · refine r_room (C' := 0) (D' := 0) (by omega) (by omega) ?_
    obtain ⟨r, h, -⟩ := h
    cases h
  · refine r_iload_n 0 dJ5_init_a7421_15 rfl ?_
    refine r_bipush (v := 16) dJ5_init_a7421_16 rfl rfl ?_
    refine r_iadd dJ5_init_a7421_18 ?_
    refine r_goto 24 dJ5_init_a7421_19 (by decide) ?_
    refine r_istore_n (L' := [(3, (0, (w32 ((zlen (a1 : Int).toNat) + 16)))), (2, (0, (zlen (a1 : Int).toNat))), (0, (4, a0)), (1, (6, a1))]) dJ5_init_a7421_24 (by decide) rfl ?_
    refine r_aload_n 3 dJ5_init_a7421_25 rfl ?_
    refine r_scodJ sc_J5_40 rfl ⟨by decide, by decide⟩ (Nat.le_of_ble_eq_true rfl) dJ5_init_a7421_26 h (fun h => ?_)
    refine r_istore (L' := [(4, (0, 0)), (3, (0, (w32 ((zlen (a1 : Int).toNat) + 16)))), (2, (0, (zlen (a1 : Int).toNat))), (0, (4, a0)), (1, (6, a1))]) dJ5_init_a7421_29 (by decide) rfl ?_
    refine r_aload_n 3 dJ5_init_a7421_31 rfl ?_
    refine r_iload 0 dJ5_init_a7421_32 rfl ?_
    refine r_putB fd_J5_22 fp_J5_init_a7421_22 dJ5_init_a7421_34 h (fun τ1 h => ?_)
    refine r_aload_n 3 dJ5_init_a7421_37 rfl ?_
    refine r_iload 0 dJ5_init_a7421_38 rfl ?_
    refine r_if_ne 49 dJ5_init_a7421_40 (by decide) h (fun h => ?_) (fun h => ?_)
    · refine r_room (C' := 0) (D' := 0) (by omega) (by omega) ?_
      obtain ⟨r, h, -⟩ := h
      cases h
    · refine r_iload_n 1 dJ5_init_a7421_43 rfl ?_
      refine r_newa2 (C' := 1) (D' := 1024) (N := 64) wd_128 dJ5_init_a7421_44 (by decide) (by decide) (by decide) h (fun x2 τ3 h => ?_)
      refine r_goto 53 dJ5_init_a7421_46 (by decide) ?_
      refine r_putr fd_J5_15 fp_J5_init_a7421_15 dJ5_init_a7421_53 h (fun τ4 h => ?_)
      refine r_aload_n 3 dJ5_init_a7421_56 rfl ?_
      refine r_aload_n 4 dJ5_init_a7421_57 rfl ?_
      refine r_callU (K' := Y_J4_append_cf1ce) (R' := R_J4_append_cf1ce) (idx := 43) (n := 1) (b := a0) (as := [(6, a1)]) (rest := []) (C' := 0) (D' := 0) (cn := 8) (CN := "java/lang/StringBuilder") (ow := "java/lang/AbstractStringBuilder") (xn := ⟨"java/lang/AbstractStringBuilder", "append", "(Ljava/lang/String;)Ljava/lang/AbstractStringBuilder;"⟩) rfl k0_J4_append_cf1ce kU_J5_43 lU_J5_43 ⟨by decide, by decide⟩ dJ5_init_a7421_58 rfl rfl (Nat.le_of_ble_eq_true rfl) (by decide) (by decide) rfl h (fun r hr => m_J4_append_cf1ce hl0 ⟨r, hr, hr⟩) (fun x5 τ6 _ h => ?_)
      refine r_pop dJ5_init_a7421_61 rfl ?_
      exact r_vret rfl dJ5_init_a7421_62 h
theorem m_J5_init_a7421 {g : zF} (hl0 : g.2.2.2.1.stackTraces = false) {Q : zR × zS → Prop} {a0 a1 : Int} {σ : zS} (h : zo (f_J5_init_a7421 a0 a1 σ) Q) : zm g Y_J5_init_a7421 R_J5_init_a7421 [(4, a0), (6, a1)] σ Q := zm_of (by decide) rfl (Nat.le_of_ble_eq_true rfl) (t_J5_init_a7421 hl0 h)


/- J4_init_a7421 -/

set_option maxRecDepth 100000 in
set_option maxHeartbeats 4000000 in
theorem t_J4_init_a7421 {g : zF} (hl0 : g.2.2.2.1.stackTraces = false) {Q : zR × zS → Prop}   {a0 a1 : Int} {σ : zS} (h : zo (f_J4_init_a7421  a0 a1 σ) Q) : zw g Y_J4_init_a7421 R_J4_init_a7421 0 [(0, (4, a0)), (1, (6, a1))] [] σ 2 1088 Q := by
  unfold f_J4_init_a7421 at h
  refine r_aload_n 0 dJ4_init_a7421_0 rfl ?_
  refine r_aload_n 1 dJ4_init_a7421_1 rfl ?_
  obtain ⟨h0, h⟩ := zite_o h
  refine r_callI (K' := Y_J5_init_a7421) (R' := R_J5_init_a7421) (idx := 7) (n := 1) (b := a0) (as := [(6, a1)]) (rest := []) (C' := 0) (D' := 0) rfl k0_J5_init_a7421 kI_J5_init_a7421 kl_J4_7 ⟨by decide, by decide⟩ dJ4_init_a7421_2 rfl rfl (Nat.le_of_ble_eq_true rfl) (by decide) (by decide) h h0 (fun r hr => m_J5_init_a7421 hl0 ⟨r, hr, hr⟩) (fun _ τ2 _ h => ?_)
  exact r_vret rfl dJ4_init_a7421_5 h
theorem m_J4_init_a7421 {g : zF} (hl0 : g.2.2.2.1.stackTraces = false) {Q : zR × zS → Prop} {a0 a1 : Int} {σ : zS} (h : zo (f_J4_init_a7421 a0 a1 σ) Q) : zm g Y_J4_init_a7421 R_J4_init_a7421 [(4, a0), (6, a1)] σ Q := zm_of (by decide) rfl (Nat.le_of_ble_eq_true rfl) (t_J4_init_a7421 hl0 h)


/- J6_stringSize_0f7a4 -/

set_option maxRecDepth 100000 in
set_option maxHeartbeats 4000000 in
theorem t_J6_stringSize_0f7a4_16 {g : zF} (hl0 : g.2.2.2.1.stackTraces = false) {Q : zR × zS → Prop}   : ∀ (n : Nat) (a0 a1 a2 a3 : Int) (σ : zS), zo (f_J6_stringSize_0f7a4_16  n a0 a1 a2 a3 σ) Q → zw g Y_J6_stringSize_0f7a4 R_J6_stringSize_0f7a4 16 [(0, (0, a0)), (1, (0, a1)), (2, (0, a2)), (3, (0, a3))] [] σ 0 0 Q := by
  intro n
  induction n with
  | zero => intro a0 a1 a2 a3 σ h; obtain ⟨r, h, -⟩ := h; cases h
  | succ n ih =>
    intro a0 a1 a2 a3 σ h
    unfold f_J6_stringSize_0f7a4_16 at h
    refine r_iload_n 3 dJ6_stringSize_0f7a4_16 rfl ?_
    refine r_bipush (v := 10) dJ6_stringSize_0f7a4_17 rfl rfl ?_
    refine r_icmp_ge 42 dJ6_stringSize_0f7a4_19 (by decide) h (fun h => ?_) (fun h => ?_)
    · refine r_bipush (v := 10) dJ6_stringSize_0f7a4_42 rfl rfl ?_
      refine r_iload_n 1 dJ6_stringSize_0f7a4_44 rfl ?_
      refine r_iadd dJ6_stringSize_0f7a4_45 ?_
      exact r_iret rfl dJ6_stringSize_0f7a4_46 h
    · refine r_iload_n 0 dJ6_stringSize_0f7a4_22 rfl ?_
      refine r_iload_n 2 dJ6_stringSize_0f7a4_23 rfl ?_
      refine r_icmp_le 31 dJ6_stringSize_0f7a4_24 (by decide) h (fun h => ?_) (fun h => ?_)
      · refine r_bipush (v := 10) dJ6_stringSize_0f7a4_31 rfl rfl ?_
        refine r_iload_n 2 dJ6_stringSize_0f7a4_33 rfl ?_
        refine r_imul dJ6_stringSize_0f7a4_34 ?_
        refine r_istore_n (L' := [(2, (0, (w32 (10 * a2)))), (0, (0, a0)), (1, (0, a1)), (3, (0, a3))]) dJ6_stringSize_0f7a4_35 (by decide) rfl ?_
        refine r_iinc (L' := [(3, (0, (w32 (a3 + 1)))), (2, (0, (w32 (10 * a2)))), (0, (0, a0)), (1, (0, a1))]) 3 dJ6_stringSize_0f7a4_36 rfl (by decide) rfl ?_
        refine r_goto 16 dJ6_stringSize_0f7a4_39 (by decide) ?_
        refine r_weak (L' := [(0, (0, a0)), (1, (0, a1)), (2, (0, (w32 (10 * a2)))), (3, (0, (w32 (a3 + 1))))]) [2, 3, 1, 0] rfl ?_
        refine r_room (C' := 0) (D' := 0) (by omega) (by omega) ?_
        exact ih _ _ _ _ _ h
      · refine r_iload_n 3 dJ6_stringSize_0f7a4_27 rfl ?_
        refine r_iload_n 1 dJ6_stringSize_0f7a4_28 rfl ?_
        refine r_iadd dJ6_stringSize_0f7a4_29 ?_
        exact r_iret rfl dJ6_stringSize_0f7a4_30 h

set_option maxRecDepth 100000 in
set_option maxHeartbeats 4000000 in
theorem t_J6_stringSize_0f7a4 {g : zF} (hl0 : g.2.2.2.1.stackTraces = false) {Q : zR × zS → Prop}   {a0 : Int} {σ : zS} (h : zo (f_J6_stringSize_0f7a4  a0 σ) Q) : zw g Y_J6_stringSize_0f7a4 R_J6_stringSize_0f7a4 0 [(0, (0, a0))] [] σ 0 0 Q := by
  unfold f_J6_stringSize_0f7a4 at h
  refine r_iconst (v := 1) dJ6_stringSize_0f7a4_0 rfl rfl ?_
  refine r_istore_n (L' := [(1, (0, 1)), (0, (0, a0))]) dJ6_stringSize_0f7a4_1 (by decide) rfl ?_
  refine r_iload_n 1 dJ6_stringSize_0f7a4_2 rfl ?_
  refine r_if_lt 11 dJ6_stringSize_0f7a4_3 (by decide) h (fun h => ?_) (fun h => ?_)
  · obtain ⟨r, h, -⟩ := h
    cases h
  · refine r_iconst (v := 0) dJ6_stringSize_0f7a4_6 rfl rfl ?_
    refine r_istore_n (L' := [(1, (0, 0)), (0, (0, a0))]) dJ6_stringSize_0f7a4_7 (by decide) rfl ?_
    refine r_iload_n 1 dJ6_stringSize_0f7a4_8 rfl ?_
    refine r_ineg dJ6_stringSize_0f7a4_9 ?_
    refine r_istore_n (L' := [(0, (0, (w32 (-a0)))), (1, (0, 0))]) dJ6_stringSize_0f7a4_10 (by decide) rfl ?_
    refine r_bipush (v := (-10)) dJ6_stringSize_0f7a4_11 rfl rfl ?_
    refine r_istore_n (L' := [(2, (0, (-10))), (0, (0, (w32 (-a0)))), (1, (0, 0))]) dJ6_stringSize_0f7a4_13 (by decide) rfl ?_
    refine r_iconst (v := 1) dJ6_stringSize_0f7a4_14 rfl rfl ?_
    refine r_istore_n (L' := [(3, (0, 1)), (2, (0, (-10))), (0, (0, (w32 (-a0)))), (1, (0, 0))]) dJ6_stringSize_0f7a4_15 (by decide) rfl ?_
    refine r_weak (L' := [(0, (0, (w32 (-a0)))), (1, (0, 0)), (2, (0, (-10))), (3, (0, 1))]) [2, 3, 1, 0] rfl ?_
    refine r_room (C' := 0) (D' := 0) (by omega) (by omega) ?_
    exact t_J6_stringSize_0f7a4_16 hl0    zFU _ _ _ _ _ h
theorem m_J6_stringSize_0f7a4 {g : zF} (hl0 : g.2.2.2.1.stackTraces = false) {Q : zR × zS → Prop} {a0 : Int} {σ : zS} (h : zo (f_J6_stringSize_0f7a4 a0 σ) Q) : zm g Y_J6_stringSize_0f7a4 R_J6_stringSize_0f7a4 [(0, a0)] σ Q := zm_of (by decide) rfl (Nat.le_of_ble_eq_true rfl) (t_J6_stringSize_0f7a4 hl0 h)


/- J5_isLatin1_aae02 -/

set_option maxRecDepth 100000 in
set_option maxHeartbeats 4000000 in
theorem t_J5_isLatin1_aae02 {g : zF} (hl0 : g.2.2.2.1.stackTraces = false) {Q : zR × zS → Prop}   {a0 : Int} {σ : zS} (h : zo (f_J5_isLatin1_aae02  a0 σ) Q) : zw g Y_J5_isLatin1_aae02 R_J5_isLatin1_aae02 0 [(0, (4, a0))] [] σ 0 0 Q := by
  unfold f_J5_isLatin1_aae02 at h
  refine r_compact wd_422 dJ5_isLatin1_aae02_0 ?_
  refine r_if_eq 17 dJ5_isLatin1_aae02_3 (by decide) h (fun h => ?_) (fun h => ?_)
  · obtain ⟨r, h, -⟩ := h
    cases h
  · refine r_aload_n 0 dJ5_isLatin1_aae02_6 rfl ?_
    refine r_getf fd_J5_22 rfl dJ5_isLatin1_aae02_7 h (fun x1 h => ?_)
    refine r_if_ne 17 dJ5_isLatin1_aae02_10 (by decide) h (fun h => ?_) (fun h => ?_)
    · obtain ⟨r, h, -⟩ := h
      cases h
    · refine r_iconst (v := 1) dJ5_isLatin1_aae02_13 rfl rfl ?_
      refine r_goto 18 dJ5_isLatin1_aae02_14 (by decide) ?_
      exact r_zretc (by decide) rfl dJ5_isLatin1_aae02_18 h
theorem m_J5_isLatin1_aae02 {g : zF} (hl0 : g.2.2.2.1.stackTraces = false) {Q : zR × zS → Prop} {a0 : Int} {σ : zS} (h : zo (f_J5_isLatin1_aae02 a0 σ) Q) : zm g Y_J5_isLatin1_aae02 R_J5_isLatin1_aae02 [(4, a0)] σ Q := zm_of (by decide) rfl (Nat.le_of_ble_eq_true rfl) (t_J5_isLatin1_aae02 hl0 h)


/- J6_getChars_ba4f3 -/

set_option maxRecDepth 100000 in
set_option maxHeartbeats 4000000 in
theorem t_J6_getChars_ba4f3_104 {g : zF} (hl0 : g.2.2.2.1.stackTraces = false) {Q : zR × zS → Prop}   {a5 a6 : Int} {σ : zS} (h : zo (f_J6_getChars_ba4f3_104  a5 a6 σ) Q) : zw g Y_J6_getChars_ba4f3 R_J6_getChars_ba4f3 104 [(5, (0, a5)), (6, (0, a6))] [] σ 0 0 Q := by
  unfold f_J6_getChars_ba4f3_104 at h
  refine r_iload 1 dJ6_getChars_ba4f3_104 rfl ?_
  refine r_if_eq 118 dJ6_getChars_ba4f3_106 (by decide) h (fun h => ?_) (fun h => ?_)
  · refine r_iload 0 dJ6_getChars_ba4f3_118 rfl ?_
    exact r_iret rfl dJ6_getChars_ba4f3_120 h
  · obtain ⟨r, h, -⟩ := h
    cases h

set_option maxRecDepth 100000 in
set_option maxHeartbeats 4000000 in
theorem t_J6_getChars_ba4f3_72 {g : zF} (hl0 : g.2.2.2.1.stackTraces = false) {Q : zR × zS → Prop}   {a0 a2 a5 a6 : Int} {σ : zS} (h : zo (f_J6_getChars_ba4f3_72  a0 a2 a5 a6 σ) Q) : zw g Y_J6_getChars_ba4f3 R_J6_getChars_ba4f3 72 [(0, (0, a0)), (2, (4, a2)), (5, (0, a5)), (6, (0, a6))] [] σ 0 0 Q := by
  unfold f_J6_getChars_ba4f3_72 at h
  refine r_aload_n 1 dJ6_getChars_ba4f3_72 rfl ?_
  refine r_iinc (L' := [(5, (0, (w32 (a5 + (-1))))), (0, (0, a0)), (2, (4, a2)), (6, (0, a6))]) 2 dJ6_getChars_ba4f3_73 rfl (by decide) rfl ?_
  refine r_iload 0 dJ6_getChars_ba4f3_76 rfl ?_
  refine r_getsD (k := 3) (by decide) wd_507 dJ6_getChars_ba4f3_78 ?_
  refine r_iload_n 1 dJ6_getChars_ba4f3_81 rfl ?_
  refine r_ineg dJ6_getChars_ba4f3_82 ?_
  refine r_baldD (k := 3) (by decide) dJ6_getChars_ba4f3_83 h (fun x1 h => ?_)
  refine r_bast dJ6_getChars_ba4f3_84 h (fun τ2 h => ?_)
  refine r_iload_n 1 dJ6_getChars_ba4f3_85 rfl ?_
  refine r_bipush (v := (-9)) dJ6_getChars_ba4f3_86 rfl rfl ?_
  refine r_icmp_ge 104 dJ6_getChars_ba4f3_88 (by decide) h (fun h => ?_) (fun h => ?_)
  · refine r_weak (L' := [(5, (0, (w32 (a5 + (-1))))), (6, (0, a6))]) [0, 3] rfl ?_
    refine r_room (C' := 0) (D' := 0) (by omega) (by omega) ?_
    exact t_J6_getChars_ba4f3_104 hl0    h
  · refine r_aload_n 2 dJ6_getChars_ba4f3_91 rfl ?_
    refine r_iinc (L' := [(5, (0, (w32 ((w32 (a5 + (-1))) + (-1))))), (0, (0, a0)), (2, (4, a2)), (6, (0, a6))]) 0 dJ6_getChars_ba4f3_92 rfl (by decide) rfl ?_
    refine r_iload 0 dJ6_getChars_ba4f3_95 rfl ?_
    refine r_getsD (k := 4) (by decide) wd_509 dJ6_getChars_ba4f3_97 ?_
    refine r_iload_n 1 dJ6_getChars_ba4f3_100 rfl ?_
    refine r_ineg dJ6_getChars_ba4f3_101 ?_
    refine r_baldD (k := 4) (by decide) dJ6_getChars_ba4f3_102 h (fun x3 h => ?_)
    refine r_bast dJ6_getChars_ba4f3_103 h (fun τ4 h => ?_)
    refine r_weak (L' := [(5, (0, (w32 ((w32 (a5 + (-1))) + (-1))))), (6, (0, a6))]) [0, 3] rfl ?_
    refine r_room (C' := 0) (D' := 0) (by omega) (by omega) ?_
    exact t_J6_getChars_ba4f3_104 hl0    h

set_option maxRecDepth 100000 in
set_option maxHeartbeats 4000000 in
theorem t_J6_getChars_ba4f3_22 {g : zF} (hl0 : g.2.2.2.1.stackTraces = false) {Q : zR × zS → Prop}   : ∀ (n : Nat) (a0 a2 a5 a6 : Int) (σ : zS), zo (f_J6_getChars_ba4f3_22  n a0 a2 a5 a6 σ) Q → zw g Y_J6_getChars_ba4f3 R_J6_getChars_ba4f3 22 [(0, (0, a0)), (2, (4, a2)), (5, (0, a5)), (6, (0, a6))] [] σ 0 0 Q := by
  intro n
  induction n with
  | zero => intro a0 a2 a5 a6 σ h; obtain ⟨r, h, -⟩ := h; cases h
  | succ n ih =>
    intro a0 a2 a5 a6 σ h
    unfold f_J6_getChars_ba4f3_22 at h
    refine r_iload_n 0 dJ6_getChars_ba4f3_22 rfl ?_
    refine r_bipush (v := (-100)) dJ6_getChars_ba4f3_23 rfl rfl ?_
    refine r_icmp_gt 72 dJ6_getChars_ba4f3_25 (by decide) h (fun h => ?_) (fun h => ?_)
    · refine r_room (C' := 0) (D' := 0) (by omega) (by omega) ?_
      exact t_J6_getChars_ba4f3_72 hl0    h
    · refine r_iload_n 0 dJ6_getChars_ba4f3_28 rfl ?_
      refine r_bipush (v := 100) dJ6_getChars_ba4f3_29 rfl rfl ?_
      refine r_idiv dJ6_getChars_ba4f3_31 h (fun h => ?_)
      refine r_istore_n (L' := [(3, (0, (w32 (Int.tdiv a0 100)))), (0, (0, a0)), (2, (4, a2)), (5, (0, a5)), (6, (0, a6))]) dJ6_getChars_ba4f3_32 (by decide) rfl ?_
      refine r_iload_n 0 dJ6_getChars_ba4f3_33 rfl ?_
      refine r_bipush (v := 100) dJ6_getChars_ba4f3_34 rfl rfl ?_
      refine r_imul dJ6_getChars_ba4f3_36 ?_
      refine r_iload_n 1 dJ6_getChars_ba4f3_37 rfl ?_
      refine r_isub dJ6_getChars_ba4f3_38 ?_
      refine r_istore (L' := [(4, (0, (w32 ((w32 ((w32 (Int.tdiv a0 100)) * 100)) - a0)))), (3, (0, (w32 (Int.tdiv a0 100)))), (0, (0, a0)), (2, (4, a2)), (5, (0, a5)), (6, (0, a6))]) dJ6_getChars_ba4f3_39 (by decide) rfl ?_
      refine r_iload_n 1 dJ6_getChars_ba4f3_41 rfl ?_
      refine r_istore_n (L' := [(0, (0, (w32 (Int.tdiv a0 100)))), (4, (0, (w32 ((w32 ((w32 (Int.tdiv a0 100)) * 100)) - a0)))), (3, (0, (w32 (Int.tdiv a0 100)))), (2, (4, a2)), (5, (0, a5)), (6, (0, a6))]) dJ6_getChars_ba4f3_42 (by decide) rfl ?_
      refine r_aload_n 3 dJ6_getChars_ba4f3_43 rfl ?_
      refine r_iinc (L' := [(5, (0, (w32 (a5 + (-1))))), (0, (0, (w32 (Int.tdiv a0 100)))), (4, (0, (w32 ((w32 ((w32 (Int.tdiv a0 100)) * 100)) - a0)))), (3, (0, (w32 (Int.tdiv a0 100)))), (2, (4, a2)), (6, (0, a6))]) 4 dJ6_getChars_ba4f3_44 rfl (by decide) rfl ?_
      refine r_iload 0 dJ6_getChars_ba4f3_47 rfl ?_
      refine r_getsD (k := 3) (by decide) wd_507 dJ6_getChars_ba4f3_49 ?_
      refine r_iload 2 dJ6_getChars_ba4f3_52 rfl ?_
      refine r_baldD (k := 3) (by decide) dJ6_getChars_ba4f3_54 h (fun x1 h => ?_)
      refine r_bast dJ6_getChars_ba4f3_55 h (fun τ2 h => ?_)
      refine r_aload_n 4 dJ6_getChars_ba4f3_56 rfl ?_
      refine r_iinc (L' := [(5, (0, (w32 ((w32 (a5 + (-1))) + (-1))))), (0, (0, (w32 (Int.tdiv a0 100)))), (4, (0, (w32 ((w32 ((w32 (Int.tdiv a0 100)) * 100)) - a0)))), (3, (0, (w32 (Int.tdiv a0 100)))), (2, (4, a2)), (6, (0, a6))]) 0 dJ6_getChars_ba4f3_57 rfl (by decide) rfl ?_
      refine r_iload 0 dJ6_getChars_ba4f3_60 rfl ?_
      refine r_getsD (k := 4) (by decide) wd_509 dJ6_getChars_ba4f3_62 ?_
      refine r_iload 2 dJ6_getChars_ba4f3_65 rfl ?_
      refine r_baldD (k := 4) (by decide) dJ6_getChars_ba4f3_67 h (fun x3 h => ?_)
      refine r_bast dJ6_getChars_ba4f3_68 h (fun τ4 h => ?_)
      refine r_goto 22 dJ6_getChars_ba4f3_69 (by decide) ?_
      refine r_weak (L' := [(0, (0, (w32 (Int.tdiv a0 100)))), (2, (4, a2)), (5, (0, (w32 ((w32 (a5 + (-1))) + (-1))))), (6, (0, a6))]) [1, 4, 0, 5] rfl ?_
      refine r_room (C' := 0) (D' := 0) (by omega) (by omega) ?_
      exact ih _ _ _ _ _ h

set_option maxRecDepth 100000 in
set_option maxHeartbeats 4000000 in
theorem t_J6_getChars_ba4f3 {g : zF} (hl0 : g.2.2.2.1.stackTraces = false) {Q : zR × zS → Prop}   {a0 a1 a2 : Int} {σ : zS} (h : zo (f_J6_getChars_ba4f3  a0 a1 a2 σ) Q) : zw g Y_J6_getChars_ba4f3 R_J6_getChars_ba4f3 0 [(0, (0, a0)), (1, (0, a1)), (2, (4, a2))] [] σ 0 0 Q := by
  unfold f_J6_getChars_ba4f3 at h
  refine r_iload_n 1 dJ6_getChars_ba4f3_0 rfl ?_
  refine r_istore (L' := [(5, (0, a1)), (0, (0, a0)), (1, (0, a1)), (2, (4, a2))]) dJ6_getChars_ba4f3_1 (by decide) rfl ?_
  refine r_iload_n 1 dJ6_getChars_ba4f3_3 rfl ?_
  refine r_if_ge 11 dJ6_getChars_ba4f3_4 (by decide) h (fun h => ?_) (fun h => ?_)
  · refine r_iconst (v := 0) dJ6_getChars_ba4f3_11 rfl rfl ?_
    refine r_istore (L' := [(6, (0, 0)), (5, (0, a1)), (0, (0, a0)), (1, (0, a1)), (2, (4, a2))]) dJ6_getChars_ba4f3_12 (by decide) rfl ?_
    refine r_iload 0 dJ6_getChars_ba4f3_14 rfl ?_
    refine r_if_ne 22 dJ6_getChars_ba4f3_16 (by decide) h (fun h => ?_) (fun h => ?_)
    · obtain ⟨r, h, -⟩ := h
      cases h
    · refine r_iload_n 2 dJ6_getChars_ba4f3_19 rfl ?_
      refine r_ineg dJ6_getChars_ba4f3_20 ?_
      refine r_istore_n (L' := [(0, (0, (w32 (-a0)))), (6, (0, 0)), (5, (0, a1)), (1, (0, a1)), (2, (4, a2))]) dJ6_getChars_ba4f3_21 (by decide) rfl ?_
      refine r_weak (L' := [(0, (0, (w32 (-a0)))), (2, (4, a2)), (5, (0, a1)), (6, (0, 0))]) [0, 4, 2, 1] rfl ?_
      refine r_room (C' := 0) (D' := 0) (by omega) (by omega) ?_
      exact t_J6_getChars_ba4f3_22 hl0    zFU _ _ _ _ _ h
  · obtain ⟨r, h, -⟩ := h
    cases h
theorem m_J6_getChars_ba4f3 {g : zF} (hl0 : g.2.2.2.1.stackTraces = false) {Q : zR × zS → Prop} {a0 a1 a2 : Int} {σ : zS} (h : zo (f_J6_getChars_ba4f3 a0 a1 a2 σ) Q) : zm g Y_J6_getChars_ba4f3 R_J6_getChars_ba4f3 [(0, a0), (0, a1), (4, a2)] σ Q := zm_of (by decide) rfl (Nat.le_of_ble_eq_true rfl) (t_J6_getChars_ba4f3 hl0 h)


/- J5_append_c97b9 -/

set_option maxRecDepth 100000 in
set_option maxHeartbeats 4000000 in
theorem t_J5_append_c97b9 {g : zF} (hl0 : g.2.2.2.1.stackTraces = false) {Q : zR × zS → Prop}   {a0 a1 : Int} {σ : zS} (h : zo (f_J5_append_c97b9  a0 a1 σ) Q) : zw g Y_J5_append_c97b9 R_J5_append_c97b9 0 [(0, (4, a0)), (1, (0, a1))] [] σ 1 1024 Q := by
  unfold f_J5_append_c97b9 at h
  refine r_aload_n 0 dJ5_append_c97b9_0 rfl ?_
  refine r_getf fd_J5_79 rfl dJ5_append_c97b9_1 h (fun x1 h => ?_)
  refine r_istore_n (L' := [(2, (0, x1)), (0, (4, a0)), (1, (0, a1))]) dJ5_append_c97b9_4 (by decide) rfl ?_
  refine r_iload_n 0 dJ5_append_c97b9_5 rfl ?_
  refine r_iload_n 2 dJ5_append_c97b9_6 rfl ?_
  refine r_callS (K' := Y_J6_stringSize_0f7a4) (R' := R_J6_stringSize_0f7a4) (idx := 245) (n := 1) (as := [(0, a1)]) (rest := [(0, x1)]) (C' := 1) (D' := 1024) rfl k0_J6_stringSize_0f7a4 wd_502 kl_J5_245 ⟨by decide, by decide⟩ dJ5_append_c97b9_7 rfl rfl (Nat.le_of_ble_eq_true rfl) (by decide) (by decide) h (fun r hr => m_J6_stringSize_0f7a4 hl0 ⟨r, hr, hr⟩) (fun x2 τ3 _ h => ?_)
  refine r_iadd dJ5_append_c97b9_10 ?_
  refine r_istore_n (L' := [(3, (0, (w32 (x1 + x2)))), (2, (0, x1)), (0, (4, a0)), (1, (0, a1))]) dJ5_append_c97b9_11 (by decide) rfl ?_
  refine r_aload_n 2 dJ5_append_c97b9_12 rfl ?_
  refine r_iload_n 0 dJ5_append_c97b9_13 rfl ?_
  refine r_callP (K' := Y_J5_ensureCapacityInternal_d00df) (R' := R_J5_ensureCapacityInternal_d00df) (idx := 100) (n := 1) (b := a0) (as := [(0, (w32 (x1 + x2)))]) (rest := []) (C' := 0) (D' := 0) (cn := 8) (CN := "java/lang/StringBuilder") rfl k0_J5_ensureCapacityInternal_d00df kP_J5_ensureCapacityInternal_d00df kl_J5_100 ⟨by decide, by decide⟩ dJ5_append_c97b9_14 rfl rfl (Nat.le_of_ble_eq_true rfl) (by decide) (by decide) rfl h (fun r hr => m_J5_ensureCapacityInternal_d00df hl0 ⟨r, hr, hr⟩) (fun _ τ5 _ h => ?_)
  refine r_aload_n 2 dJ5_append_c97b9_17 rfl ?_
  refine r_callP (K' := Y_J5_isLatin1_aae02) (R' := R_J5_isLatin1_aae02) (idx := 83) (n := 0) (b := a0) (as := []) (rest := []) (C' := 0) (D' := 0) (cn := 8) (CN := "java/lang/StringBuilder") rfl k0_J5_isLatin1_aae02 kP_J5_isLatin1_aae02 kl_J5_83 ⟨by decide, by decide⟩ dJ5_append_c97b9_18 rfl rfl (Nat.le_of_ble_eq_true rfl) (by decide) (by decide) rfl h (fun r hr => m_J5_isLatin1_aae02 hl0 ⟨r, hr, hr⟩) (fun x6 τ7 _ h => ?_)
  refine r_if_eq 37 dJ5_append_c97b9_21 (by decide) h (fun h => ?_) (fun h => ?_)
  · obtain ⟨r, h, -⟩ := h
    cases h
  · refine r_iload_n 3 dJ5_append_c97b9_24 rfl ?_
    refine r_iload_n 0 dJ5_append_c97b9_25 rfl ?_
    refine r_aload_n 2 dJ5_append_c97b9_26 rfl ?_
    refine r_getr fd_J5_15 rfl dJ5_append_c97b9_27 h (fun x8 h => ?_)
    refine r_callS (K' := Y_J6_getChars_ba4f3) (R' := R_J6_getChars_ba4f3) (idx := 248) (n := 3) (as := [(0, a1), (0, (w32 (x1 + x2))), (4, x8)]) (rest := []) (C' := 0) (D' := 0) rfl k0_J6_getChars_ba4f3 wd_505 kl_J5_248 ⟨by decide, by decide⟩ dJ5_append_c97b9_30 rfl rfl (Nat.le_of_ble_eq_true rfl) (by decide) (by decide) h (fun r hr => m_J6_getChars_ba4f3 hl0 ⟨r, hr, hr⟩) (fun x9 τ10 _ h => ?_)
    refine r_pop dJ5_append_c97b9_33 rfl ?_
    refine r_goto 48 dJ5_append_c97b9_34 (by decide) ?_
    refine r_aload_n 2 dJ5_append_c97b9_48 rfl ?_
    refine r_iload_n 0 dJ5_append_c97b9_49 rfl ?_
    refine r_putf fd_J5_79 fp_J5_append_c97b9_79 dJ5_append_c97b9_50 h (fun τ11 h => ?_)
    refine r_aload_n 2 dJ5_append_c97b9_53 rfl ?_
    exact r_aret rfl dJ5_append_c97b9_54 h
theorem m_J5_append_c97b9 {g : zF} (hl0 : g.2.2.2.1.stackTraces = false) {Q : zR × zS → Prop} {a0 a1 : Int} {σ : zS} (h : zo (f_J5_append_c97b9 a0 a1 σ) Q) : zm g Y_J5_append_c97b9 R_J5_append_c97b9 [(4, a0), (0, a1)] σ Q := zm_of (by decide) rfl (Nat.le_of_ble_eq_true rfl) (t_J5_append_c97b9 hl0 h)


/- J4_append_bf812 -/

set_option maxRecDepth 100000 in
set_option maxHeartbeats 4000000 in
theorem t_J4_append_bf812 {g : zF} (hl0 : g.2.2.2.1.stackTraces = false) {Q : zR × zS → Prop}   {a0 a1 : Int} {σ : zS} (h : zo (f_J4_append_bf812  a0 a1 σ) Q) : zw g Y_J4_append_bf812 R_J4_append_bf812 0 [(0, (4, a0)), (1, (0, a1))] [] σ 1 1024 Q := by
  unfold f_J4_append_bf812 at h
  refine r_aload_n 0 dJ4_append_bf812_0 rfl ?_
  refine r_iload_n 1 dJ4_append_bf812_1 rfl ?_
  refine r_callSU (K' := Y_J5_append_c97b9) (R' := R_J5_append_c97b9) (idx := 53) (n := 1) (b := a0) (as := [(0, a1)]) (rest := []) (C' := 0) (D' := 0) (cn := 8) (CN := "java/lang/StringBuilder") rfl k0_J5_append_c97b9 kS_J4_53 lS_J4_53 ⟨by decide, by decide⟩ dJ4_append_bf812_2 rfl rfl (Nat.le_of_ble_eq_true rfl) (by decide) (by decide) rfl h (fun r hr => m_J5_append_c97b9 hl0 ⟨r, hr, hr⟩) (fun x1 τ2 _ h => ?_)
  refine r_pop dJ4_append_bf812_5 rfl ?_
  refine r_aload_n 0 dJ4_append_bf812_6 rfl ?_
  exact r_aret rfl dJ4_append_bf812_7 h
theorem m_J4_append_bf812 {g : zF} (hl0 : g.2.2.2.1.stackTraces = false) {Q : zR × zS → Prop} {a0 a1 : Int} {σ : zS} (h : zo (f_J4_append_bf812 a0 a1 σ) Q) : zm g Y_J4_append_bf812 R_J4_append_bf812 [(4, a0), (0, a1)] σ Q := zm_of (by decide) rfl (Nat.le_of_ble_eq_true rfl) (t_J4_append_bf812 hl0 h)


/- J1_canEncode_fc78d -/

set_option maxRecDepth 100000 in
set_option maxHeartbeats 4000000 in
theorem t_J1_canEncode_fc78d {g : zF} (hl0 : g.2.2.2.1.stackTraces = false) {Q : zR × zS → Prop}   {a0 : Int} {σ : zS} (h : zo (f_J1_canEncode_fc78d  a0 σ) Q) : zw g Y_J1_canEncode_fc78d R_J1_canEncode_fc78d 0 [(0, (0, a0))] [] σ 0 0 Q := by
  unfold f_J1_canEncode_fc78d at h
  refine r_iload_n 0 dJ1_canEncode_fc78d_0 rfl ?_
  refine r_sipush (v := 255) dJ1_canEncode_fc78d_1 rfl rfl ?_
  refine r_icmp_gt 11 dJ1_canEncode_fc78d_4 (by decide) h (fun h => ?_) (fun h => ?_)
  · refine r_iconst (v := 0) dJ1_canEncode_fc78d_11 rfl rfl ?_
    exact r_zretc (by decide) rfl dJ1_canEncode_fc78d_12 h
  · refine r_iconst (v := 1) dJ1_canEncode_fc78d_7 rfl rfl ?_
    refine r_goto 12 dJ1_canEncode_fc78d_8 (by decide) ?_
    exact r_zretc (by decide) rfl dJ1_canEncode_fc78d_12 h
theorem m_J1_canEncode_fc78d {g : zF} (hl0 : g.2.2.2.1.stackTraces = false) {Q : zR × zS → Prop} {a0 : Int} {σ : zS} (h : zo (f_J1_canEncode_fc78d a0 σ) Q) : zm g Y_J1_canEncode_fc78d R_J1_canEncode_fc78d [(0, a0)] σ Q := zm_of (by decide) rfl (Nat.le_of_ble_eq_true rfl) (t_J1_canEncode_fc78d hl0 h)


/- J5_append_3fe6f -/

set_option maxRecDepth 100000 in
set_option maxHeartbeats 4000000 in
theorem t_J5_append_3fe6f {g : zF} (hl0 : g.2.2.2.1.stackTraces = false) {Q : zR × zS → Prop}   {a0 a1 : Int} {σ : zS} (h : zo (f_J5_append_3fe6f  a0 a1 σ) Q) : zw g Y_J5_append_3fe6f R_J5_append_3fe6f 0 [(0, (4, a0)), (1, (0, a1))] [] σ 1 1024 Q := by
  unfold f_J5_append_3fe6f at h
  refine r_aload_n 0 dJ5_append_3fe6f_0 rfl ?_
  refine r_aload_n 0 dJ5_append_3fe6f_1 rfl ?_
  refine r_getf fd_J5_79 rfl dJ5_append_3fe6f_2 h (fun x1 h => ?_)
  refine r_iconst (v := 1) dJ5_append_3fe6f_5 rfl rfl ?_
  refine r_iadd dJ5_append_3fe6f_6 ?_
  refine r_callP (K' := Y_J5_ensureCapacityInternal_d00df) (R' := R_J5_ensureCapacityInternal_d00df) (idx := 100) (n := 1) (b := a0) (as := [(0, (w32 (x1 + 1)))]) (rest := []) (C' := 0) (D' := 0) (cn := 8) (CN := "java/lang/StringBuilder") rfl k0_J5_ensureCapacityInternal_d00df kP_J5_ensureCapacityInternal_d00df kl_J5_100 ⟨by decide, by decide⟩ dJ5_append_3fe6f_7 rfl rfl (Nat.le_of_ble_eq_true rfl) (by decide) (by decide) rfl h (fun r hr => m_J5_ensureCapacityInternal_d00df hl0 ⟨r, hr, hr⟩) (fun _ τ3 _ h => ?_)
  refine r_aload_n 0 dJ5_append_3fe6f_10 rfl ?_
  refine r_callP (K' := Y_J5_isLatin1_aae02) (R' := R_J5_isLatin1_aae02) (idx := 83) (n := 0) (b := a0) (as := []) (rest := []) (C' := 0) (D' := 0) (cn := 8) (CN := "java/lang/StringBuilder") rfl k0_J5_isLatin1_aae02 kP_J5_isLatin1_aae02 kl_J5_83 ⟨by decide, by decide⟩ dJ5_append_3fe6f_11 rfl rfl (Nat.le_of_ble_eq_true rfl) (by decide) (by decide) rfl h (fun r hr => m_J5_isLatin1_aae02 hl0 ⟨r, hr, hr⟩) (fun x4 τ5 _ h => ?_)
  refine r_if_eq 45 dJ5_append_3fe6f_14 (by decide) h (fun h => ?_) (fun h => ?_)
  · obtain ⟨r, h, -⟩ := h
    cases h
  · refine r_iload_n 1 dJ5_append_3fe6f_17 rfl ?_
    refine r_callS (K' := Y_J1_canEncode_fc78d) (R' := R_J1_canEncode_fc78d) (idx := 191) (n := 1) (as := [(0, a1)]) (rest := []) (C' := 0) (D' := 0) rfl k0_J1_canEncode_fc78d wd_534 kl_J5_191 ⟨by decide, by decide⟩ dJ5_append_3fe6f_18 rfl rfl (Nat.le_of_ble_eq_true rfl) (by decide) (by decide) h (fun r hr => m_J1_canEncode_fc78d hl0 ⟨r, hr, hr⟩) (fun x6 τ7 _ h => ?_)
    refine r_if_eq 45 dJ5_append_3fe6f_21 (by decide) h (fun h => ?_) (fun h => ?_)
    · obtain ⟨r, h, -⟩ := h
      cases h
    · refine r_aload_n 0 dJ5_append_3fe6f_24 rfl ?_
      refine r_getr fd_J5_15 rfl dJ5_append_3fe6f_25 h (fun x8 h => ?_)
      refine r_aload_n 0 dJ5_append_3fe6f_28 rfl ?_
      refine r_dup dJ5_append_3fe6f_29 rfl ?_
      refine r_getf fd_J5_79 rfl dJ5_append_3fe6f_30 h (fun x9 h => ?_)
      refine r_dup_x1 dJ5_append_3fe6f_33 rfl rfl ?_
      refine r_iconst (v := 1) dJ5_append_3fe6f_34 rfl rfl ?_
      refine r_iadd dJ5_append_3fe6f_35 ?_
      refine r_putf fd_J5_79 fp_J5_append_3fe6f_79 dJ5_append_3fe6f_36 h (fun τ10 h => ?_)
      refine r_iload_n 1 dJ5_append_3fe6f_39 rfl ?_
      refine r_i2b dJ5_append_3fe6f_40 ?_
      refine r_bast dJ5_append_3fe6f_41 h (fun τ11 h => ?_)
      refine r_goto 75 dJ5_append_3fe6f_42 (by decide) ?_
      refine r_aload_n 0 dJ5_append_3fe6f_75 rfl ?_
      exact r_aret rfl dJ5_append_3fe6f_76 h
theorem m_J5_append_3fe6f {g : zF} (hl0 : g.2.2.2.1.stackTraces = false) {Q : zR × zS → Prop} {a0 a1 : Int} {σ : zS} (h : zo (f_J5_append_3fe6f a0 a1 σ) Q) : zm g Y_J5_append_3fe6f R_J5_append_3fe6f [(4, a0), (0, a1)] σ Q := zm_of (by decide) rfl (Nat.le_of_ble_eq_true rfl) (t_J5_append_3fe6f hl0 h)


/- J4_append_cf468 -/

set_option maxRecDepth 100000 in
set_option maxHeartbeats 4000000 in
theorem t_J4_append_cf468 {g : zF} (hl0 : g.2.2.2.1.stackTraces = false) {Q : zR × zS → Prop}   {a0 a1 : Int} {σ : zS} (h : zo (f_J4_append_cf468  a0 a1 σ) Q) : zw g Y_J4_append_cf468 R_J4_append_cf468 0 [(0, (4, a0)), (1, (0, a1))] [] σ 1 1024 Q := by
  unfold f_J4_append_cf468 at h
  refine r_aload_n 0 dJ4_append_cf468_0 rfl ?_
  refine r_iload_n 1 dJ4_append_cf468_1 rfl ?_
  refine r_callSU (K' := Y_J5_append_3fe6f) (R' := R_J5_append_3fe6f) (idx := 50) (n := 1) (b := a0) (as := [(0, a1)]) (rest := []) (C' := 0) (D' := 0) (cn := 8) (CN := "java/lang/StringBuilder") rfl k0_J5_append_3fe6f kS_J4_50 lS_J4_50 ⟨by decide, by decide⟩ dJ4_append_cf468_2 rfl rfl (Nat.le_of_ble_eq_true rfl) (by decide) (by decide) rfl h (fun r hr => m_J5_append_3fe6f hl0 ⟨r, hr, hr⟩) (fun x1 τ2 _ h => ?_)
  refine r_pop dJ4_append_cf468_5 rfl ?_
  refine r_aload_n 0 dJ4_append_cf468_6 rfl ?_
  exact r_aret rfl dJ4_append_cf468_7 h
theorem m_J4_append_cf468 {g : zF} (hl0 : g.2.2.2.1.stackTraces = false) {Q : zR × zS → Prop} {a0 a1 : Int} {σ : zS} (h : zo (f_J4_append_cf468 a0 a1 σ) Q) : zm g Y_J4_append_cf468 R_J4_append_cf468 [(4, a0), (0, a1)] σ Q := zm_of (by decide) rfl (Nat.le_of_ble_eq_true rfl) (t_J4_append_cf468 hl0 h)


/- J5_length_8abf5 -/

set_option maxRecDepth 100000 in
set_option maxHeartbeats 4000000 in
theorem t_J5_length_8abf5 {g : zF} (hl0 : g.2.2.2.1.stackTraces = false) {Q : zR × zS → Prop}   {a0 : Int} {σ : zS} (h : zo (f_J5_length_8abf5  a0 σ) Q) : zw g Y_J5_length_8abf5 R_J5_length_8abf5 0 [(0, (4, a0))] [] σ 0 0 Q := by
  unfold f_J5_length_8abf5 at h
  refine r_aload_n 0 dJ5_length_8abf5_0 rfl ?_
  refine r_getf fd_J5_79 rfl dJ5_length_8abf5_1 h (fun x1 h => ?_)
  exact r_iret rfl dJ5_length_8abf5_4 h
theorem m_J5_length_8abf5 {g : zF} (hl0 : g.2.2.2.1.stackTraces = false) {Q : zR × zS → Prop} {a0 : Int} {σ : zS} (h : zo (f_J5_length_8abf5 a0 σ) Q) : zm g Y_J5_length_8abf5 R_J5_length_8abf5 [(4, a0)] σ Q := zm_of (by decide) rfl (Nat.le_of_ble_eq_true rfl) (t_J5_length_8abf5 hl0 h)


/- J4_length_8abf5 -/

set_option maxRecDepth 100000 in
set_option maxHeartbeats 4000000 in
theorem t_J4_length_8abf5 {g : zF} (hl0 : g.2.2.2.1.stackTraces = false) {Q : zR × zS → Prop}   {a0 : Int} {σ : zS} (h : zo (f_J4_length_8abf5  a0 σ) Q) : zw g Y_J4_length_8abf5 R_J4_length_8abf5 0 [(0, (4, a0))] [] σ 0 0 Q := by
  unfold f_J4_length_8abf5 at h
  refine r_aload_n 0 dJ4_length_8abf5_0 rfl ?_
  refine r_callSU (K' := Y_J5_length_8abf5) (R' := R_J5_length_8abf5) (idx := 343) (n := 0) (b := a0) (as := []) (rest := []) (C' := 0) (D' := 0) (cn := 8) (CN := "java/lang/StringBuilder") rfl k0_J5_length_8abf5 kS_J4_343 lS_J4_343 ⟨by decide, by decide⟩ dJ4_length_8abf5_1 rfl rfl (Nat.le_of_ble_eq_true rfl) (by decide) (by decide) rfl h (fun r hr => m_J5_length_8abf5 hl0 ⟨r, hr, hr⟩) (fun x1 τ2 _ h => ?_)
  exact r_iret rfl dJ4_length_8abf5_4 h
theorem m_J4_length_8abf5 {g : zF} (hl0 : g.2.2.2.1.stackTraces = false) {Q : zR × zS → Prop} {a0 : Int} {σ : zS} (h : zo (f_J4_length_8abf5 a0 σ) Q) : zm g Y_J4_length_8abf5 R_J4_length_8abf5 [(4, a0)] σ Q := zm_of (by decide) rfl (Nat.le_of_ble_eq_true rfl) (t_J4_length_8abf5 hl0 h)


/- J5_getValue_6d5f1 -/

set_option maxRecDepth 100000 in
set_option maxHeartbeats 4000000 in
theorem t_J5_getValue_6d5f1 {g : zF} (hl0 : g.2.2.2.1.stackTraces = false) {Q : zR × zS → Prop}   {a0 : Int} {σ : zS} (h : zo (f_J5_getValue_6d5f1  a0 σ) Q) : zw g Y_J5_getValue_6d5f1 R_J5_getValue_6d5f1 0 [(0, (4, a0))] [] σ 0 0 Q := by
  unfold f_J5_getValue_6d5f1 at h
  refine r_aload_n 0 dJ5_getValue_6d5f1_0 rfl ?_
  refine r_getr fd_J5_15 rfl dJ5_getValue_6d5f1_1 h (fun x1 h => ?_)
  exact r_aretA rfl dJ5_getValue_6d5f1_4 h
theorem m_J5_getValue_6d5f1 {g : zF} (hl0 : g.2.2.2.1.stackTraces = false) {Q : zR × zS → Prop} {a0 : Int} {σ : zS} (h : zo (f_J5_getValue_6d5f1 a0 σ) Q) : zm g Y_J5_getValue_6d5f1 R_J5_getValue_6d5f1 [(4, a0)] σ Q := zm_of (by decide) rfl (Nat.le_of_ble_eq_true rfl) (t_J5_getValue_6d5f1 hl0 h)


/- J7_checkLength_df160 -/

set_option maxRecDepth 100000 in
set_option maxHeartbeats 4000000 in
theorem t_J7_checkLength_df160 {g : zF} (hl0 : g.2.2.2.1.stackTraces = false) {Q : zR × zS → Prop}   {a0 a1 : Int} {σ : zS} (h : zo (f_J7_checkLength_df160  a0 a1 σ) Q) : zw g Y_J7_checkLength_df160 R_J7_checkLength_df160 0 [(0, (0, a0)), (1, (0, a1))] [] σ 0 0 Q := by
  unfold f_J7_checkLength_df160 at h
  refine r_iload_n 1 dJ7_checkLength_df160_0 rfl ?_
  refine r_iload_n 0 dJ7_checkLength_df160_1 rfl ?_
  refine r_icmp_ge 37 dJ7_checkLength_df160_2 (by decide) h (fun h => ?_) (fun h => ?_)
  · exact r_vret rfl dJ7_checkLength_df160_37 h
  · obtain ⟨r, h, -⟩ := h
    cases h
theorem m_J7_checkLength_df160 {g : zF} (hl0 : g.2.2.2.1.stackTraces = false) {Q : zR × zS → Prop} {a0 a1 : Int} {σ : zS} (h : zo (f_J7_checkLength_df160 a0 a1 σ) Q) : zm g Y_J7_checkLength_df160 R_J7_checkLength_df160 [(0, a0), (0, a1)] σ Q := zm_of (by decide) rfl (Nat.le_of_ble_eq_true rfl) (t_J7_checkLength_df160 hl0 h)


/- J7_copyOfRangeByte_39247 -/

set_option maxRecDepth 100000 in
set_option maxHeartbeats 4000000 in
theorem t_J7_copyOfRangeByte_39247 {g : zF} (hl0 : g.2.2.2.1.stackTraces = false) {Q : zR × zS → Prop}   {a0 a1 a2 : Int} {σ : zS} (h : zo (f_J7_copyOfRangeByte_39247  a0 a1 a2 σ) Q) : zw g Y_J7_copyOfRangeByte_39247 R_J7_copyOfRangeByte_39247 0 [(0, (4, a0)), (1, (0, a1)), (2, (0, a2))] [] σ 1 1024 Q := by
  unfold f_J7_copyOfRangeByte_39247 at h
  refine r_iload_n 1 dJ7_copyOfRangeByte_39247_0 rfl ?_
  refine r_iload_n 2 dJ7_copyOfRangeByte_39247_1 rfl ?_
  refine r_callS (K' := Y_J7_checkLength_df160) (R' := R_J7_checkLength_df160) (idx := 343) (n := 2) (as := [(0, a1), (0, a2)]) (rest := []) (C' := 1) (D' := 1024) rfl k0_J7_checkLength_df160 wd_589 kl_J7_343 ⟨by decide, by decide⟩ dJ7_copyOfRangeByte_39247_2 rfl rfl (Nat.le_of_ble_eq_true rfl) (by decide) (by decide) h (fun r hr => m_J7_checkLength_df160 hl0 ⟨r, hr, hr⟩) (fun _ τ2 _ h => ?_)
  refine r_iload_n 2 dJ7_copyOfRangeByte_39247_5 rfl ?_
  refine r_iload_n 1 dJ7_copyOfRangeByte_39247_6 rfl ?_
  refine r_isub dJ7_copyOfRangeByte_39247_7 ?_
  refine r_istore_n (L' := [(3, (0, (w32 (a2 - a1)))), (0, (4, a0)), (1, (0, a1)), (2, (0, a2))]) dJ7_copyOfRangeByte_39247_8 (by decide) rfl ?_
  refine r_iload_n 0 dJ7_copyOfRangeByte_39247_9 rfl ?_
  refine r_newa2 (C' := 0) (D' := 0) (N := 1024) wd_128 dJ7_copyOfRangeByte_39247_10 (by decide) (by decide) (by decide) h (fun x3 τ4 h => ?_)
  refine r_astore (L' := [(4, (4, x3)), (3, (0, (w32 (a2 - a1)))), (0, (4, a0)), (1, (0, a1)), (2, (0, a2))]) dJ7_copyOfRangeByte_39247_12 (by decide) rfl ?_
  refine r_aload_n 2 dJ7_copyOfRangeByte_39247_14 rfl ?_
  refine r_iload_n 3 dJ7_copyOfRangeByte_39247_15 rfl ?_
  refine r_aload 0 dJ7_copyOfRangeByte_39247_16 rfl ?_
  refine r_iconst (v := 0) dJ7_copyOfRangeByte_39247_18 rfl rfl ?_
  refine r_aload_n 2 dJ7_copyOfRangeByte_39247_19 rfl ?_
  refine r_alen dJ7_copyOfRangeByte_39247_20 h (fun x5 h => ?_)
  refine r_iload_n 3 dJ7_copyOfRangeByte_39247_21 rfl ?_
  refine r_isub dJ7_copyOfRangeByte_39247_22 ?_
  refine r_iload_n 1 dJ7_copyOfRangeByte_39247_23 rfl ?_
  refine r_mmin mq_J7_304 ⟨by decide, Nat.le_of_ble_eq_true rfl⟩ rfl dJ7_copyOfRangeByte_39247_24 ?_
  refine r_acopyB ac_J7_150 ⟨by decide, Nat.le_of_ble_eq_true rfl⟩ dJ7_copyOfRangeByte_39247_27 h (fun τ6 h => ?_)
  refine r_aload 0 dJ7_copyOfRangeByte_39247_30 rfl ?_
  exact r_aretA rfl dJ7_copyOfRangeByte_39247_32 h
theorem m_J7_copyOfRangeByte_39247 {g : zF} (hl0 : g.2.2.2.1.stackTraces = false) {Q : zR × zS → Prop} {a0 a1 a2 : Int} {σ : zS} (h : zo (f_J7_copyOfRangeByte_39247 a0 a1 a2 σ) Q) : zm g Y_J7_copyOfRangeByte_39247 R_J7_copyOfRangeByte_39247 [(4, a0), (0, a1), (0, a2)] σ Q := zm_of (by decide) rfl (Nat.le_of_ble_eq_true rfl) (t_J7_copyOfRangeByte_39247 hl0 h)


/- J7_copyOfRange_39247 -/

set_option maxRecDepth 100000 in
set_option maxHeartbeats 4000000 in
theorem t_J7_copyOfRange_39247 {g : zF} (hl0 : g.2.2.2.1.stackTraces = false) {Q : zR × zS → Prop}   {a0 a1 a2 : Int} {σ : zS} (h : zo (f_J7_copyOfRange_39247  a0 a1 a2 σ) Q) : zw g Y_J7_copyOfRange_39247 R_J7_copyOfRange_39247 0 [(0, (4, a0)), (1, (0, a1)), (2, (0, a2))] [] σ 1 1024 Q := by
  unfold f_J7_copyOfRange_39247 at h
  refine r_iload_n 1 dJ7_copyOfRange_39247_0 rfl ?_
  refine r_if_ne 10 dJ7_copyOfRange_39247_1 (by decide) h (fun h => ?_) (fun h => ?_)
  · refine r_room (C' := 0) (D' := 0) (by omega) (by omega) ?_
    obtain ⟨r, h, -⟩ := h
    cases h
  · refine r_iload_n 2 dJ7_copyOfRange_39247_4 rfl ?_
    refine r_aload_n 0 dJ7_copyOfRange_39247_5 rfl ?_
    refine r_alen dJ7_copyOfRange_39247_6 h (fun x1 h => ?_)
    refine r_icmp_eq 17 dJ7_copyOfRange_39247_7 (by decide) h (fun h => ?_) (fun h => ?_)
    · refine r_aload_n 0 dJ7_copyOfRange_39247_17 rfl ?_
      refine r_clone (C' := 0) (D' := 0) (N := 1024) cl_J7_310 ⟨by decide, Nat.le_of_ble_eq_true rfl⟩ dJ7_copyOfRange_39247_18 (by decide) (by decide) (by decide) h (fun x2 τ3 h => ?_)
      refine r_castC wd_410 dJ7_copyOfRange_39247_21 h (fun h => ?_)
      exact r_aretA rfl dJ7_copyOfRange_39247_24 h
    · refine r_aload_n 0 dJ7_copyOfRange_39247_10 rfl ?_
      refine r_iload_n 1 dJ7_copyOfRange_39247_11 rfl ?_
      refine r_iload_n 2 dJ7_copyOfRange_39247_12 rfl ?_
      refine r_callS (K' := Y_J7_copyOfRangeByte_39247) (R' := R_J7_copyOfRangeByte_39247) (idx := 339) (n := 3) (as := [(4, a0), (0, a1), (0, a2)]) (rest := []) (C' := 0) (D' := 0) rfl k0_J7_copyOfRangeByte_39247 wd_586 kl_J7_339 ⟨by decide, by decide⟩ dJ7_copyOfRange_39247_13 rfl rfl (Nat.le_of_ble_eq_true rfl) (by decide) (by decide) h (fun r hr => m_J7_copyOfRangeByte_39247 hl0 ⟨r, hr, hr⟩) (fun x4 τ5 _ h => ?_)
      exact r_aretA rfl dJ7_copyOfRange_39247_16 h
theorem m_J7_copyOfRange_39247 {g : zF} (hl0 : g.2.2.2.1.stackTraces = false) {Q : zR × zS → Prop} {a0 a1 a2 : Int} {σ : zS} (h : zo (f_J7_copyOfRange_39247 a0 a1 a2 σ) Q) : zm g Y_J7_copyOfRange_39247 R_J7_copyOfRange_39247 [(4, a0), (0, a1), (0, a2)] σ Q := zm_of (by decide) rfl (Nat.le_of_ble_eq_true rfl) (t_J7_copyOfRange_39247 hl0 h)


/- J0_init_db425 -/

set_option maxRecDepth 100000 in
set_option maxHeartbeats 4000000 in
theorem t_J0_init_db425 {g : zF} (hl0 : g.2.2.2.1.stackTraces = false) {Q : zR × zS → Prop}   {a0 a1 a2 : Int} {σ : zS} (h : zo (f_J0_init_db425  a0 a1 a2 σ) Q) : zw g Y_J0_init_db425 R_J0_init_db425 0 [(0, (4, a0)), (1, (4, a1)), (2, (4, a2))] [] σ 1 1024 Q := by
  unfold f_J0_init_db425 at h
  refine r_aload_n 0 dJ0_init_db425_0 rfl ?_
  refine r_objinit oi_J0_1 ⟨by decide, Nat.le_of_ble_eq_true rfl⟩ dJ0_init_db425_1 h (fun h => ?_)
  refine r_aload_n 1 dJ0_init_db425_4 rfl ?_
  refine r_callP (K' := Y_J5_getValue_6d5f1) (R' := R_J5_getValue_6d5f1) (idx := 552) (n := 0) (b := a1) (as := []) (rest := []) (C' := 1) (D' := 1024) (cn := 8) (CN := "java/lang/StringBuilder") rfl k0_J5_getValue_6d5f1 kP_J5_getValue_6d5f1 kl_J0_552 ⟨by decide, by decide⟩ dJ0_init_db425_5 rfl rfl (Nat.le_of_ble_eq_true rfl) (by decide) (by decide) rfl h (fun r hr => m_J5_getValue_6d5f1 hl0 ⟨r, hr, hr⟩) (fun x1 τ2 _ h => ?_)
  refine r_astore_n (L' := [(3, (4, x1)), (0, (4, a0)), (1, (4, a1)), (2, (4, a2))]) dJ0_init_db425_8 (by decide) rfl ?_
  refine r_aload_n 2 dJ0_init_db425_9 rfl ?_
  refine r_callU (K' := Y_J4_length_8abf5) (R' := R_J4_length_8abf5) (idx := 549) (n := 0) (b := a1) (as := []) (rest := []) (C' := 1) (D' := 1024) (cn := 8) (CN := "java/lang/StringBuilder") (ow := "java/lang/AbstractStringBuilder") (xn := ⟨"java/lang/AbstractStringBuilder", "length", "()I"⟩) rfl k0_J4_length_8abf5 kU_J0_549 lU_J0_549 ⟨by decide, by decide⟩ dJ0_init_db425_10 rfl rfl (Nat.le_of_ble_eq_true rfl) (by decide) (by decide) rfl h (fun r hr => m_J4_length_8abf5 hl0 ⟨r, hr, hr⟩) (fun x3 τ4 _ h => ?_)
  refine r_istore (L' := [(4, (0, x3)), (3, (4, x1)), (0, (4, a0)), (1, (4, a1)), (2, (4, a2))]) dJ0_init_db425_13 (by decide) rfl ?_
  refine r_aload_n 3 dJ0_init_db425_15 rfl ?_
  refine r_callP (K' := Y_J5_isLatin1_aae02) (R' := R_J5_isLatin1_aae02) (idx := 1047) (n := 0) (b := a1) (as := []) (rest := []) (C' := 1) (D' := 1024) (cn := 8) (CN := "java/lang/StringBuilder") rfl k0_J5_isLatin1_aae02 kP_J5_isLatin1_aae02 kl_J0_1047 ⟨by decide, by decide⟩ dJ0_init_db425_16 rfl rfl (Nat.le_of_ble_eq_true rfl) (by decide) (by decide) rfl h (fun r hr => m_J5_isLatin1_aae02 hl0 ⟨r, hr, hr⟩) (fun x5 τ6 _ h => ?_)
  refine r_if_eq 41 dJ0_init_db425_19 (by decide) h (fun h => ?_) (fun h => ?_)
  · refine r_room (C' := 0) (D' := 0) (by omega) (by omega) ?_
    obtain ⟨r, h, -⟩ := h
    cases h
  · refine r_aload_n 2 dJ0_init_db425_22 rfl ?_
    refine r_iconst (v := 0) dJ0_init_db425_23 rfl rfl ?_
    refine r_putB fd_J0_15 fp_J0_init_db425_15 dJ0_init_db425_24 h (fun τ7 h => ?_)
    refine r_aload_n 2 dJ0_init_db425_27 rfl ?_
    refine r_aload_n 1 dJ0_init_db425_28 rfl ?_
    refine r_iconst (v := 0) dJ0_init_db425_29 rfl rfl ?_
    refine r_iload 0 dJ0_init_db425_30 rfl ?_
    refine r_callS (K' := Y_J7_copyOfRange_39247) (R' := R_J7_copyOfRange_39247) (idx := 54) (n := 3) (as := [(4, x1), (0, 0), (0, x3)]) (rest := [(4, a0)]) (C' := 0) (D' := 0) rfl k0_J7_copyOfRange_39247 wd_583 kl_J0_54 ⟨by decide, by decide⟩ dJ0_init_db425_32 rfl rfl (Nat.le_of_ble_eq_true rfl) (by decide) (by decide) h (fun r hr => m_J7_copyOfRange_39247 hl0 ⟨r, hr, hr⟩) (fun x8 τ9 _ h => ?_)
    refine r_putr fd_J0_9 fp_J0_init_db425_9 dJ0_init_db425_35 h (fun τ10 h => ?_)
    refine r_goto 97 dJ0_init_db425_38 (by decide) ?_
    exact r_vret rfl dJ0_init_db425_97 h
theorem m_J0_init_db425 {g : zF} (hl0 : g.2.2.2.1.stackTraces = false) {Q : zR × zS → Prop} {a0 a1 a2 : Int} {σ : zS} (h : zo (f_J0_init_db425 a0 a1 a2 σ) Q) : zm g Y_J0_init_db425 R_J0_init_db425 [(4, a0), (4, a1), (4, a2)] σ Q := zm_of (by decide) rfl (Nat.le_of_ble_eq_true rfl) (t_J0_init_db425 hl0 h)


/- J0_init_81219 -/

set_option maxRecDepth 100000 in
set_option maxHeartbeats 4000000 in
theorem t_J0_init_81219 {g : zF} (hl0 : g.2.2.2.1.stackTraces = false) {Q : zR × zS → Prop}   {a0 a1 : Int} {σ : zS} (h : zo (f_J0_init_81219  a0 a1 σ) Q) : zw g Y_J0_init_81219 R_J0_init_81219 0 [(0, (4, a0)), (1, (4, a1))] [] σ 1 1024 Q := by
  unfold f_J0_init_81219 at h
  refine r_aload_n 0 dJ0_init_81219_0 rfl ?_
  refine r_aload_n 1 dJ0_init_81219_1 rfl ?_
  refine r_null dJ0_init_81219_2 ?_
  obtain ⟨h0, h⟩ := zite_o h
  refine r_callI (K' := Y_J0_init_db425) (R' := R_J0_init_db425) (idx := 489) (n := 2) (b := a0) (as := [(4, a1), (4, (-1))]) (rest := []) (C' := 0) (D' := 0) rfl k0_J0_init_db425 kI_J0_init_db425 kl_J0_489 ⟨by decide, by decide⟩ dJ0_init_81219_3 rfl rfl (Nat.le_of_ble_eq_true rfl) (by decide) (by decide) h h0 (fun r hr => m_J0_init_db425 hl0 ⟨r, hr, hr⟩) (fun _ τ2 _ h => ?_)
  exact r_vret rfl dJ0_init_81219_6 h
theorem m_J0_init_81219 {g : zF} (hl0 : g.2.2.2.1.stackTraces = false) {Q : zR × zS → Prop} {a0 a1 : Int} {σ : zS} (h : zo (f_J0_init_81219 a0 a1 σ) Q) : zm g Y_J0_init_81219 R_J0_init_81219 [(4, a0), (4, a1)] σ Q := zm_of (by decide) rfl (Nat.le_of_ble_eq_true rfl) (t_J0_init_81219 hl0 h)


/- J4_toString_0e30d -/

set_option maxRecDepth 100000 in
set_option maxHeartbeats 4000000 in
theorem t_J4_toString_0e30d {g : zF} (hl0 : g.2.2.2.1.stackTraces = false) {Q : zR × zS → Prop}   {a0 : Int} {σ : zS} (h : zo (f_J4_toString_0e30d  a0 σ) Q) : zw g Y_J4_toString_0e30d R_J4_toString_0e30d 0 [(0, (4, a0))] [] σ 2 1028 Q := by
  unfold f_J4_toString_0e30d at h
  refine r_new (C' := 1) (D' := 1024) nw_J4_18 dJ4_toString_0e30d_0 (by decide) (by decide) h (fun x1 τ2 h => ?_)
  refine r_dup dJ4_toString_0e30d_3 rfl ?_
  refine r_aload_n 0 dJ4_toString_0e30d_4 rfl ?_
  obtain ⟨h0, h⟩ := zite_o h
  refine r_callI (K' := Y_J0_init_81219) (R' := R_J0_init_81219) (idx := 137) (n := 1) (b := x1) (as := [(4, a0)]) (rest := [(4, x1)]) (C' := 0) (D' := 0) rfl k0_J0_init_81219 kI_J0_init_81219 kl_J4_137 ⟨by decide, by decide⟩ dJ4_toString_0e30d_5 rfl rfl (Nat.le_of_ble_eq_true rfl) (by decide) (by decide) h h0 (fun r hr => m_J0_init_81219 hl0 ⟨r, hr, hr⟩) (fun _ τ4 _ h => ?_)
  exact r_aret rfl dJ4_toString_0e30d_8 h
theorem m_J4_toString_0e30d {g : zF} (hl0 : g.2.2.2.1.stackTraces = false) {Q : zR × zS → Prop} {a0 : Int} {σ : zS} (h : zo (f_J4_toString_0e30d a0 σ) Q) : zm g Y_J4_toString_0e30d R_J4_toString_0e30d [(4, a0)] σ Q := zm_of (by decide) rfl (Nat.le_of_ble_eq_true rfl) (t_J4_toString_0e30d hl0 h)


/- L_load -/

set_option maxRecDepth 100000 in
set_option maxHeartbeats 4000000 in
theorem t_L_load_431 {g : zF} (hl0 : g.2.2.2.1.stackTraces = false) {Q : zR × zS → Prop}   {a0 a1 a2 a3 a4 a5 : Int} {σ : zS} (h : zo (f_L_load_431 g  a0 a1 a2 a3 a4 a5 σ) Q) : zw g Y_L_load R_L_load 431 [(0, (4, a0)), (1, (6, a1)), (2, (0, a2)), (3, (0, a3)), (4, (4, a4)), (5, (0, a5))] [] σ 29 8348 Q := by
  unfold f_L_load_431 at h
  refine r_aload 4 dL_load_431 rfl ?_
  refine r_callV (K' := Y_J4_length_8abf5) (R' := R_J4_length_8abf5) (idx := 86) (n := 0) (b := a4) (as := []) (rest := []) (C' := 29) (D' := 8348) (cn := 8) rfl k0_J4_length_8abf5 kV_J4_length_8abf5 kl_L_86 ⟨by decide, by decide⟩ dL_load_433 rfl rfl (Nat.le_of_ble_eq_true rfl) (by decide) (by decide) rfl h (fun r hr => m_J4_length_8abf5 hl0 ⟨r, hr, hr⟩) (fun x1 τ2 _ h => ?_)
  refine r_sipush (v := 600) dL_load_436 rfl rfl ?_
  refine r_icmp_le 444 dL_load_439 (by decide) h (fun h => ?_) (fun h => ?_)
  · refine r_aload_n 0 dL_load_444 rfl ?_
    refine r_aload 4 dL_load_445 rfl ?_
    refine r_callV (K' := Y_J4_toString_0e30d) (R' := R_J4_toString_0e30d) (idx := 87) (n := 0) (b := a4) (as := []) (rest := [(4, a0)]) (C' := 27) (D' := 7320) (cn := 8) rfl k0_J4_toString_0e30d kV_J4_toString_0e30d kl_L_87 ⟨by decide, by decide⟩ dL_load_447 rfl rfl (Nat.le_of_ble_eq_true rfl) (by decide) (by decide) rfl h (fun r hr => m_J4_toString_0e30d hl0 ⟨r, hr, hr⟩) (fun x3 τ4 _ h => ?_)
    refine r_callS (K' := Y_L_feed) (R' := R_L_feed) (idx := 91) (n := 2) (as := [(4, a0), (4, x3)]) (rest := []) (C' := 27) (D' := 7320) rfl k0_L_feed wd_616 kl_L_91 ⟨by decide, by decide⟩ dL_load_450 rfl rfl (Nat.le_of_ble_eq_true rfl) (by decide) (by decide) h (fun r hr => m_L_feed hl0 ⟨r, hr, hr⟩) (fun _ τ6 _ h => ?_)
    refine r_aload_n 0 dL_load_453 rfl ?_
    refine r_callV (K' := Y_X7_load) (R' := R_X7_load) (idx := 95) (n := 0) (b := a0) (as := []) (rest := []) (C' := 0) (D' := 0) (cn := 7) rfl k0_X7_load kV_X7_load kl_L_95 ⟨by decide, by decide⟩ dL_load_454 rfl rfl (Nat.le_of_ble_eq_true rfl) (by decide) (by decide) rfl h (fun r hr => m_X7_load hl0 ⟨r, hr, hr⟩) (fun x7 τ8 _ h => ?_)
    refine r_iload_n 2 dL_load_457 rfl ?_
    refine r_icmp_ne 558 dL_load_458 (by decide) h (fun h => ?_) (fun h => ?_)
    · refine r_iconst (v := 0) dL_load_558 rfl rfl ?_
      exact r_zretc (by decide) rfl dL_load_559 h
    · refine r_aload_n 0 dL_load_461 rfl ?_
      refine r_callV (K' := Y_X7_errorCode) (R' := R_X7_errorCode) (idx := 98) (n := 0) (b := a0) (as := []) (rest := []) (C' := 0) (D' := 0) (cn := 7) rfl k0_X7_errorCode kV_X7_errorCode kl_L_98 ⟨by decide, by decide⟩ dL_load_462 rfl rfl (Nat.le_of_ble_eq_true rfl) (by decide) (by decide) rfl h (fun r hr => m_X7_errorCode hl0 ⟨r, hr, hr⟩) (fun x9 τ10 _ h => ?_)
      refine r_if_ne 558 dL_load_465 (by decide) h (fun h => ?_) (fun h => ?_)
      · refine r_iconst (v := 0) dL_load_558 rfl rfl ?_
        exact r_zretc (by decide) rfl dL_load_559 h
      · refine r_aload_n 0 dL_load_468 rfl ?_
        refine r_callV (K' := Y_X7_errorPosition) (R' := R_X7_errorPosition) (idx := 101) (n := 0) (b := a0) (as := []) (rest := []) (C' := 0) (D' := 0) (cn := 7) rfl k0_X7_errorPosition kV_X7_errorPosition kl_L_101 ⟨by decide, by decide⟩ dL_load_469 rfl rfl (Nat.le_of_ble_eq_true rfl) (by decide) (by decide) rfl h (fun r hr => m_X7_errorPosition hl0 ⟨r, hr, hr⟩) (fun x11 τ12 _ h => ?_)
        refine r_iconst (v := (-1)) dL_load_472 rfl rfl ?_
        refine r_icmp_ne 558 dL_load_473 (by decide) h (fun h => ?_) (fun h => ?_)
        · refine r_iconst (v := 0) dL_load_558 rfl rfl ?_
          exact r_zretc (by decide) rfl dL_load_559 h
        · refine r_aload_n 0 dL_load_476 rfl ?_
          refine r_iconst (v := 0) dL_load_477 rfl rfl ?_
          refine r_callV (K' := Y_X7_property) (R' := R_X7_property) (idx := 104) (n := 1) (b := a0) (as := [(0, 0)]) (rest := []) (C' := 0) (D' := 0) (cn := 7) rfl k0_X7_property kV_X7_property kl_L_104 ⟨by decide, by decide⟩ dL_load_478 rfl rfl (Nat.le_of_ble_eq_true rfl) (by decide) (by decide) rfl h (fun r hr => m_X7_property hl0 ⟨r, hr, hr⟩) (fun x13 τ14 _ h => ?_)
          refine r_iload_n 2 dL_load_481 rfl ?_
          refine r_icmp_ne 558 dL_load_482 (by decide) h (fun h => ?_) (fun h => ?_)
          · refine r_iconst (v := 0) dL_load_558 rfl rfl ?_
            exact r_zretc (by decide) rfl dL_load_559 h
          · refine r_aload_n 0 dL_load_485 rfl ?_
            refine r_iconst (v := 1) dL_load_486 rfl rfl ?_
            refine r_callV (K' := Y_X7_property) (R' := R_X7_property) (idx := 104) (n := 1) (b := a0) (as := [(0, 1)]) (rest := []) (C' := 0) (D' := 0) (cn := 7) rfl k0_X7_property kV_X7_property kl_L_104 ⟨by decide, by decide⟩ dL_load_487 rfl rfl (Nat.le_of_ble_eq_true rfl) (by decide) (by decide) rfl h (fun r hr => m_X7_property hl0 ⟨r, hr, hr⟩) (fun x15 τ16 _ h => ?_)
            refine r_iload_n 3 dL_load_490 rfl ?_
            refine r_icmp_ne 558 dL_load_491 (by decide) h (fun h => ?_) (fun h => ?_)
            · refine r_iconst (v := 0) dL_load_558 rfl rfl ?_
              exact r_zretc (by decide) rfl dL_load_559 h
            · refine r_aload_n 0 dL_load_494 rfl ?_
              refine r_iconst (v := 2) dL_load_495 rfl rfl ?_
              refine r_callV (K' := Y_X7_property) (R' := R_X7_property) (idx := 104) (n := 1) (b := a0) (as := [(0, 2)]) (rest := []) (C' := 0) (D' := 0) (cn := 7) rfl k0_X7_property kV_X7_property kl_L_104 ⟨by decide, by decide⟩ dL_load_496 rfl rfl (Nat.le_of_ble_eq_true rfl) (by decide) (by decide) rfl h (fun r hr => m_X7_property hl0 ⟨r, hr, hr⟩) (fun x17 τ18 _ h => ?_)
              refine r_if_ne 558 dL_load_499 (by decide) h (fun h => ?_) (fun h => ?_)
              · refine r_iconst (v := 0) dL_load_558 rfl rfl ?_
                exact r_zretc (by decide) rfl dL_load_559 h
              · refine r_aload_n 0 dL_load_502 rfl ?_
                refine r_iconst (v := 3) dL_load_503 rfl rfl ?_
                refine r_callV (K' := Y_X7_property) (R' := R_X7_property) (idx := 104) (n := 1) (b := a0) (as := [(0, 3)]) (rest := []) (C' := 0) (D' := 0) (cn := 7) rfl k0_X7_property kV_X7_property kl_L_104 ⟨by decide, by decide⟩ dL_load_504 rfl rfl (Nat.le_of_ble_eq_true rfl) (by decide) (by decide) rfl h (fun r hr => m_X7_property hl0 ⟨r, hr, hr⟩) (fun x19 τ20 _ h => ?_)
                refine r_aload_n 1 dL_load_507 rfl ?_
                refine r_iconst (v := 2) dL_load_508 rfl rfl ?_
                refine r_iconst (v := 4) dL_load_509 rfl rfl ?_
                refine r_callS (K' := Y_L_draw) (R' := R_L_draw) (idx := 40) (n := 3) (as := [(6, a1), (0, 2), (0, 4)]) (rest := [(0, x19)]) (C' := 0) (D' := 0) rfl k0_L_draw wd_333 kl_L_40 ⟨by decide, by decide⟩ dL_load_510 rfl rfl (Nat.le_of_ble_eq_true rfl) (by decide) (by decide) h (fun r hr => m_L_draw hl0 ⟨r, hr, hr⟩) (fun x21 τ22 _ h => ?_)
                refine r_icmp_ne 558 dL_load_513 (by decide) h (fun h => ?_) (fun h => ?_)
                · refine r_iconst (v := 0) dL_load_558 rfl rfl ?_
                  exact r_zretc (by decide) rfl dL_load_559 h
                · refine r_aload_n 0 dL_load_516 rfl ?_
                  refine r_bipush (v := 7) dL_load_517 rfl rfl ?_
                  refine r_callV (K' := Y_X7_property) (R' := R_X7_property) (idx := 104) (n := 1) (b := a0) (as := [(0, 7)]) (rest := []) (C' := 0) (D' := 0) (cn := 7) rfl k0_X7_property kV_X7_property kl_L_104 ⟨by decide, by decide⟩ dL_load_519 rfl rfl (Nat.le_of_ble_eq_true rfl) (by decide) (by decide) rfl h (fun r hr => m_X7_property hl0 ⟨r, hr, hr⟩) (fun x23 τ24 _ h => ?_)
                  refine r_iconst (v := 1) dL_load_522 rfl rfl ?_
                  refine r_aload_n 1 dL_load_523 rfl ?_
                  refine r_bipush (v := 6) dL_load_524 rfl rfl ?_
                  refine r_iconst (v := 3) dL_load_526 rfl rfl ?_
                  refine r_callS (K' := Y_L_draw) (R' := R_L_draw) (idx := 40) (n := 3) (as := [(6, a1), (0, 6), (0, 3)]) (rest := [(0, 1), (0, x23)]) (C' := 0) (D' := 0) rfl k0_L_draw wd_333 kl_L_40 ⟨by decide, by decide⟩ dL_load_527 rfl rfl (Nat.le_of_ble_eq_true rfl) (by decide) (by decide) h (fun r hr => m_L_draw hl0 ⟨r, hr, hr⟩) (fun x25 τ26 _ h => ?_)
                  refine r_iadd dL_load_530 ?_
                  refine r_icmp_ne 558 dL_load_531 (by decide) h (fun h => ?_) (fun h => ?_)
                  · refine r_iconst (v := 0) dL_load_558 rfl rfl ?_
                    exact r_zretc (by decide) rfl dL_load_559 h
                  · refine r_aload_n 0 dL_load_534 rfl ?_
                    refine r_bipush (v := 8) dL_load_535 rfl rfl ?_
                    refine r_callV (K' := Y_X7_property) (R' := R_X7_property) (idx := 104) (n := 1) (b := a0) (as := [(0, 8)]) (rest := []) (C' := 0) (D' := 0) (cn := 7) rfl k0_X7_property kV_X7_property kl_L_104 ⟨by decide, by decide⟩ dL_load_537 rfl rfl (Nat.le_of_ble_eq_true rfl) (by decide) (by decide) rfl h (fun r hr => m_X7_property hl0 ⟨r, hr, hr⟩) (fun x27 τ28 _ h => ?_)
                    refine r_if_ne 558 dL_load_540 (by decide) h (fun h => ?_) (fun h => ?_)
                    · refine r_iconst (v := 0) dL_load_558 rfl rfl ?_
                      exact r_zretc (by decide) rfl dL_load_559 h
                    · refine r_aload_n 0 dL_load_543 rfl ?_
                      refine r_bipush (v := 9) dL_load_544 rfl rfl ?_
                      refine r_callV (K' := Y_X7_property) (R' := R_X7_property) (idx := 104) (n := 1) (b := a0) (as := [(0, 9)]) (rest := []) (C' := 0) (D' := 0) (cn := 7) rfl k0_X7_property kV_X7_property kl_L_104 ⟨by decide, by decide⟩ dL_load_546 rfl rfl (Nat.le_of_ble_eq_true rfl) (by decide) (by decide) rfl h (fun r hr => m_X7_property hl0 ⟨r, hr, hr⟩) (fun x29 τ30 _ h => ?_)
                      refine r_iload 5 dL_load_549 rfl ?_
                      refine r_icmp_ne 558 dL_load_551 (by decide) h (fun h => ?_) (fun h => ?_)
                      · refine r_iconst (v := 0) dL_load_558 rfl rfl ?_
                        exact r_zretc (by decide) rfl dL_load_559 h
                      · refine r_iconst (v := 1) dL_load_554 rfl rfl ?_
                        refine r_goto 559 dL_load_555 (by decide) ?_
                        exact r_zretc (by decide) rfl dL_load_559 h
  · refine r_room (C' := 0) (D' := 0) (by omega) (by omega) ?_
    refine r_iconst (v := 1) dL_load_442 rfl rfl ?_
    exact r_zretc (by decide) rfl dL_load_443 h

set_option maxRecDepth 100000 in
set_option maxHeartbeats 4000000 in
theorem t_L_load_312 {g : zF} (hl0 : g.2.2.2.1.stackTraces = false) {Q : zR × zS → Prop}   : ∀ (n : Nat) (a0 a1 a2 a3 a4 a5 a6 a7 : Int) (σ : zS), zo (f_L_load_312 g  n a0 a1 a2 a3 a4 a5 a6 a7 σ) Q → zw g Y_L_load R_L_load 312 [(0, (4, a0)), (1, (6, a1)), (2, (0, a2)), (3, (0, a3)), (4, (4, a4)), (5, (0, a5)), (6, (0, a6)), (7, (0, a7))] [] σ (20 + n * 9) (n * 9216) Q := by
  intro n
  induction n with
  | zero => intro a0 a1 a2 a3 a4 a5 a6 a7 σ h; obtain ⟨r, h, -⟩ := h; cases h
  | succ n ih =>
    intro a0 a1 a2 a3 a4 a5 a6 a7 σ h
    unfold f_L_load_312 at h
    refine r_room (C' := (29 + n * 9)) (D' := (9216 + n * 9216)) (by omega) (by omega) ?_
    refine r_iload 7 dL_load_312 rfl ?_
    refine r_iload 6 dL_load_314 rfl ?_
    refine r_icmp_ge 431 dL_load_316 (by decide) h (fun h => ?_) (fun h => ?_)
    · refine r_room (C' := 29) (D' := 8348) (by omega) (by omega) ?_
      refine r_weak (L' := [(0, (4, a0)), (1, (6, a1)), (2, (0, a2)), (3, (0, a3)), (4, (4, a4)), (5, (0, a5))]) [0, 1, 2, 3, 4, 5] rfl ?_
      refine r_room (C' := 29) (D' := 8348) (by omega) (by omega) ?_
      exact t_L_load_431 hl0    h
    · refine r_aload_n 1 dL_load_319 rfl ?_
      refine r_bipush (v := 40) dL_load_320 rfl rfl ?_
      refine r_iconst (v := 4) dL_load_322 rfl rfl ?_
      refine r_iload 7 dL_load_323 rfl ?_
      refine r_imul dL_load_325 ?_
      refine r_iadd dL_load_326 ?_
      refine r_sipush (v := 300) dL_load_327 rfl rfl ?_
      refine r_callS (K' := Y_L_draw) (R' := R_L_draw) (idx := 40) (n := 3) (as := [(6, a1), (0, (w32 (40 + (w32 (4 * a7))))), (0, 300)]) (rest := []) (C' := (29 + n * 9)) (D' := (9216 + n * 9216)) rfl k0_L_draw wd_333 kl_L_40 ⟨by decide, by decide⟩ dL_load_330 rfl rfl (Nat.le_of_ble_eq_true rfl) (by have e : R_L_draw.cells = 0 := rfl; omega) (by have e : R_L_draw.slots = 0 := rfl; omega) h (fun r hr => m_L_draw hl0 ⟨r, hr, hr⟩) (fun x1 τ2 _ h => ?_)
      refine r_istore (L' := [(8, (0, x1)), (0, (4, a0)), (1, (6, a1)), (2, (0, a2)), (3, (0, a3)), (4, (4, a4)), (5, (0, a5)), (6, (0, a6)), (7, (0, a7))]) dL_load_333 (by decide) rfl ?_
      refine r_aload 5 dL_load_335 rfl ?_
      refine r_ldcS (j := 22) (text := "probe a") (by decide +kernel) dL_load_337 ?_
      refine r_callV (K' := Y_J4_append_15ec4) (R' := R_J4_append_15ec4) (idx := 56) (n := 1) (b := a4) (as := [(6, (22 : Nat))]) (rest := []) (C' := (28 + n * 9)) (D' := (8192 + n * 9216)) (cn := 8) rfl k0_J4_append_15ec4 kV_J4_append_15ec4 kl_L_56 ⟨by decide, by decide⟩ dL_load_339 rfl rfl (Nat.le_of_ble_eq_true rfl) (by have e : R_J4_append_15ec4.cells = 1 := rfl; omega) (by have e : R_J4_append_15ec4.slots = 1024 := rfl; omega) rfl h (fun r hr => m_J4_append_15ec4 hl0 ⟨r, hr, hr⟩) (fun x3 τ4 _ h => ?_)
      refine r_bipush (v := 97) dL_load_342 rfl rfl ?_
      refine r_aload_n 2 dL_load_344 rfl ?_
      refine r_bipush (v := 42) dL_load_345 rfl rfl ?_
      refine r_iconst (v := 4) dL_load_347 rfl rfl ?_
      refine r_iload 8 dL_load_348 rfl ?_
      refine r_imul dL_load_350 ?_
      refine r_iadd dL_load_351 ?_
      refine r_iload_n 3 dL_load_352 rfl ?_
      refine r_callS (K' := Y_L_draw) (R' := R_L_draw) (idx := 40) (n := 3) (as := [(6, a1), (0, (w32 (42 + (w32 (4 * a7))))), (0, a2)]) (rest := [(0, 97), (4, x3)]) (C' := (28 + n * 9)) (D' := (8192 + n * 9216)) rfl k0_L_draw wd_333 kl_L_40 ⟨by decide, by decide⟩ dL_load_353 rfl rfl (Nat.le_of_ble_eq_true rfl) (by have e : R_L_draw.cells = 0 := rfl; omega) (by have e : R_L_draw.slots = 0 := rfl; omega) h (fun r hr => m_L_draw hl0 ⟨r, hr, hr⟩) (fun x5 τ6 _ h => ?_)
      refine r_iadd dL_load_356 ?_
      refine r_i2cJ dL_load_357 h (fun h => ?_)
      refine r_callV (K' := Y_J4_append_cf468) (R' := R_J4_append_cf468) (idx := 69) (n := 1) (b := x3) (as := [(0, (w32 (97 + x5)))]) (rest := []) (C' := (27 + n * 9)) (D' := (7168 + n * 9216)) (cn := 8) rfl k0_J4_append_cf468 kV_J4_append_cf468 kl_L_69 ⟨by decide, by decide⟩ dL_load_358 rfl rfl (Nat.le_of_ble_eq_true rfl) (by have e : R_J4_append_cf468.cells = 1 := rfl; omega) (by have e : R_J4_append_cf468.slots = 1024 := rfl; omega) rfl h (fun r hr => m_J4_append_cf468 hl0 ⟨r, hr, hr⟩) (fun x7 τ8 _ h => ?_)
      refine r_ldcS (j := 23) (text := " w") (by decide +kernel) dL_load_361 ?_
      refine r_callV (K' := Y_J4_append_15ec4) (R' := R_J4_append_15ec4) (idx := 56) (n := 1) (b := x7) (as := [(6, (23 : Nat))]) (rest := []) (C' := (26 + n * 9)) (D' := (6144 + n * 9216)) (cn := 8) rfl k0_J4_append_15ec4 kV_J4_append_15ec4 kl_L_56 ⟨by decide, by decide⟩ dL_load_363 rfl rfl (Nat.le_of_ble_eq_true rfl) (by have e : R_J4_append_15ec4.cells = 1 := rfl; omega) (by have e : R_J4_append_15ec4.slots = 1024 := rfl; omega) rfl h (fun r hr => m_J4_append_15ec4 hl0 ⟨r, hr, hr⟩) (fun x9 τ10 _ h => ?_)
      refine r_bipush (v := 97) dL_load_366 rfl rfl ?_
      refine r_aload_n 2 dL_load_368 rfl ?_
      refine r_bipush (v := 43) dL_load_369 rfl rfl ?_
      refine r_iconst (v := 4) dL_load_371 rfl rfl ?_
      refine r_iload 8 dL_load_372 rfl ?_
      refine r_imul dL_load_374 ?_
      refine r_iadd dL_load_375 ?_
      refine r_iload_n 4 dL_load_376 rfl ?_
      refine r_callS (K' := Y_L_draw) (R' := R_L_draw) (idx := 40) (n := 3) (as := [(6, a1), (0, (w32 (43 + (w32 (4 * a7))))), (0, a3)]) (rest := [(0, 97), (4, x9)]) (C' := (26 + n * 9)) (D' := (6144 + n * 9216)) rfl k0_L_draw wd_333 kl_L_40 ⟨by decide, by decide⟩ dL_load_377 rfl rfl (Nat.le_of_ble_eq_true rfl) (by have e : R_L_draw.cells = 0 := rfl; omega) (by have e : R_L_draw.slots = 0 := rfl; omega) h (fun r hr => m_L_draw hl0 ⟨r, hr, hr⟩) (fun x11 τ12 _ h => ?_)
      refine r_iadd dL_load_380 ?_
      refine r_i2cJ dL_load_381 h (fun h => ?_)
      refine r_callV (K' := Y_J4_append_cf468) (R' := R_J4_append_cf468) (idx := 69) (n := 1) (b := x9) (as := [(0, (w32 (97 + x11)))]) (rest := []) (C' := (25 + n * 9)) (D' := (5120 + n * 9216)) (cn := 8) rfl k0_J4_append_cf468 kV_J4_append_cf468 kl_L_69 ⟨by decide, by decide⟩ dL_load_382 rfl rfl (Nat.le_of_ble_eq_true rfl) (by have e : R_J4_append_cf468.cells = 1 := rfl; omega) (by have e : R_J4_append_cf468.slots = 1024 := rfl; omega) rfl h (fun r hr => m_J4_append_cf468 hl0 ⟨r, hr, hr⟩) (fun x13 τ14 _ h => ?_)
      refine r_ldcS (j := 24) (text := " ") (by decide +kernel) dL_load_385 ?_
      refine r_callV (K' := Y_J4_append_15ec4) (R' := R_J4_append_15ec4) (idx := 56) (n := 1) (b := x13) (as := [(6, (24 : Nat))]) (rest := []) (C' := (24 + n * 9)) (D' := (4096 + n * 9216)) (cn := 8) rfl k0_J4_append_15ec4 kV_J4_append_15ec4 kl_L_56 ⟨by decide, by decide⟩ dL_load_387 rfl rfl (Nat.le_of_ble_eq_true rfl) (by have e : R_J4_append_15ec4.cells = 1 := rfl; omega) (by have e : R_J4_append_15ec4.slots = 1024 := rfl; omega) rfl h (fun r hr => m_J4_append_15ec4 hl0 ⟨r, hr, hr⟩) (fun x15 τ16 _ h => ?_)
      refine r_iload 0 dL_load_390 rfl ?_
      refine r_callV (K' := Y_J4_append_bf812) (R' := R_J4_append_bf812) (idx := 51) (n := 1) (b := x15) (as := [(0, x1)]) (rest := []) (C' := (23 + n * 9)) (D' := (3072 + n * 9216)) (cn := 8) rfl k0_J4_append_bf812 kV_J4_append_bf812 kl_L_51 ⟨by decide, by decide⟩ dL_load_392 rfl rfl (Nat.le_of_ble_eq_true rfl) (by have e : R_J4_append_bf812.cells = 1 := rfl; omega) (by have e : R_J4_append_bf812.slots = 1024 := rfl; omega) rfl h (fun r hr => m_J4_append_bf812 hl0 ⟨r, hr, hr⟩) (fun x17 τ18 _ h => ?_)
      refine r_ldcS (j := 24) (text := " ") (by decide +kernel) dL_load_395 ?_
      refine r_callV (K' := Y_J4_append_15ec4) (R' := R_J4_append_15ec4) (idx := 56) (n := 1) (b := x17) (as := [(6, (24 : Nat))]) (rest := []) (C' := (22 + n * 9)) (D' := (2048 + n * 9216)) (cn := 8) rfl k0_J4_append_15ec4 kV_J4_append_15ec4 kl_L_56 ⟨by decide, by decide⟩ dL_load_397 rfl rfl (Nat.le_of_ble_eq_true rfl) (by have e : R_J4_append_15ec4.cells = 1 := rfl; omega) (by have e : R_J4_append_15ec4.slots = 1024 := rfl; omega) rfl h (fun r hr => m_J4_append_15ec4 hl0 ⟨r, hr, hr⟩) (fun x19 τ20 _ h => ?_)
      refine r_iload 0 dL_load_400 rfl ?_
      refine r_aload_n 2 dL_load_402 rfl ?_
      refine r_bipush (v := 41) dL_load_403 rfl rfl ?_
      refine r_iconst (v := 4) dL_load_405 rfl rfl ?_
      refine r_iload 8 dL_load_406 rfl ?_
      refine r_imul dL_load_408 ?_
      refine r_iadd dL_load_409 ?_
      refine r_bipush (v := 120) dL_load_410 rfl rfl ?_
      refine r_callS (K' := Y_L_draw) (R' := R_L_draw) (idx := 40) (n := 3) (as := [(6, a1), (0, (w32 (41 + (w32 (4 * a7))))), (0, 120)]) (rest := [(0, x1), (4, x19)]) (C' := (22 + n * 9)) (D' := (2048 + n * 9216)) rfl k0_L_draw wd_333 kl_L_40 ⟨by decide, by decide⟩ dL_load_412 rfl rfl (Nat.le_of_ble_eq_true rfl) (by have e : R_L_draw.cells = 0 := rfl; omega) (by have e : R_L_draw.slots = 0 := rfl; omega) h (fun r hr => m_L_draw hl0 ⟨r, hr, hr⟩) (fun x21 τ22 _ h => ?_)
      refine r_iadd dL_load_415 ?_
      refine r_callV (K' := Y_J4_append_bf812) (R' := R_J4_append_bf812) (idx := 51) (n := 1) (b := x19) (as := [(0, (w32 (x1 + x21)))]) (rest := []) (C' := (21 + n * 9)) (D' := (1024 + n * 9216)) (cn := 8) rfl k0_J4_append_bf812 kV_J4_append_bf812 kl_L_51 ⟨by decide, by decide⟩ dL_load_416 rfl rfl (Nat.le_of_ble_eq_true rfl) (by have e : R_J4_append_bf812.cells = 1 := rfl; omega) (by have e : R_J4_append_bf812.slots = 1024 := rfl; omega) rfl h (fun r hr => m_J4_append_bf812 hl0 ⟨r, hr, hr⟩) (fun x23 τ24 _ h => ?_)
      refine r_ldcS (j := 16) (text := ";") (by decide +kernel) dL_load_419 ?_
      refine r_callV (K' := Y_J4_append_15ec4) (R' := R_J4_append_15ec4) (idx := 56) (n := 1) (b := x23) (as := [(6, (16 : Nat))]) (rest := []) (C' := (20 + n * 9)) (D' := (n * 9216)) (cn := 8) rfl k0_J4_append_15ec4 kV_J4_append_15ec4 kl_L_56 ⟨by decide, by decide⟩ dL_load_421 rfl rfl (Nat.le_of_ble_eq_true rfl) (by have e : R_J4_append_15ec4.cells = 1 := rfl; omega) (by have e : R_J4_append_15ec4.slots = 1024 := rfl; omega) rfl h (fun r hr => m_J4_append_15ec4 hl0 ⟨r, hr, hr⟩) (fun x25 τ26 _ h => ?_)
      refine r_pop dL_load_424 rfl ?_
      refine r_iinc (L' := [(7, (0, (w32 (a7 + 1)))), (8, (0, x1)), (0, (4, a0)), (1, (6, a1)), (2, (0, a2)), (3, (0, a3)), (4, (4, a4)), (5, (0, a5)), (6, (0, a6))]) 8 dL_load_425 rfl (by decide) rfl ?_
      refine r_goto 312 dL_load_428 (by decide) ?_
      refine r_weak (L' := [(0, (4, a0)), (1, (6, a1)), (2, (0, a2)), (3, (0, a3)), (4, (4, a4)), (5, (0, a5)), (6, (0, a6)), (7, (0, (w32 (a7 + 1))))]) [2, 3, 4, 5, 6, 7, 8, 0] rfl ?_
      refine r_room (C' := (20 + n * 9)) (D' := (n * 9216)) (by omega) (by omega) ?_
      exact ih _ _ _ _ _ _ _ _ _ h

set_option maxRecDepth 100000 in
set_option maxHeartbeats 4000000 in
theorem t_L_load_299 {g : zF} (hl0 : g.2.2.2.1.stackTraces = false) {Q : zR × zS → Prop}   {a0 a1 a2 a3 a4 a5 : Int} {σ : zS} (h : zo (f_L_load_299 g  a0 a1 a2 a3 a4 a5 σ) Q) : zw g Y_L_load R_L_load 299 [(0, (4, a0)), (1, (6, a1)), (2, (0, a2)), (3, (0, a3)), (4, (4, a4)), (5, (0, a5))] [] σ 92 73728 Q := by
  unfold f_L_load_299 at h
  refine r_aload_n 1 dL_load_299 rfl ?_
  refine r_bipush (v := 7) dL_load_300 rfl rfl ?_
  refine r_bipush (v := 8) dL_load_302 rfl rfl ?_
  refine r_callS (K' := Y_L_draw) (R' := R_L_draw) (idx := 40) (n := 3) (as := [(6, a1), (0, 7), (0, 8)]) (rest := []) (C' := 92) (D' := 73728) rfl k0_L_draw wd_333 kl_L_40 ⟨by decide, by decide⟩ dL_load_304 rfl rfl (Nat.le_of_ble_eq_true rfl) (by decide) (by decide) h (fun r hr => m_L_draw hl0 ⟨r, hr, hr⟩) (fun x1 τ2 _ h => ?_)
  refine r_istore (L' := [(6, (0, x1)), (0, (4, a0)), (1, (6, a1)), (2, (0, a2)), (3, (0, a3)), (4, (4, a4)), (5, (0, a5))]) dL_load_307 (by decide) rfl ?_
  refine r_iconst (v := 0) dL_load_309 rfl rfl ?_
  refine r_istore (L' := [(7, (0, 0)), (6, (0, x1)), (0, (4, a0)), (1, (6, a1)), (2, (0, a2)), (3, (0, a3)), (4, (4, a4)), (5, (0, a5))]) dL_load_310 (by decide) rfl ?_
  refine r_weak (L' := [(0, (4, a0)), (1, (6, a1)), (2, (0, a2)), (3, (0, a3)), (4, (4, a4)), (5, (0, a5)), (6, (0, x1)), (7, (0, 0))]) [2, 3, 4, 5, 6, 7, 1, 0] rfl ?_
  refine r_room (C' := (20 + 8 * 9)) (D' := (8 * 9216)) (by omega) (by omega) ?_
  exact t_L_load_312 hl0    8 _ _ _ _ _ _ _ _ _ h

set_option maxRecDepth 100000 in
set_option maxHeartbeats 4000000 in
theorem t_L_load_293 {g : zF} (hl0 : g.2.2.2.1.stackTraces = false) {Q : zR × zS → Prop} (r187 : Int → Int → Int → Int → Int → Int → Int → zS → zFn) {C187 D187 : Nat} (hr187 : ∀ b0 b1 b2 b3 b4 b5 b6 τ, zo (r187 b0 b1 b2 b3 b4 b5 b6 τ) Q → zw g Y_L_load R_L_load 187 [(0, (4, b0)), (1, (6, b1)), (2, (0, b2)), (3, (0, b3)), (4, (4, b4)), (5, (0, b5)), (6, (0, b6))] [] τ C187 D187 Q) {a0 a1 a2 a3 a4 a5 a6 : Int} {σ : zS} (h : zo (f_L_load_293 g r187 a0 a1 a2 a3 a4 a5 a6 σ) Q) : zw g Y_L_load R_L_load 293 [(0, (4, a0)), (1, (6, a1)), (2, (0, a2)), (3, (0, a3)), (4, (4, a4)), (5, (0, a5)), (6, (0, a6))] [] σ C187 D187 Q := by
  unfold f_L_load_293 at h
  refine r_iinc (L' := [(6, (0, (w32 (a6 + 1)))), (0, (4, a0)), (1, (6, a1)), (2, (0, a2)), (3, (0, a3)), (4, (4, a4)), (5, (0, a5))]) 6 dL_load_293 rfl (by decide) rfl ?_
  refine r_goto 187 dL_load_296 (by decide) ?_
  refine r_weak (L' := [(0, (4, a0)), (1, (6, a1)), (2, (0, a2)), (3, (0, a3)), (4, (4, a4)), (5, (0, a5)), (6, (0, (w32 (a6 + 1))))]) [1, 2, 3, 4, 5, 6, 0] rfl ?_
  refine r_room (C' := C187) (D' := D187) (by omega) (by omega) ?_
  exact hr187 _ _ _ _ _ _ _ _ h

set_option maxRecDepth 100000 in
set_option maxHeartbeats 4000000 in
theorem t_L_load_287 {g : zF} (hl0 : g.2.2.2.1.stackTraces = false) {Q : zR × zS → Prop} (r187 : Int → Int → Int → Int → Int → Int → Int → zS → zFn) (r196 : Int → Int → Int → Int → Int → Int → Int → Int → zS → zFn) {C187 D187 : Nat} {C196 D196 : Nat} (hr187 : ∀ b0 b1 b2 b3 b4 b5 b6 τ, zo (r187 b0 b1 b2 b3 b4 b5 b6 τ) Q → zw g Y_L_load R_L_load 187 [(0, (4, b0)), (1, (6, b1)), (2, (0, b2)), (3, (0, b3)), (4, (4, b4)), (5, (0, b5)), (6, (0, b6))] [] τ C187 D187 Q) (hr196 : ∀ b0 b1 b2 b3 b4 b5 b6 b7 τ, zo (r196 b0 b1 b2 b3 b4 b5 b6 b7 τ) Q → zw g Y_L_load R_L_load 196 [(0, (4, b0)), (1, (6, b1)), (2, (0, b2)), (3, (0, b3)), (4, (4, b4)), (5, (0, b5)), (6, (0, b6)), (7, (0, b7))] [] τ C196 D196 Q) {a0 a1 a2 a3 a4 a5 a6 a7 : Int} {σ : zS} (h : zo (f_L_load_287 g r187 r196 a0 a1 a2 a3 a4 a5 a6 a7 σ) Q) : zw g Y_L_load R_L_load 287 [(0, (4, a0)), (1, (6, a1)), (2, (0, a2)), (3, (0, a3)), (4, (4, a4)), (5, (0, a5)), (6, (0, a6)), (7, (0, a7))] [] σ C196 D196 Q := by
  unfold f_L_load_287 at h
  refine r_iinc (L' := [(7, (0, (w32 (a7 + 1)))), (0, (4, a0)), (1, (6, a1)), (2, (0, a2)), (3, (0, a3)), (4, (4, a4)), (5, (0, a5)), (6, (0, a6))]) 7 dL_load_287 rfl (by decide) rfl ?_
  refine r_goto 196 dL_load_290 (by decide) ?_
  refine r_weak (L' := [(0, (4, a0)), (1, (6, a1)), (2, (0, a2)), (3, (0, a3)), (4, (4, a4)), (5, (0, a5)), (6, (0, a6)), (7, (0, (w32 (a7 + 1))))]) [1, 2, 3, 4, 5, 6, 7, 0] rfl ?_
  refine r_room (C' := C196) (D' := D196) (by omega) (by omega) ?_
  exact hr196 _ _ _ _ _ _ _ _ _ h

set_option maxRecDepth 100000 in
set_option maxHeartbeats 4000000 in
theorem t_L_load_196 {g : zF} (hl0 : g.2.2.2.1.stackTraces = false) {Q : zR × zS → Prop} (r187 : Int → Int → Int → Int → Int → Int → Int → zS → zFn) {C187 D187 : Nat} (hr187 : ∀ b0 b1 b2 b3 b4 b5 b6 τ, zo (r187 b0 b1 b2 b3 b4 b5 b6 τ) Q → zw g Y_L_load R_L_load 187 [(0, (4, b0)), (1, (6, b1)), (2, (0, b2)), (3, (0, b3)), (4, (4, b4)), (5, (0, b5)), (6, (0, b6))] [] τ C187 D187 Q) : ∀ (n : Nat) (a0 a1 a2 a3 a4 a5 a6 a7 : Int) (σ : zS), zo (f_L_load_196 g r187 n a0 a1 a2 a3 a4 a5 a6 a7 σ) Q → zw g Y_L_load R_L_load 196 [(0, (4, a0)), (1, (6, a1)), (2, (0, a2)), (3, (0, a3)), (4, (4, a4)), (5, (0, a5)), (6, (0, a6)), (7, (0, a7))] [] σ (C187 + n * 7) (D187 + n * 7168) Q := by
  intro n
  induction n with
  | zero => intro a0 a1 a2 a3 a4 a5 a6 a7 σ h; obtain ⟨r, h, -⟩ := h; cases h
  | succ n ih =>
    intro a0 a1 a2 a3 a4 a5 a6 a7 σ h
    unfold f_L_load_196 at h
    refine r_room (C' := (7 + C187 + n * 7)) (D' := (7168 + D187 + n * 7168)) (by omega) (by omega) ?_
    refine r_iload 7 dL_load_196 rfl ?_
    refine r_iload 6 dL_load_198 rfl ?_
    refine r_icmp_ge 293 dL_load_200 (by decide) h (fun h => ?_) (fun h => ?_)
    · refine r_room (C' := C187) (D' := D187) (by omega) (by omega) ?_
      refine r_weak (L' := [(0, (4, a0)), (1, (6, a1)), (2, (0, a2)), (3, (0, a3)), (4, (4, a4)), (5, (0, a5)), (6, (0, a6))]) [0, 1, 2, 3, 4, 5, 6] rfl ?_
      refine r_room (C' := C187) (D' := D187) (by omega) (by omega) ?_
      exact t_L_load_293 hl0 (C187 := C187) (D187 := D187) r187 hr187 h
    · refine r_aload_n 1 dL_load_203 rfl ?_
      refine r_bipush (v := 10) dL_load_204 rfl rfl ?_
      refine r_iconst (v := 5) dL_load_206 rfl rfl ?_
      refine r_iload 6 dL_load_207 rfl ?_
      refine r_imul dL_load_209 ?_
      refine r_iadd dL_load_210 ?_
      refine r_iload 7 dL_load_211 rfl ?_
      refine r_iadd dL_load_213 ?_
      refine r_iconst (v := 3) dL_load_214 rfl rfl ?_
      refine r_callS (K' := Y_L_draw) (R' := R_L_draw) (idx := 40) (n := 3) (as := [(6, a1), (0, (w32 ((w32 (10 + (w32 (5 * a6)))) + a7))), (0, 3)]) (rest := []) (C' := (7 + C187 + n * 7)) (D' := (7168 + D187 + n * 7168)) rfl k0_L_draw wd_333 kl_L_40 ⟨by decide, by decide⟩ dL_load_215 rfl rfl (Nat.le_of_ble_eq_true rfl) (by have e : R_L_draw.cells = 0 := rfl; omega) (by have e : R_L_draw.slots = 0 := rfl; omega) h (fun r hr => m_L_draw hl0 ⟨r, hr, hr⟩) (fun x1 τ2 _ h => ?_)
      refine r_if_ne 224 dL_load_218 (by decide) h (fun h => ?_) (fun h => ?_)
      · refine r_aload 4 dL_load_224 rfl ?_
        refine r_ldcS (j := 19) (text := "link a") (by decide +kernel) dL_load_226 ?_
        refine r_callV (K' := Y_J4_append_15ec4) (R' := R_J4_append_15ec4) (idx := 56) (n := 1) (b := a4) (as := [(6, (19 : Nat))]) (rest := []) (C' := (6 + C187 + n * 7)) (D' := (6144 + D187 + n * 7168)) (cn := 8) rfl k0_J4_append_15ec4 kV_J4_append_15ec4 kl_L_56 ⟨by decide, by decide⟩ dL_load_228 rfl rfl (Nat.le_of_ble_eq_true rfl) (by have e : R_J4_append_15ec4.cells = 1 := rfl; omega) (by have e : R_J4_append_15ec4.slots = 1024 := rfl; omega) rfl h (fun r hr => m_J4_append_15ec4 hl0 ⟨r, hr, hr⟩) (fun x3 τ4 _ h => ?_)
        refine r_bipush (v := 97) dL_load_231 rfl rfl ?_
        refine r_iload 6 dL_load_233 rfl ?_
        refine r_iadd dL_load_235 ?_
        refine r_i2cJ dL_load_236 h (fun h => ?_)
        refine r_callV (K' := Y_J4_append_cf468) (R' := R_J4_append_cf468) (idx := 69) (n := 1) (b := x3) (as := [(0, (w32 (97 + a6)))]) (rest := []) (C' := (5 + C187 + n * 7)) (D' := (5120 + D187 + n * 7168)) (cn := 8) rfl k0_J4_append_cf468 kV_J4_append_cf468 kl_L_69 ⟨by decide, by decide⟩ dL_load_237 rfl rfl (Nat.le_of_ble_eq_true rfl) (by have e : R_J4_append_cf468.cells = 1 := rfl; omega) (by have e : R_J4_append_cf468.slots = 1024 := rfl; omega) rfl h (fun r hr => m_J4_append_cf468 hl0 ⟨r, hr, hr⟩) (fun x5 τ6 _ h => ?_)
        refine r_ldcS (j := 20) (text := " a") (by decide +kernel) dL_load_240 ?_
        refine r_callV (K' := Y_J4_append_15ec4) (R' := R_J4_append_15ec4) (idx := 56) (n := 1) (b := x5) (as := [(6, (20 : Nat))]) (rest := []) (C' := (4 + C187 + n * 7)) (D' := (4096 + D187 + n * 7168)) (cn := 8) rfl k0_J4_append_15ec4 kV_J4_append_15ec4 kl_L_56 ⟨by decide, by decide⟩ dL_load_242 rfl rfl (Nat.le_of_ble_eq_true rfl) (by have e : R_J4_append_15ec4.cells = 1 := rfl; omega) (by have e : R_J4_append_15ec4.slots = 1024 := rfl; omega) rfl h (fun r hr => m_J4_append_15ec4 hl0 ⟨r, hr, hr⟩) (fun x7 τ8 _ h => ?_)
        refine r_bipush (v := 97) dL_load_245 rfl rfl ?_
        refine r_iload 7 dL_load_247 rfl ?_
        refine r_iadd dL_load_249 ?_
        refine r_i2cJ dL_load_250 h (fun h => ?_)
        refine r_callV (K' := Y_J4_append_cf468) (R' := R_J4_append_cf468) (idx := 69) (n := 1) (b := x7) (as := [(0, (w32 (97 + a7)))]) (rest := []) (C' := (3 + C187 + n * 7)) (D' := (3072 + D187 + n * 7168)) (cn := 8) rfl k0_J4_append_cf468 kV_J4_append_cf468 kl_L_69 ⟨by decide, by decide⟩ dL_load_251 rfl rfl (Nat.le_of_ble_eq_true rfl) (by have e : R_J4_append_cf468.cells = 1 := rfl; omega) (by have e : R_J4_append_cf468.slots = 1024 := rfl; omega) rfl h (fun r hr => m_J4_append_cf468 hl0 ⟨r, hr, hr⟩) (fun x9 τ10 _ h => ?_)
        refine r_ldcS (j := 21) (text := " trust ") (by decide +kernel) dL_load_254 ?_
        refine r_callV (K' := Y_J4_append_15ec4) (R' := R_J4_append_15ec4) (idx := 56) (n := 1) (b := x9) (as := [(6, (21 : Nat))]) (rest := []) (C' := (2 + C187 + n * 7)) (D' := (2048 + D187 + n * 7168)) (cn := 8) rfl k0_J4_append_15ec4 kV_J4_append_15ec4 kl_L_56 ⟨by decide, by decide⟩ dL_load_256 rfl rfl (Nat.le_of_ble_eq_true rfl) (by have e : R_J4_append_15ec4.cells = 1 := rfl; omega) (by have e : R_J4_append_15ec4.slots = 1024 := rfl; omega) rfl h (fun r hr => m_J4_append_15ec4 hl0 ⟨r, hr, hr⟩) (fun x11 τ12 _ h => ?_)
        refine r_aload_n 1 dL_load_259 rfl ?_
        refine r_bipush (v := 11) dL_load_260 rfl rfl ?_
        refine r_iconst (v := 5) dL_load_262 rfl rfl ?_
        refine r_iload 6 dL_load_263 rfl ?_
        refine r_imul dL_load_265 ?_
        refine r_iadd dL_load_266 ?_
        refine r_iload 7 dL_load_267 rfl ?_
        refine r_iadd dL_load_269 ?_
        refine r_bipush (v := 11) dL_load_270 rfl rfl ?_
        refine r_callS (K' := Y_L_draw) (R' := R_L_draw) (idx := 40) (n := 3) (as := [(6, a1), (0, (w32 ((w32 (11 + (w32 (5 * a6)))) + a7))), (0, 11)]) (rest := [(4, x11)]) (C' := (2 + C187 + n * 7)) (D' := (2048 + D187 + n * 7168)) rfl k0_L_draw wd_333 kl_L_40 ⟨by decide, by decide⟩ dL_load_272 rfl rfl (Nat.le_of_ble_eq_true rfl) (by have e : R_L_draw.cells = 0 := rfl; omega) (by have e : R_L_draw.slots = 0 := rfl; omega) h (fun r hr => m_L_draw hl0 ⟨r, hr, hr⟩) (fun x13 τ14 _ h => ?_)
        refine r_callV (K' := Y_J4_append_bf812) (R' := R_J4_append_bf812) (idx := 51) (n := 1) (b := x11) (as := [(0, x13)]) (rest := []) (C' := (1 + C187 + n * 7)) (D' := (1024 + D187 + n * 7168)) (cn := 8) rfl k0_J4_append_bf812 kV_J4_append_bf812 kl_L_51 ⟨by decide, by decide⟩ dL_load_275 rfl rfl (Nat.le_of_ble_eq_true rfl) (by have e : R_J4_append_bf812.cells = 1 := rfl; omega) (by have e : R_J4_append_bf812.slots = 1024 := rfl; omega) rfl h (fun r hr => m_J4_append_bf812 hl0 ⟨r, hr, hr⟩) (fun x15 τ16 _ h => ?_)
        refine r_ldcS (j := 16) (text := ";") (by decide +kernel) dL_load_278 ?_
        refine r_callV (K' := Y_J4_append_15ec4) (R' := R_J4_append_15ec4) (idx := 56) (n := 1) (b := x15) (as := [(6, (16 : Nat))]) (rest := []) (C' := (C187 + n * 7)) (D' := (D187 + n * 7168)) (cn := 8) rfl k0_J4_append_15ec4 kV_J4_append_15ec4 kl_L_56 ⟨by decide, by decide⟩ dL_load_280 rfl rfl (Nat.le_of_ble_eq_true rfl) (by have e : R_J4_append_15ec4.cells = 1 := rfl; omega) (by have e : R_J4_append_15ec4.slots = 1024 := rfl; omega) rfl h (fun r hr => m_J4_append_15ec4 hl0 ⟨r, hr, hr⟩) (fun x17 τ18 _ h => ?_)
        refine r_pop dL_load_283 rfl ?_
        refine r_iinc (L' := [(5, (0, (w32 (a5 + 1)))), (0, (4, a0)), (1, (6, a1)), (2, (0, a2)), (3, (0, a3)), (4, (4, a4)), (6, (0, a6)), (7, (0, a7))]) 5 dL_load_284 rfl (by decide) rfl ?_
        refine r_weak (L' := [(0, (4, a0)), (1, (6, a1)), (2, (0, a2)), (3, (0, a3)), (4, (4, a4)), (5, (0, (w32 (a5 + 1)))), (6, (0, a6)), (7, (0, a7))]) [1, 2, 3, 4, 5, 0, 6, 7] rfl ?_
        refine r_room (C' := (C187 + n * 7)) (D' := (D187 + n * 7168)) (by omega) (by omega) ?_
        exact t_L_load_287 hl0 (C187 := C187) (D187 := D187) (C196 := (C187 + n * 7)) (D196 := (D187 + n * 7168)) r187 (f_L_load_196 g r187 n) hr187 (fun b0 b1 b2 b3 b4 b5 b6 b7 τ h => ih b0 b1 b2 b3 b4 b5 b6 b7 τ h) h
      · refine r_room (C' := (C187 + n * 7)) (D' := (D187 + n * 7168)) (by omega) (by omega) ?_
        refine r_goto 287 dL_load_221 (by decide) ?_
        refine r_room (C' := (C187 + n * 7)) (D' := (D187 + n * 7168)) (by omega) (by omega) ?_
        exact t_L_load_287 hl0 (C187 := C187) (D187 := D187) (C196 := (C187 + n * 7)) (D196 := (D187 + n * 7168)) r187 (f_L_load_196 g r187 n) hr187 (fun b0 b1 b2 b3 b4 b5 b6 b7 τ h => ih b0 b1 b2 b3 b4 b5 b6 b7 τ h) h

set_option maxRecDepth 100000 in
set_option maxHeartbeats 4000000 in
theorem t_L_load_187 {g : zF} (hl0 : g.2.2.2.1.stackTraces = false) {Q : zR × zS → Prop}   : ∀ (n : Nat) (a0 a1 a2 a3 a4 a5 a6 : Int) (σ : zS), zo (f_L_load_187 g  n a0 a1 a2 a3 a4 a5 a6 σ) Q → zw g Y_L_load R_L_load 187 [(0, (4, a0)), (1, (6, a1)), (2, (0, a2)), (3, (0, a3)), (4, (4, a4)), (5, (0, a5)), (6, (0, a6))] [] σ (50 + n * 42) (30720 + n * 43008) Q := by
  intro n
  induction n with
  | zero => intro a0 a1 a2 a3 a4 a5 a6 σ h; obtain ⟨r, h, -⟩ := h; cases h
  | succ n ih =>
    intro a0 a1 a2 a3 a4 a5 a6 σ h
    unfold f_L_load_187 at h
    refine r_room (C' := (92 + n * 42)) (D' := (73728 + n * 43008)) (by omega) (by omega) ?_
    refine r_iload 6 dL_load_187 rfl ?_
    refine r_iload_n 2 dL_load_189 rfl ?_
    refine r_icmp_ge 299 dL_load_190 (by decide) h (fun h => ?_) (fun h => ?_)
    · refine r_room (C' := 92) (D' := 73728) (by omega) (by omega) ?_
      refine r_weak (L' := [(0, (4, a0)), (1, (6, a1)), (2, (0, a2)), (3, (0, a3)), (4, (4, a4)), (5, (0, a5))]) [0, 1, 2, 3, 4, 5] rfl ?_
      refine r_room (C' := 92) (D' := 73728) (by omega) (by omega) ?_
      exact t_L_load_299 hl0    h
    · refine r_iconst (v := 0) dL_load_193 rfl rfl ?_
      refine r_istore (L' := [(7, (0, 0)), (0, (4, a0)), (1, (6, a1)), (2, (0, a2)), (3, (0, a3)), (4, (4, a4)), (5, (0, a5)), (6, (0, a6))]) dL_load_194 (by decide) rfl ?_
      refine r_weak (L' := [(0, (4, a0)), (1, (6, a1)), (2, (0, a2)), (3, (0, a3)), (4, (4, a4)), (5, (0, a5)), (6, (0, a6)), (7, (0, 0))]) [1, 2, 3, 4, 5, 6, 7, 0] rfl ?_
      refine r_room (C' := ((50 + n * 42) + 6 * 7)) (D' := ((30720 + n * 43008) + 6 * 7168)) (by omega) (by omega) ?_
      exact t_L_load_196 hl0 (C187 := (50 + n * 42)) (D187 := (30720 + n * 43008)) (f_L_load_187 g  n) (fun b0 b1 b2 b3 b4 b5 b6 τ h => ih b0 b1 b2 b3 b4 b5 b6 τ h) 6 _ _ _ _ _ _ _ _ _ h

set_option maxRecDepth 100000 in
set_option maxHeartbeats 4000000 in
theorem t_L_load_181 {g : zF} (hl0 : g.2.2.2.1.stackTraces = false) {Q : zR × zS → Prop}   {a0 a1 a2 a3 a4 : Int} {σ : zS} (h : zo (f_L_load_181 g  a0 a1 a2 a3 a4 σ) Q) : zw g Y_L_load R_L_load 181 [(0, (4, a0)), (1, (6, a1)), (2, (0, a2)), (3, (0, a3)), (4, (4, a4))] [] σ 302 288768 Q := by
  unfold f_L_load_181 at h
  refine r_iconst (v := 0) dL_load_181 rfl rfl ?_
  refine r_istore (L' := [(5, (0, 0)), (0, (4, a0)), (1, (6, a1)), (2, (0, a2)), (3, (0, a3)), (4, (4, a4))]) dL_load_182 (by decide) rfl ?_
  refine r_iconst (v := 0) dL_load_184 rfl rfl ?_
  refine r_istore (L' := [(6, (0, 0)), (5, (0, 0)), (0, (4, a0)), (1, (6, a1)), (2, (0, a2)), (3, (0, a3)), (4, (4, a4))]) dL_load_185 (by decide) rfl ?_
  refine r_weak (L' := [(0, (4, a0)), (1, (6, a1)), (2, (0, a2)), (3, (0, a3)), (4, (4, a4)), (5, (0, 0)), (6, (0, 0))]) [2, 3, 4, 5, 6, 1, 0] rfl ?_
  refine r_room (C' := (50 + 6 * 42)) (D' := (30720 + 6 * 43008)) (by omega) (by omega) ?_
  exact t_L_load_187 hl0    6 _ _ _ _ _ _ _ _ h

set_option maxRecDepth 100000 in
set_option maxHeartbeats 4000000 in
theorem t_L_load_147 {g : zF} (hl0 : g.2.2.2.1.stackTraces = false) {Q : zR × zS → Prop}   : ∀ (n : Nat) (a0 a1 a2 a3 a4 a5 : Int) (σ : zS), zo (f_L_load_147 g  n a0 a1 a2 a3 a4 a5 σ) Q → zw g Y_L_load R_L_load 147 [(0, (4, a0)), (1, (6, a1)), (2, (0, a2)), (3, (0, a3)), (4, (4, a4)), (5, (0, a5))] [] σ (299 + n * 3) (285696 + n * 3072) Q := by
  intro n
  induction n with
  | zero => intro a0 a1 a2 a3 a4 a5 σ h; obtain ⟨r, h, -⟩ := h; cases h
  | succ n ih =>
    intro a0 a1 a2 a3 a4 a5 σ h
    unfold f_L_load_147 at h
    refine r_room (C' := (302 + n * 3)) (D' := (288768 + n * 3072)) (by omega) (by omega) ?_
    refine r_iload 5 dL_load_147 rfl ?_
    refine r_iload_n 3 dL_load_149 rfl ?_
    refine r_icmp_ge 181 dL_load_150 (by decide) h (fun h => ?_) (fun h => ?_)
    · refine r_room (C' := 302) (D' := 288768) (by omega) (by omega) ?_
      refine r_weak (L' := [(0, (4, a0)), (1, (6, a1)), (2, (0, a2)), (3, (0, a3)), (4, (4, a4))]) [0, 1, 2, 3, 4] rfl ?_
      refine r_room (C' := 302) (D' := 288768) (by omega) (by omega) ?_
      exact t_L_load_181 hl0    h
    · refine r_aload 4 dL_load_153 rfl ?_
      refine r_ldcS (j := 18) (text := "way w") (by decide +kernel) dL_load_155 ?_
      refine r_callV (K' := Y_J4_append_15ec4) (R' := R_J4_append_15ec4) (idx := 56) (n := 1) (b := a4) (as := [(6, (18 : Nat))]) (rest := []) (C' := (301 + n * 3)) (D' := (287744 + n * 3072)) (cn := 8) rfl k0_J4_append_15ec4 kV_J4_append_15ec4 kl_L_56 ⟨by decide, by decide⟩ dL_load_157 rfl rfl (Nat.le_of_ble_eq_true rfl) (by have e : R_J4_append_15ec4.cells = 1 := rfl; omega) (by have e : R_J4_append_15ec4.slots = 1024 := rfl; omega) rfl h (fun r hr => m_J4_append_15ec4 hl0 ⟨r, hr, hr⟩) (fun x1 τ2 _ h => ?_)
      refine r_bipush (v := 97) dL_load_160 rfl rfl ?_
      refine r_iload 5 dL_load_162 rfl ?_
      refine r_iadd dL_load_164 ?_
      refine r_i2cJ dL_load_165 h (fun h => ?_)
      refine r_callV (K' := Y_J4_append_cf468) (R' := R_J4_append_cf468) (idx := 69) (n := 1) (b := x1) (as := [(0, (w32 (97 + a5)))]) (rest := []) (C' := (300 + n * 3)) (D' := (286720 + n * 3072)) (cn := 8) rfl k0_J4_append_cf468 kV_J4_append_cf468 kl_L_69 ⟨by decide, by decide⟩ dL_load_166 rfl rfl (Nat.le_of_ble_eq_true rfl) (by have e : R_J4_append_cf468.cells = 1 := rfl; omega) (by have e : R_J4_append_cf468.slots = 1024 := rfl; omega) rfl h (fun r hr => m_J4_append_cf468 hl0 ⟨r, hr, hr⟩) (fun x3 τ4 _ h => ?_)
      refine r_ldcS (j := 16) (text := ";") (by decide +kernel) dL_load_169 ?_
      refine r_callV (K' := Y_J4_append_15ec4) (R' := R_J4_append_15ec4) (idx := 56) (n := 1) (b := x3) (as := [(6, (16 : Nat))]) (rest := []) (C' := (299 + n * 3)) (D' := (285696 + n * 3072)) (cn := 8) rfl k0_J4_append_15ec4 kV_J4_append_15ec4 kl_L_56 ⟨by decide, by decide⟩ dL_load_171 rfl rfl (Nat.le_of_ble_eq_true rfl) (by have e : R_J4_append_15ec4.cells = 1 := rfl; omega) (by have e : R_J4_append_15ec4.slots = 1024 := rfl; omega) rfl h (fun r hr => m_J4_append_15ec4 hl0 ⟨r, hr, hr⟩) (fun x5 τ6 _ h => ?_)
      refine r_pop dL_load_174 rfl ?_
      refine r_iinc (L' := [(5, (0, (w32 (a5 + 1)))), (0, (4, a0)), (1, (6, a1)), (2, (0, a2)), (3, (0, a3)), (4, (4, a4))]) 5 dL_load_175 rfl (by decide) rfl ?_
      refine r_goto 147 dL_load_178 (by decide) ?_
      refine r_weak (L' := [(0, (4, a0)), (1, (6, a1)), (2, (0, a2)), (3, (0, a3)), (4, (4, a4)), (5, (0, (w32 (a5 + 1))))]) [1, 2, 3, 4, 5, 0] rfl ?_
      refine r_room (C' := (299 + n * 3)) (D' := (285696 + n * 3072)) (by omega) (by omega) ?_
      exact ih _ _ _ _ _ _ _ h

set_option maxRecDepth 100000 in
set_option maxHeartbeats 4000000 in
theorem t_L_load_144 {g : zF} (hl0 : g.2.2.2.1.stackTraces = false) {Q : zR × zS → Prop}   {a0 a1 a2 a3 a4 : Int} {σ : zS} (h : zo (f_L_load_144 g  a0 a1 a2 a3 a4 σ) Q) : zw g Y_L_load R_L_load 144 [(0, (4, a0)), (1, (6, a1)), (2, (0, a2)), (3, (0, a3)), (4, (4, a4))] [] σ 311 297984 Q := by
  unfold f_L_load_144 at h
  refine r_iconst (v := 0) dL_load_144 rfl rfl ?_
  refine r_istore (L' := [(5, (0, 0)), (0, (4, a0)), (1, (6, a1)), (2, (0, a2)), (3, (0, a3)), (4, (4, a4))]) dL_load_145 (by decide) rfl ?_
  refine r_weak (L' := [(0, (4, a0)), (1, (6, a1)), (2, (0, a2)), (3, (0, a3)), (4, (4, a4)), (5, (0, 0))]) [1, 2, 3, 4, 5, 0] rfl ?_
  refine r_room (C' := (299 + 4 * 3)) (D' := (285696 + 4 * 3072)) (by omega) (by omega) ?_
  exact t_L_load_147 hl0    4 _ _ _ _ _ _ _ h

set_option maxRecDepth 100000 in
set_option maxHeartbeats 4000000 in
theorem t_L_load_110 {g : zF} (hl0 : g.2.2.2.1.stackTraces = false) {Q : zR × zS → Prop}   : ∀ (n : Nat) (a0 a1 a2 a3 a4 a5 : Int) (σ : zS), zo (f_L_load_110 g  n a0 a1 a2 a3 a4 a5 σ) Q → zw g Y_L_load R_L_load 110 [(0, (4, a0)), (1, (6, a1)), (2, (0, a2)), (3, (0, a3)), (4, (4, a4)), (5, (0, a5))] [] σ (308 + n * 3) (294912 + n * 3072) Q := by
  intro n
  induction n with
  | zero => intro a0 a1 a2 a3 a4 a5 σ h; obtain ⟨r, h, -⟩ := h; cases h
  | succ n ih =>
    intro a0 a1 a2 a3 a4 a5 σ h
    unfold f_L_load_110 at h
    refine r_room (C' := (311 + n * 3)) (D' := (297984 + n * 3072)) (by omega) (by omega) ?_
    refine r_iload 5 dL_load_110 rfl ?_
    refine r_iload_n 2 dL_load_112 rfl ?_
    refine r_icmp_ge 144 dL_load_113 (by decide) h (fun h => ?_) (fun h => ?_)
    · refine r_room (C' := 311) (D' := 297984) (by omega) (by omega) ?_
      refine r_weak (L' := [(0, (4, a0)), (1, (6, a1)), (2, (0, a2)), (3, (0, a3)), (4, (4, a4))]) [0, 1, 2, 3, 4] rfl ?_
      refine r_room (C' := 311) (D' := 297984) (by omega) (by omega) ?_
      exact t_L_load_144 hl0    h
    · refine r_aload 4 dL_load_116 rfl ?_
      refine r_ldcS (j := 17) (text := "agent a") (by decide +kernel) dL_load_118 ?_
      refine r_callV (K' := Y_J4_append_15ec4) (R' := R_J4_append_15ec4) (idx := 56) (n := 1) (b := a4) (as := [(6, (17 : Nat))]) (rest := []) (C' := (310 + n * 3)) (D' := (296960 + n * 3072)) (cn := 8) rfl k0_J4_append_15ec4 kV_J4_append_15ec4 kl_L_56 ⟨by decide, by decide⟩ dL_load_120 rfl rfl (Nat.le_of_ble_eq_true rfl) (by have e : R_J4_append_15ec4.cells = 1 := rfl; omega) (by have e : R_J4_append_15ec4.slots = 1024 := rfl; omega) rfl h (fun r hr => m_J4_append_15ec4 hl0 ⟨r, hr, hr⟩) (fun x1 τ2 _ h => ?_)
      refine r_bipush (v := 97) dL_load_123 rfl rfl ?_
      refine r_iload 5 dL_load_125 rfl ?_
      refine r_iadd dL_load_127 ?_
      refine r_i2cJ dL_load_128 h (fun h => ?_)
      refine r_callV (K' := Y_J4_append_cf468) (R' := R_J4_append_cf468) (idx := 69) (n := 1) (b := x1) (as := [(0, (w32 (97 + a5)))]) (rest := []) (C' := (309 + n * 3)) (D' := (295936 + n * 3072)) (cn := 8) rfl k0_J4_append_cf468 kV_J4_append_cf468 kl_L_69 ⟨by decide, by decide⟩ dL_load_129 rfl rfl (Nat.le_of_ble_eq_true rfl) (by have e : R_J4_append_cf468.cells = 1 := rfl; omega) (by have e : R_J4_append_cf468.slots = 1024 := rfl; omega) rfl h (fun r hr => m_J4_append_cf468 hl0 ⟨r, hr, hr⟩) (fun x3 τ4 _ h => ?_)
      refine r_ldcS (j := 16) (text := ";") (by decide +kernel) dL_load_132 ?_
      refine r_callV (K' := Y_J4_append_15ec4) (R' := R_J4_append_15ec4) (idx := 56) (n := 1) (b := x3) (as := [(6, (16 : Nat))]) (rest := []) (C' := (308 + n * 3)) (D' := (294912 + n * 3072)) (cn := 8) rfl k0_J4_append_15ec4 kV_J4_append_15ec4 kl_L_56 ⟨by decide, by decide⟩ dL_load_134 rfl rfl (Nat.le_of_ble_eq_true rfl) (by have e : R_J4_append_15ec4.cells = 1 := rfl; omega) (by have e : R_J4_append_15ec4.slots = 1024 := rfl; omega) rfl h (fun r hr => m_J4_append_15ec4 hl0 ⟨r, hr, hr⟩) (fun x5 τ6 _ h => ?_)
      refine r_pop dL_load_137 rfl ?_
      refine r_iinc (L' := [(5, (0, (w32 (a5 + 1)))), (0, (4, a0)), (1, (6, a1)), (2, (0, a2)), (3, (0, a3)), (4, (4, a4))]) 5 dL_load_138 rfl (by decide) rfl ?_
      refine r_goto 110 dL_load_141 (by decide) ?_
      refine r_weak (L' := [(0, (4, a0)), (1, (6, a1)), (2, (0, a2)), (3, (0, a3)), (4, (4, a4)), (5, (0, (w32 (a5 + 1))))]) [1, 2, 3, 4, 5, 0] rfl ?_
      refine r_room (C' := (308 + n * 3)) (D' := (294912 + n * 3072)) (by omega) (by omega) ?_
      exact ih _ _ _ _ _ _ _ h

set_option maxRecDepth 100000 in
set_option maxHeartbeats 4000000 in
theorem t_L_load {g : zF} (hl0 : g.2.2.2.1.stackTraces = false) {Q : zR × zS → Prop}   {a0 a1 : Int} {σ : zS} (h : zo (f_L_load g  a0 a1 σ) Q) : zw g Y_L_load R_L_load 0 [(0, (4, a0)), (1, (6, a1))] [] σ 339 324676 Q := by
  unfold f_L_load at h
  refine r_iconst (v := 1) dL_load_0 rfl rfl ?_
  refine r_aload_n 1 dL_load_1 rfl ?_
  refine r_iconst (v := 0) dL_load_2 rfl rfl ?_
  refine r_iconst (v := 5) dL_load_3 rfl rfl ?_
  refine r_callS (K' := Y_L_draw) (R' := R_L_draw) (idx := 40) (n := 3) (as := [(6, a1), (0, 0), (0, 5)]) (rest := [(0, 1)]) (C' := 339) (D' := 324676) rfl k0_L_draw wd_333 kl_L_40 ⟨by decide, by decide⟩ dL_load_4 rfl rfl (Nat.le_of_ble_eq_true rfl) (by decide) (by decide) h (fun r hr => m_L_draw hl0 ⟨r, hr, hr⟩) (fun x1 τ2 _ h => ?_)
  refine r_iadd dL_load_7 ?_
  refine r_istore_n (L' := [(2, (0, (w32 (1 + x1)))), (0, (4, a0)), (1, (6, a1))]) dL_load_8 (by decide) rfl ?_
  refine r_iconst (v := 1) dL_load_9 rfl rfl ?_
  refine r_aload_n 2 dL_load_10 rfl ?_
  refine r_iconst (v := 1) dL_load_11 rfl rfl ?_
  refine r_iconst (v := 3) dL_load_12 rfl rfl ?_
  refine r_callS (K' := Y_L_draw) (R' := R_L_draw) (idx := 40) (n := 3) (as := [(6, a1), (0, 1), (0, 3)]) (rest := [(0, 1)]) (C' := 339) (D' := 324676) rfl k0_L_draw wd_333 kl_L_40 ⟨by decide, by decide⟩ dL_load_13 rfl rfl (Nat.le_of_ble_eq_true rfl) (by decide) (by decide) h (fun r hr => m_L_draw hl0 ⟨r, hr, hr⟩) (fun x3 τ4 _ h => ?_)
  refine r_iadd dL_load_16 ?_
  refine r_istore_n (L' := [(3, (0, (w32 (1 + x3)))), (2, (0, (w32 (1 + x1)))), (0, (4, a0)), (1, (6, a1))]) dL_load_17 (by decide) rfl ?_
  refine r_new (C' := 338) (D' := 324672) nw_L_44 dL_load_18 (by decide) (by decide) h (fun x5 τ6 h => ?_)
  refine r_dup dL_load_21 rfl ?_
  refine r_ldcS (j := 11) (text := "rules drift ") (by decide +kernel) dL_load_22 ?_
  obtain ⟨h0, h⟩ := zite_o h
  refine r_callI (K' := Y_J4_init_a7421) (R' := R_J4_init_a7421) (idx := 48) (n := 1) (b := x5) (as := [(6, (11 : Nat))]) (rest := [(4, x5)]) (C' := 336) (D' := 323584) rfl k0_J4_init_a7421 kI_J4_init_a7421 kl_L_48 ⟨by decide, by decide⟩ dL_load_24 rfl rfl (Nat.le_of_ble_eq_true rfl) (by decide) (by decide) h h0 (fun r hr => m_J4_init_a7421 hl0 ⟨r, hr, hr⟩) (fun _ τ8 _ h => ?_)
  refine r_aload_n 3 dL_load_27 rfl ?_
  refine r_iconst (v := 2) dL_load_28 rfl rfl ?_
  refine r_iconst (v := 4) dL_load_29 rfl rfl ?_
  refine r_callS (K' := Y_L_draw) (R' := R_L_draw) (idx := 40) (n := 3) (as := [(6, a1), (0, 2), (0, 4)]) (rest := [(4, x5)]) (C' := 336) (D' := 323584) rfl k0_L_draw wd_333 kl_L_40 ⟨by decide, by decide⟩ dL_load_30 rfl rfl (Nat.le_of_ble_eq_true rfl) (by decide) (by decide) h (fun r hr => m_L_draw hl0 ⟨r, hr, hr⟩) (fun x9 τ10 _ h => ?_)
  refine r_callV (K' := Y_J4_append_bf812) (R' := R_J4_append_bf812) (idx := 51) (n := 1) (b := x5) (as := [(0, x9)]) (rest := []) (C' := 335) (D' := 322560) (cn := 8) rfl k0_J4_append_bf812 kV_J4_append_bf812 kl_L_51 ⟨by decide, by decide⟩ dL_load_33 rfl rfl (Nat.le_of_ble_eq_true rfl) (by decide) (by decide) rfl h (fun r hr => m_J4_append_bf812 hl0 ⟨r, hr, hr⟩) (fun x11 τ12 _ h => ?_)
  refine r_ldcS (j := 12) (text := " slack ") (by decide +kernel) dL_load_36 ?_
  refine r_callV (K' := Y_J4_append_15ec4) (R' := R_J4_append_15ec4) (idx := 56) (n := 1) (b := x11) (as := [(6, (12 : Nat))]) (rest := []) (C' := 334) (D' := 321536) (cn := 8) rfl k0_J4_append_15ec4 kV_J4_append_15ec4 kl_L_56 ⟨by decide, by decide⟩ dL_load_38 rfl rfl (Nat.le_of_ble_eq_true rfl) (by decide) (by decide) rfl h (fun r hr => m_J4_append_15ec4 hl0 ⟨r, hr, hr⟩) (fun x13 τ14 _ h => ?_)
  refine r_aload_n 3 dL_load_41 rfl ?_
  refine r_iconst (v := 3) dL_load_42 rfl rfl ?_
  refine r_bipush (v := 12) dL_load_43 rfl rfl ?_
  refine r_callS (K' := Y_L_draw) (R' := R_L_draw) (idx := 40) (n := 3) (as := [(6, a1), (0, 3), (0, 12)]) (rest := [(4, x13)]) (C' := 334) (D' := 321536) rfl k0_L_draw wd_333 kl_L_40 ⟨by decide, by decide⟩ dL_load_45 rfl rfl (Nat.le_of_ble_eq_true rfl) (by decide) (by decide) h (fun r hr => m_L_draw hl0 ⟨r, hr, hr⟩) (fun x15 τ16 _ h => ?_)
  refine r_callV (K' := Y_J4_append_bf812) (R' := R_J4_append_bf812) (idx := 51) (n := 1) (b := x13) (as := [(0, x15)]) (rest := []) (C' := 333) (D' := 320512) (cn := 8) rfl k0_J4_append_bf812 kV_J4_append_bf812 kl_L_51 ⟨by decide, by decide⟩ dL_load_48 rfl rfl (Nat.le_of_ble_eq_true rfl) (by decide) (by decide) rfl h (fun r hr => m_J4_append_bf812 hl0 ⟨r, hr, hr⟩) (fun x17 τ18 _ h => ?_)
  refine r_ldcS (j := 13) (text := " least ") (by decide +kernel) dL_load_51 ?_
  refine r_callV (K' := Y_J4_append_15ec4) (R' := R_J4_append_15ec4) (idx := 56) (n := 1) (b := x17) (as := [(6, (13 : Nat))]) (rest := []) (C' := 332) (D' := 319488) (cn := 8) rfl k0_J4_append_15ec4 kV_J4_append_15ec4 kl_L_56 ⟨by decide, by decide⟩ dL_load_53 rfl rfl (Nat.le_of_ble_eq_true rfl) (by decide) (by decide) rfl h (fun r hr => m_J4_append_15ec4 hl0 ⟨r, hr, hr⟩) (fun x19 τ20 _ h => ?_)
  refine r_aload_n 3 dL_load_56 rfl ?_
  refine r_iconst (v := 4) dL_load_57 rfl rfl ?_
  refine r_bipush (v := 7) dL_load_58 rfl rfl ?_
  refine r_callS (K' := Y_L_draw) (R' := R_L_draw) (idx := 40) (n := 3) (as := [(6, a1), (0, 4), (0, 7)]) (rest := [(4, x19)]) (C' := 332) (D' := 319488) rfl k0_L_draw wd_333 kl_L_40 ⟨by decide, by decide⟩ dL_load_60 rfl rfl (Nat.le_of_ble_eq_true rfl) (by decide) (by decide) h (fun r hr => m_L_draw hl0 ⟨r, hr, hr⟩) (fun x21 τ22 _ h => ?_)
  refine r_callV (K' := Y_J4_append_bf812) (R' := R_J4_append_bf812) (idx := 51) (n := 1) (b := x19) (as := [(0, x21)]) (rest := []) (C' := 331) (D' := 318464) (cn := 8) rfl k0_J4_append_bf812 kV_J4_append_bf812 kl_L_51 ⟨by decide, by decide⟩ dL_load_63 rfl rfl (Nat.le_of_ble_eq_true rfl) (by decide) (by decide) rfl h (fun r hr => m_J4_append_bf812 hl0 ⟨r, hr, hr⟩) (fun x23 τ24 _ h => ?_)
  refine r_ldcS (j := 14) (text := " age ") (by decide +kernel) dL_load_66 ?_
  refine r_callV (K' := Y_J4_append_15ec4) (R' := R_J4_append_15ec4) (idx := 56) (n := 1) (b := x23) (as := [(6, (14 : Nat))]) (rest := []) (C' := 330) (D' := 317440) (cn := 8) rfl k0_J4_append_15ec4 kV_J4_append_15ec4 kl_L_56 ⟨by decide, by decide⟩ dL_load_68 rfl rfl (Nat.le_of_ble_eq_true rfl) (by decide) (by decide) rfl h (fun r hr => m_J4_append_15ec4 hl0 ⟨r, hr, hr⟩) (fun x25 τ26 _ h => ?_)
  refine r_iconst (v := 2) dL_load_71 rfl rfl ?_
  refine r_aload_n 3 dL_load_72 rfl ?_
  refine r_iconst (v := 5) dL_load_73 rfl rfl ?_
  refine r_bipush (v := 40) dL_load_74 rfl rfl ?_
  refine r_callS (K' := Y_L_draw) (R' := R_L_draw) (idx := 40) (n := 3) (as := [(6, a1), (0, 5), (0, 40)]) (rest := [(0, 2), (4, x25)]) (C' := 330) (D' := 317440) rfl k0_L_draw wd_333 kl_L_40 ⟨by decide, by decide⟩ dL_load_76 rfl rfl (Nat.le_of_ble_eq_true rfl) (by decide) (by decide) h (fun r hr => m_L_draw hl0 ⟨r, hr, hr⟩) (fun x27 τ28 _ h => ?_)
  refine r_iadd dL_load_79 ?_
  refine r_callV (K' := Y_J4_append_bf812) (R' := R_J4_append_bf812) (idx := 51) (n := 1) (b := x25) (as := [(0, (w32 (2 + x27)))]) (rest := []) (C' := 329) (D' := 316416) (cn := 8) rfl k0_J4_append_bf812 kV_J4_append_bf812 kl_L_51 ⟨by decide, by decide⟩ dL_load_80 rfl rfl (Nat.le_of_ble_eq_true rfl) (by decide) (by decide) rfl h (fun r hr => m_J4_append_bf812 hl0 ⟨r, hr, hr⟩) (fun x29 τ30 _ h => ?_)
  refine r_ldcS (j := 15) (text := " hops ") (by decide +kernel) dL_load_83 ?_
  refine r_callV (K' := Y_J4_append_15ec4) (R' := R_J4_append_15ec4) (idx := 56) (n := 1) (b := x29) (as := [(6, (15 : Nat))]) (rest := []) (C' := 328) (D' := 315392) (cn := 8) rfl k0_J4_append_15ec4 kV_J4_append_15ec4 kl_L_56 ⟨by decide, by decide⟩ dL_load_85 rfl rfl (Nat.le_of_ble_eq_true rfl) (by decide) (by decide) rfl h (fun r hr => m_J4_append_15ec4 hl0 ⟨r, hr, hr⟩) (fun x31 τ32 _ h => ?_)
  refine r_iconst (v := 1) dL_load_88 rfl rfl ?_
  refine r_aload_n 3 dL_load_89 rfl ?_
  refine r_bipush (v := 6) dL_load_90 rfl rfl ?_
  refine r_iconst (v := 3) dL_load_92 rfl rfl ?_
  refine r_callS (K' := Y_L_draw) (R' := R_L_draw) (idx := 40) (n := 3) (as := [(6, a1), (0, 6), (0, 3)]) (rest := [(0, 1), (4, x31)]) (C' := 328) (D' := 315392) rfl k0_L_draw wd_333 kl_L_40 ⟨by decide, by decide⟩ dL_load_93 rfl rfl (Nat.le_of_ble_eq_true rfl) (by decide) (by decide) h (fun r hr => m_L_draw hl0 ⟨r, hr, hr⟩) (fun x33 τ34 _ h => ?_)
  refine r_iadd dL_load_96 ?_
  refine r_callV (K' := Y_J4_append_bf812) (R' := R_J4_append_bf812) (idx := 51) (n := 1) (b := x31) (as := [(0, (w32 (1 + x33)))]) (rest := []) (C' := 327) (D' := 314368) (cn := 8) rfl k0_J4_append_bf812 kV_J4_append_bf812 kl_L_51 ⟨by decide, by decide⟩ dL_load_97 rfl rfl (Nat.le_of_ble_eq_true rfl) (by decide) (by decide) rfl h (fun r hr => m_J4_append_bf812 hl0 ⟨r, hr, hr⟩) (fun x35 τ36 _ h => ?_)
  refine r_ldcS (j := 16) (text := ";") (by decide +kernel) dL_load_100 ?_
  refine r_callV (K' := Y_J4_append_15ec4) (R' := R_J4_append_15ec4) (idx := 56) (n := 1) (b := x35) (as := [(6, (16 : Nat))]) (rest := []) (C' := 326) (D' := 313344) (cn := 8) rfl k0_J4_append_15ec4 kV_J4_append_15ec4 kl_L_56 ⟨by decide, by decide⟩ dL_load_102 rfl rfl (Nat.le_of_ble_eq_true rfl) (by decide) (by decide) rfl h (fun r hr => m_J4_append_15ec4 hl0 ⟨r, hr, hr⟩) (fun x37 τ38 _ h => ?_)
  refine r_astore (L' := [(4, (4, x37)), (3, (0, (w32 (1 + x3)))), (2, (0, (w32 (1 + x1)))), (0, (4, a0)), (1, (6, a1))]) dL_load_105 (by decide) rfl ?_
  refine r_iconst (v := 0) dL_load_107 rfl rfl ?_
  refine r_istore (L' := [(5, (0, 0)), (4, (4, x37)), (3, (0, (w32 (1 + x3)))), (2, (0, (w32 (1 + x1)))), (0, (4, a0)), (1, (6, a1))]) dL_load_108 (by decide) rfl ?_
  refine r_weak (L' := [(0, (4, a0)), (1, (6, a1)), (2, (0, (w32 (1 + x1)))), (3, (0, (w32 (1 + x3)))), (4, (4, x37)), (5, (0, 0))]) [4, 5, 3, 2, 1, 0] rfl ?_
  refine r_room (C' := (308 + 6 * 3)) (D' := (294912 + 6 * 3072)) (by omega) (by omega) ?_
  exact t_L_load_110 hl0    6 _ _ _ _ _ _ _ h
theorem m_L_load {g : zF} (hl0 : g.2.2.2.1.stackTraces = false) {Q : zR × zS → Prop} {a0 a1 : Int} {σ : zS} (h : zo (f_L_load g a0 a1 σ) Q) : zm g Y_L_load R_L_load [(4, a0), (6, a1)] σ Q := zm_of (by decide) rfl (Nat.le_of_ble_eq_true rfl) (t_L_load hl0 h)

