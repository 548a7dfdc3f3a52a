set_option maxHeartbeats 4000000 in
theorem t_L_12 {g : zF} (hl0 : g.2.2.2.1.stackTraces = false) (hL9 : zsl9 g ≤ 3072) {x m o d i : Int} {σ : zS} {C' D' : Nat} {P : zS → Prop} (hi : 0 ≤ i) (hi6 : i + 6 ≤ (zsl9 g : Int)) (hx : σ.1.1 x = some (0, 7)) (h : q_L_12 x m o d (fun j => zscr g (i.toNat + j)) P σ) (kk : ∀ τ, P τ → zw g Y_L_law room_1 3919 [(0, (6, 200)), (1, (4, x)), (2, (4, m)), (3, (4, o)), (4, (4, d)), (5, (0, i))] [] τ C' D' zQ1) : zw g Y_L_law room_1 817 [(0, (6, 200)), (1, (4, x)), (2, (4, m)), (3, (4, o)), (4, (4, d)), (5, (0, i))] [] σ (C' + 31) (D' + 7344) zQ1 := by
  unfold q_L_12 at h
  refine r_aload_n 1 dL_law_817 rfl ?_
  refine r_scrk (k := 1) 0 5 hL9 hi (by omega) dL_law_818 rfl dL_law_819 rfl dL_law_821 dL_law_822 dL_law_823 ?_
  refine r_aload_n 3 dL_law_824 rfl ?_
  refine r_callSH (K' := Y_L_mostTrusted) (R' := R_L_mostTrusted) (idx := 239) (n := 3) (as := [(4, x), (0, (zscr g (i.toNat + 1))), (4, o)]) (rest := []) (C' := C') (D' := D') k0_L_mostTrusted wl_891 wl_890 ⟨by decide, by decide⟩ dL_law_825 rfl rfl (Nat.le_of_ble_eq_true rfl) (by have e : R_L_mostTrusted.cells = 1 := rfl; omega) (by have e : R_L_mostTrusted.slots = 6 := rfl; omega) (m_L_mostTrusted hl0 hx h) (fun e τ hq => by obtain ⟨c, τ', e0, -⟩ := hq; cases e0) (fun c9 τ9 hq => ?_)
  obtain ⟨c, τ, e0, hk⟩ := hq
  obtain ⟨e1, e2⟩ : c9 = c ∧ τ9 = τ := by cases e0; exact ⟨rfl, rfl⟩
  rw [e1, e2]
  obtain ⟨hm1, b, τ1, hb, hm2, t, τ2, ht, hc, hv, hP⟩ := hk
  refine r_istore (L' := [(6, (0, c)), (0, (6, 200)), (1, (4, x)), (2, (4, m)), (3, (4, o)), (4, (4, d)), (5, (0, i))]) dL_law_828 (by decide) rfl ?_
  refine r_aload_n 3 dL_law_830 rfl ?_
  refine r_scrk (k := 1) 1 6 hL9 hi (by omega) dL_law_831 rfl dL_law_832 rfl dL_law_834 dL_law_835 dL_law_836 ?_
  refine r_callVC (K' := Y_X8_mostTrusted) (R' := R_X8_mostTrusted) (idx := 241) (n := 1) (b := m) (as := [(0, (zscr g (i.toNat + 1)))]) (rest := []) (cn := 8) (C' := C') (D' := D') k0_X8_mostTrusted kV_X8_mostTrusted kl_L_241 ⟨by decide, by decide⟩ dL_law_837 rfl rfl (Nat.le_of_ble_eq_true rfl) (by have e : R_X8_mostTrusted.cells = 0 := rfl; omega) (by have e : R_X8_mostTrusted.slots = 0 := rfl; omega) rfl hm1 ⟨_, hb⟩ (fun r hr => m_X8_mostTrusted hl0 ⟨r, hr, hr⟩) (fun ex τ n q hq hn => by rw [hb] at hq; cases hq) (fun v9 τ9 hq => ?_)
  obtain ⟨e1, e2⟩ : v9 = b ∧ τ9 = τ1 := by rw [hb] at hq; cases hq; exact ⟨rfl, rfl⟩
  rw [e1, e2]
  refine r_istore (L' := [(7, (0, b)), (6, (0, c)), (0, (6, 200)), (1, (4, x)), (2, (4, m)), (3, (4, o)), (4, (4, d)), (5, (0, i))]) dL_law_840 (by decide) rfl ?_
  refine r_aload_n 4 dL_law_842 rfl ?_
  refine r_callVC (K' := Y_X8_thrown) (R' := R_X8_thrown) (idx := 195) (n := 0) (b := m) (as := []) (rest := []) (cn := 8) (C' := C') (D' := D') k0_X8_thrown kV_X8_thrown kl_L_195 ⟨by decide, by decide⟩ dL_law_843 rfl rfl (Nat.le_of_ble_eq_true rfl) (by have e : R_X8_thrown.cells = 0 := rfl; omega) (by have e : R_X8_thrown.slots = 0 := rfl; omega) rfl hm2 ⟨_, ht⟩ (fun r hr => m_X8_thrown hl0 ⟨r, hr, hr⟩) (fun ex τ n q hq hn => by rw [ht] at hq; cases hq) (fun v9 τ9 hq => ?_)
  obtain ⟨e1, e2⟩ : v9 = t ∧ τ9 = τ2 := by rw [ht] at hq; cases hq; exact ⟨rfl, rfl⟩
  rw [e1, e2]
  refine r_iload 1 dL_law_846 rfl ?_
  refine r_icmp_eq 853 dL_law_848 (by decide) (z_yes (σ := σ) hc) (fun _ => ?_) (fun h => by obtain ⟨r, h, -⟩ := h; cases h)
  refine r_iload 1 dL_law_853 rfl ?_
  refine r_if_ne 870 dL_law_855 (by decide) (z_br (σ := σ)) (fun _ => ?_) (fun h => ?_)
  · refine r_goto 3919 dL_law_870 (by decide) ?_
    refine r_weak (L' := [(0, (6, 200)), (1, (4, x)), (2, (4, m)), (3, (4, o)), (4, (4, d)), (5, (0, i))]) [2, 3, 4, 5, 6, 7] rfl ?_
    exact kk _ hP
  · have hv := hv (zite_p h)
    refine r_aload_n 5 dL_law_858 rfl ?_
    refine r_iconst (v := 0) dL_law_859 rfl rfl ?_
    refine r_lald dL_law_860 hv (fun v h => ?_)
    refine r_iload 0 dL_law_861 rfl ?_
    refine r_i2l dL_law_863 ?_
    refine r_lcmp dL_law_864 ?_
    refine r_if_eq 870 dL_law_865 (by decide) (z_yes (σ := σ) (zlc_eq (zite_p h))) (fun _ => ?_) (fun h => by obtain ⟨r, h, -⟩ := h; cases h)
    refine r_goto 3919 dL_law_870 (by decide) ?_
    refine r_weak (L' := [(0, (6, 200)), (1, (4, x)), (2, (4, m)), (3, (4, o)), (4, (4, d)), (5, (0, i))]) [2, 3, 4, 5, 6, 7] rfl ?_
    exact kk _ hP
set_option maxHeartbeats 4000000 in
theorem t_L_13 {g : zF} (hl0 : g.2.2.2.1.stackTraces = false) (hL9 : zsl9 g ≤ 3072) {x m o d i : Int} {σ : zS} {C' D' : Nat} {P : zS → Prop} (hi : 0 ≤ i) (hi6 : i + 6 ≤ (zsl9 g : Int)) (hx : σ.1.1 x = some (0, 7)) (h : q_L_13 x m o d (fun j => zscr g (i.toNat + j)) P σ) (kk : ∀ τ, P τ → zw g Y_L_law room_1 3919 [(0, (6, 200)), (1, (4, x)), (2, (4, m)), (3, (4, o)), (4, (4, d)), (5, (0, i))] [] τ C' D' zQ1) : zw g Y_L_law room_1 873 [(0, (6, 200)), (1, (4, x)), (2, (4, m)), (3, (4, o)), (4, (4, d)), (5, (0, i))] [] σ (C' + 31) (D' + 7344) zQ1 := by
  unfold q_L_13 at h
  refine r_aload_n 1 dL_law_873 rfl ?_
  refine r_scrk (k := 1) 0 5 hL9 hi (by omega) dL_law_874 rfl dL_law_875 rfl dL_law_877 dL_law_878 dL_law_879 ?_
  refine r_aload_n 3 dL_law_880 rfl ?_
  refine r_callSH (K' := Y_L_reports) (R' := R_L_reports) (idx := 242) (n := 3) (as := [(4, x), (0, (zscr g (i.toNat + 1))), (4, o)]) (rest := []) (C' := C') (D' := D') k0_L_reports wl_898 wl_897 ⟨by decide, by decide⟩ dL_law_881 rfl rfl (Nat.le_of_ble_eq_true rfl) (by have e : R_L_reports.cells = 1 := rfl; omega) (by have e : R_L_reports.slots = 6 := rfl; omega) (m_L_reports hl0 hx h) (fun e τ hq => by obtain ⟨c, τ', e0, -⟩ := hq; cases e0) (fun c9 τ9 hq => ?_)
  obtain ⟨c, τ, e0, hk⟩ := hq
  obtain ⟨e1, e2⟩ : c9 = c ∧ τ9 = τ := by cases e0; exact ⟨rfl, rfl⟩
  rw [e1, e2]
  obtain ⟨hm1, b, τ1, hb, hm2, t, τ2, ht, hc, hv, hP⟩ := hk
  refine r_istore (L' := [(6, (0, c)), (0, (6, 200)), (1, (4, x)), (2, (4, m)), (3, (4, o)), (4, (4, d)), (5, (0, i))]) dL_law_884 (by decide) rfl ?_
  refine r_aload_n 3 dL_law_886 rfl ?_
  refine r_scrk (k := 1) 1 6 hL9 hi (by omega) dL_law_887 rfl dL_law_888 rfl dL_law_890 dL_law_891 dL_law_892 ?_
  refine r_callVC (K' := Y_X8_reports) (R' := R_X8_reports) (idx := 244) (n := 1) (b := m) (as := [(0, (zscr g (i.toNat + 1)))]) (rest := []) (cn := 8) (C' := C') (D' := D') k0_X8_reports kV_X8_reports kl_L_244 ⟨by decide, by decide⟩ dL_law_893 rfl rfl (Nat.le_of_ble_eq_true rfl) (by have e : R_X8_reports.cells = 0 := rfl; omega) (by have e : R_X8_reports.slots = 0 := rfl; omega) rfl hm1 ⟨_, hb⟩ (fun r hr => m_X8_reports hl0 ⟨r, hr, hr⟩) (fun ex τ n q hq hn => by rw [hb] at hq; cases hq) (fun v9 τ9 hq => ?_)
  obtain ⟨e1, e2⟩ : v9 = b ∧ τ9 = τ1 := by rw [hb] at hq; cases hq; exact ⟨rfl, rfl⟩
  rw [e1, e2]
  refine r_istore (L' := [(7, (0, b)), (6, (0, c)), (0, (6, 200)), (1, (4, x)), (2, (4, m)), (3, (4, o)), (4, (4, d)), (5, (0, i))]) dL_law_896 (by decide) rfl ?_
  refine r_aload_n 4 dL_law_898 rfl ?_
  refine r_callVC (K' := Y_X8_thrown) (R' := R_X8_thrown) (idx := 195) (n := 0) (b := m) (as := []) (rest := []) (cn := 8) (C' := C') (D' := D') k0_X8_thrown kV_X8_thrown kl_L_195 ⟨by decide, by decide⟩ dL_law_899 rfl rfl (Nat.le_of_ble_eq_true rfl) (by have e : R_X8_thrown.cells = 0 := rfl; omega) (by have e : R_X8_thrown.slots = 0 := rfl; omega) rfl hm2 ⟨_, ht⟩ (fun r hr => m_X8_thrown hl0 ⟨r, hr, hr⟩) (fun ex τ n q hq hn => by rw [ht] at hq; cases hq) (fun v9 τ9 hq => ?_)
  obtain ⟨e1, e2⟩ : v9 = t ∧ τ9 = τ2 := by rw [ht] at hq; cases hq; exact ⟨rfl, rfl⟩
  rw [e1, e2]
  refine r_iload 1 dL_law_902 rfl ?_
  refine r_icmp_eq 909 dL_law_904 (by decide) (z_yes (σ := σ) hc) (fun _ => ?_) (fun h => by obtain ⟨r, h, -⟩ := h; cases h)
  refine r_iload 1 dL_law_909 rfl ?_
  refine r_if_ne 926 dL_law_911 (by decide) (z_br (σ := σ)) (fun _ => ?_) (fun h => ?_)
  · refine r_goto 3919 dL_law_926 (by decide) ?_
    refine r_weak (L' := [(0, (6, 200)), (1, (4, x)), (2, (4, m)), (3, (4, o)), (4, (4, d)), (5, (0, i))]) [2, 3, 4, 5, 6, 7] rfl ?_
    exact kk _ hP
  · have hv := hv (zite_p h)
    refine r_aload_n 5 dL_law_914 rfl ?_
    refine r_iconst (v := 0) dL_law_915 rfl rfl ?_
    refine r_lald dL_law_916 hv (fun v h => ?_)
    refine r_iload 0 dL_law_917 rfl ?_
    refine r_i2l dL_law_919 ?_
    refine r_lcmp dL_law_920 ?_
    refine r_if_eq 926 dL_law_921 (by decide) (z_yes (σ := σ) (zlc_eq (zite_p h))) (fun _ => ?_) (fun h => by obtain ⟨r, h, -⟩ := h; cases h)
    refine r_goto 3919 dL_law_926 (by decide) ?_
    refine r_weak (L' := [(0, (6, 200)), (1, (4, x)), (2, (4, m)), (3, (4, o)), (4, (4, d)), (5, (0, i))]) [2, 3, 4, 5, 6, 7] rfl ?_
    exact kk _ hP
set_option maxHeartbeats 4000000 in
theorem t_L_14 {g : zF} (hl0 : g.2.2.2.1.stackTraces = false) (hL9 : zsl9 g ≤ 3072) {x m o d i : Int} {σ : zS} {C' D' : Nat} {P : zS → Prop} (hi : 0 ≤ i) (hi6 : i + 6 ≤ (zsl9 g : Int)) (hx : σ.1.1 x = some (0, 7)) (h : q_L_14 x m o d (fun j => zscr g (i.toNat + j)) P σ) (kk : ∀ τ, P τ → zw g Y_L_law room_1 3919 [(0, (6, 200)), (1, (4, x)), (2, (4, m)), (3, (4, o)), (4, (4, d)), (5, (0, i))] [] τ C' D' zQ1) : zw g Y_L_law room_1 929 [(0, (6, 200)), (1, (4, x)), (2, (4, m)), (3, (4, o)), (4, (4, d)), (5, (0, i))] [] σ (C' + 31) (D' + 7344) zQ1 := by
  unfold q_L_14 at h
  refine r_aload_n 1 dL_law_929 rfl ?_
  refine r_scrk (k := 1) 0 5 hL9 hi (by omega) dL_law_930 rfl dL_law_931 rfl dL_law_933 dL_law_934 dL_law_935 ?_
  refine r_scrk (k := 2) 0 5 hL9 hi (by omega) dL_law_936 rfl dL_law_937 rfl dL_law_939 dL_law_940 dL_law_941 ?_
  refine r_scrk (k := 3) 0 5 hL9 hi (by omega) dL_law_942 rfl dL_law_943 rfl dL_law_945 dL_law_946 dL_law_947 ?_
  refine r_aload_n 3 dL_law_948 rfl ?_
  refine r_callSH (K' := Y_L_report) (R' := R_L_report) (idx := 245) (n := 5) (as := [(4, x), (0, (zscr g (i.toNat + 1))), (0, (zscr g (i.toNat + 2))), (0, (zscr g (i.toNat + 3))), (4, o)]) (rest := []) (C' := C') (D' := D') k0_L_report wl_906 wl_905 ⟨by decide, by decide⟩ dL_law_949 rfl rfl (Nat.le_of_ble_eq_true rfl) (by have e : R_L_report.cells = 3 := rfl; omega) (by have e : R_L_report.slots = 18 := rfl; omega) (m_L_report hl0 hx h) (fun e τ hq => by obtain ⟨c, τ', e0, -⟩ := hq; cases e0) (fun c9 τ9 hq => ?_)
  obtain ⟨c, τ, e0, hk⟩ := hq
  obtain ⟨e1, e2⟩ : c9 = c ∧ τ9 = τ := by cases e0; exact ⟨rfl, rfl⟩
  rw [e1, e2]
  obtain ⟨hm1, b, τ1, hb, hm2, t, τ2, ht, hc, hv, hP⟩ := hk
  refine r_istore (L' := [(6, (0, c)), (0, (6, 200)), (1, (4, x)), (2, (4, m)), (3, (4, o)), (4, (4, d)), (5, (0, i))]) dL_law_952 (by decide) rfl ?_
  refine r_aload_n 3 dL_law_954 rfl ?_
  refine r_scrk (k := 1) 1 6 hL9 hi (by omega) dL_law_955 rfl dL_law_956 rfl dL_law_958 dL_law_959 dL_law_960 ?_
  refine r_scrk (k := 2) 1 6 hL9 hi (by omega) dL_law_961 rfl dL_law_962 rfl dL_law_964 dL_law_965 dL_law_966 ?_
  refine r_scrk (k := 3) 1 6 hL9 hi (by omega) dL_law_967 rfl dL_law_968 rfl dL_law_970 dL_law_971 dL_law_972 ?_
  refine r_callVC (K' := Y_X8_report) (R' := R_X8_report) (idx := 248) (n := 3) (b := m) (as := [(0, (zscr g (i.toNat + 1))), (0, (zscr g (i.toNat + 2))), (0, (zscr g (i.toNat + 3)))]) (rest := []) (cn := 8) (C' := C') (D' := D') k0_X8_report kV_X8_report kl_L_248 ⟨by decide, by decide⟩ dL_law_973 rfl rfl (Nat.le_of_ble_eq_true rfl) (by have e : R_X8_report.cells = 0 := rfl; omega) (by have e : R_X8_report.slots = 0 := rfl; omega) rfl hm1 ⟨_, hb⟩ (fun r hr => m_X8_report hl0 ⟨r, hr, hr⟩) (fun ex τ n q hq hn => by rw [hb] at hq; cases hq) (fun v9 τ9 hq => ?_)
  obtain ⟨e1, e2⟩ : v9 = b ∧ τ9 = τ1 := by rw [hb] at hq; cases hq; exact ⟨rfl, rfl⟩
  rw [e1, e2]
  refine r_istore (L' := [(7, (0, b)), (6, (0, c)), (0, (6, 200)), (1, (4, x)), (2, (4, m)), (3, (4, o)), (4, (4, d)), (5, (0, i))]) dL_law_976 (by decide) rfl ?_
  refine r_aload_n 4 dL_law_978 rfl ?_
  refine r_callVC (K' := Y_X8_thrown) (R' := R_X8_thrown) (idx := 195) (n := 0) (b := m) (as := []) (rest := []) (cn := 8) (C' := C') (D' := D') k0_X8_thrown kV_X8_thrown kl_L_195 ⟨by decide, by decide⟩ dL_law_979 rfl rfl (Nat.le_of_ble_eq_true rfl) (by have e : R_X8_thrown.cells = 0 := rfl; omega) (by have e : R_X8_thrown.slots = 0 := rfl; omega) rfl hm2 ⟨_, ht⟩ (fun r hr => m_X8_thrown hl0 ⟨r, hr, hr⟩) (fun ex τ n q hq hn => by rw [ht] at hq; cases hq) (fun v9 τ9 hq => ?_)
  obtain ⟨e1, e2⟩ : v9 = t ∧ τ9 = τ2 := by rw [ht] at hq; cases hq; exact ⟨rfl, rfl⟩
  rw [e1, e2]
  refine r_iload 1 dL_law_982 rfl ?_
  refine r_icmp_eq 989 dL_law_984 (by decide) (z_yes (σ := σ) hc) (fun _ => ?_) (fun h => by obtain ⟨r, h, -⟩ := h; cases h)
  refine r_iload 1 dL_law_989 rfl ?_
  refine r_if_ne 1006 dL_law_991 (by decide) (z_br (σ := σ)) (fun _ => ?_) (fun h => ?_)
  · refine r_goto 3919 dL_law_1006 (by decide) ?_
    refine r_weak (L' := [(0, (6, 200)), (1, (4, x)), (2, (4, m)), (3, (4, o)), (4, (4, d)), (5, (0, i))]) [2, 3, 4, 5, 6, 7] rfl ?_
    exact kk _ hP
  · have hv := hv (zite_p h)
    refine r_aload_n 5 dL_law_994 rfl ?_
    refine r_iconst (v := 0) dL_law_995 rfl rfl ?_
    refine r_lald dL_law_996 hv (fun v h => ?_)
    refine r_iload 0 dL_law_997 rfl ?_
    refine r_i2l dL_law_999 ?_
    refine r_lcmp dL_law_1000 ?_
    refine r_if_eq 1006 dL_law_1001 (by decide) (z_yes (σ := σ) (zlc_eq (zite_p h))) (fun _ => ?_) (fun h => by obtain ⟨r, h, -⟩ := h; cases h)
    refine r_goto 3919 dL_law_1006 (by decide) ?_
    refine r_weak (L' := [(0, (6, 200)), (1, (4, x)), (2, (4, m)), (3, (4, o)), (4, (4, d)), (5, (0, i))]) [2, 3, 4, 5, 6, 7] rfl ?_
    exact kk _ hP
set_option maxHeartbeats 4000000 in
theorem t_L_15 {g : zF} (hl0 : g.2.2.2.1.stackTraces = false) (hL9 : zsl9 g ≤ 3072) {x m o d i : Int} {σ : zS} {C' D' : Nat} {P : zS → Prop} (hi : 0 ≤ i) (hi6 : i + 6 ≤ (zsl9 g : Int)) (hx : σ.1.1 x = some (0, 7)) (h : q_L_15 x m o d (fun j => zscr g (i.toNat + j)) P σ) (kk : ∀ τ, P τ → zw g Y_L_law room_1 3919 [(0, (6, 200)), (1, (4, x)), (2, (4, m)), (3, (4, o)), (4, (4, d)), (5, (0, i))] [] τ C' D' zQ1) : zw g Y_L_law room_1 1009 [(0, (6, 200)), (1, (4, x)), (2, (4, m)), (3, (4, o)), (4, (4, d)), (5, (0, i))] [] σ (C' + 31) (D' + 7344) zQ1 := by
  unfold q_L_15 at h
  refine r_aload_n 1 dL_law_1009 rfl ?_
  refine r_scrk (k := 1) 0 5 hL9 hi (by omega) dL_law_1010 rfl dL_law_1011 rfl dL_law_1013 dL_law_1014 dL_law_1015 ?_
  refine r_scrk (k := 2) 0 5 hL9 hi (by omega) dL_law_1016 rfl dL_law_1017 rfl dL_law_1019 dL_law_1020 dL_law_1021 ?_
  refine r_aload_n 3 dL_law_1022 rfl ?_
  refine r_callSH (K' := Y_L_status) (R' := R_L_status) (idx := 249) (n := 4) (as := [(4, x), (0, (zscr g (i.toNat + 1))), (0, (zscr g (i.toNat + 2))), (4, o)]) (rest := []) (C' := C') (D' := D') k0_L_status wl_919 wl_918 ⟨by decide, by decide⟩ dL_law_1023 rfl rfl (Nat.le_of_ble_eq_true rfl) (by have e : R_L_status.cells = 2 := rfl; omega) (by have e : R_L_status.slots = 12 := rfl; omega) (m_L_status hl0 hx h) (fun e τ hq => by obtain ⟨c, τ', e0, -⟩ := hq; cases e0) (fun c9 τ9 hq => ?_)
  obtain ⟨c, τ, e0, hk⟩ := hq
  obtain ⟨e1, e2⟩ : c9 = c ∧ τ9 = τ := by cases e0; exact ⟨rfl, rfl⟩
  rw [e1, e2]
  obtain ⟨hm1, b, τ1, hb, hm2, t, τ2, ht, hc, hv, hP⟩ := hk
  refine r_istore (L' := [(6, (0, c)), (0, (6, 200)), (1, (4, x)), (2, (4, m)), (3, (4, o)), (4, (4, d)), (5, (0, i))]) dL_law_1026 (by decide) rfl ?_
  refine r_aload_n 3 dL_law_1028 rfl ?_
  refine r_scrk (k := 1) 1 6 hL9 hi (by omega) dL_law_1029 rfl dL_law_1030 rfl dL_law_1032 dL_law_1033 dL_law_1034 ?_
  refine r_scrk (k := 2) 1 6 hL9 hi (by omega) dL_law_1035 rfl dL_law_1036 rfl dL_law_1038 dL_law_1039 dL_law_1040 ?_
  refine r_callVC (K' := Y_X8_status) (R' := R_X8_status) (idx := 251) (n := 2) (b := m) (as := [(0, (zscr g (i.toNat + 1))), (0, (zscr g (i.toNat + 2)))]) (rest := []) (cn := 8) (C' := C') (D' := D') k0_X8_status kV_X8_status kl_L_251 ⟨by decide, by decide⟩ dL_law_1041 rfl rfl (Nat.le_of_ble_eq_true rfl) (by have e : R_X8_status.cells = 0 := rfl; omega) (by have e : R_X8_status.slots = 0 := rfl; omega) rfl hm1 ⟨_, hb⟩ (fun r hr => m_X8_status hl0 ⟨r, hr, hr⟩) (fun ex τ n q hq hn => by rw [hb] at hq; cases hq) (fun v9 τ9 hq => ?_)
  obtain ⟨e1, e2⟩ : v9 = b ∧ τ9 = τ1 := by rw [hb] at hq; cases hq; exact ⟨rfl, rfl⟩
  rw [e1, e2]
  refine r_istore (L' := [(7, (0, b)), (6, (0, c)), (0, (6, 200)), (1, (4, x)), (2, (4, m)), (3, (4, o)), (4, (4, d)), (5, (0, i))]) dL_law_1044 (by decide) rfl ?_
  refine r_aload_n 4 dL_law_1046 rfl ?_
  refine r_callVC (K' := Y_X8_thrown) (R' := R_X8_thrown) (idx := 195) (n := 0) (b := m) (as := []) (rest := []) (cn := 8) (C' := C') (D' := D') k0_X8_thrown kV_X8_thrown kl_L_195 ⟨by decide, by decide⟩ dL_law_1047 rfl rfl (Nat.le_of_ble_eq_true rfl) (by have e : R_X8_thrown.cells = 0 := rfl; omega) (by have e : R_X8_thrown.slots = 0 := rfl; omega) rfl hm2 ⟨_, ht⟩ (fun r hr => m_X8_thrown hl0 ⟨r, hr, hr⟩) (fun ex τ n q hq hn => by rw [ht] at hq; cases hq) (fun v9 τ9 hq => ?_)
  obtain ⟨e1, e2⟩ : v9 = t ∧ τ9 = τ2 := by rw [ht] at hq; cases hq; exact ⟨rfl, rfl⟩
  rw [e1, e2]
  refine r_iload 1 dL_law_1050 rfl ?_
  refine r_icmp_eq 1057 dL_law_1052 (by decide) (z_yes (σ := σ) hc) (fun _ => ?_) (fun h => by obtain ⟨r, h, -⟩ := h; cases h)
  refine r_iload 1 dL_law_1057 rfl ?_
  refine r_if_ne 1074 dL_law_1059 (by decide) (z_br (σ := σ)) (fun _ => ?_) (fun h => ?_)
  · refine r_goto 3919 dL_law_1074 (by decide) ?_
    refine r_weak (L' := [(0, (6, 200)), (1, (4, x)), (2, (4, m)), (3, (4, o)), (4, (4, d)), (5, (0, i))]) [2, 3, 4, 5, 6, 7] rfl ?_
    exact kk _ hP
  · have hv := hv (zite_p h)
    refine r_aload_n 5 dL_law_1062 rfl ?_
    refine r_iconst (v := 0) dL_law_1063 rfl rfl ?_
    refine r_lald dL_law_1064 hv (fun v h => ?_)
    refine r_iload 0 dL_law_1065 rfl ?_
    refine r_i2l dL_law_1067 ?_
    refine r_lcmp dL_law_1068 ?_
    refine r_if_eq 1074 dL_law_1069 (by decide) (z_yes (σ := σ) (zlc_eq (zite_p h))) (fun _ => ?_) (fun h => by obtain ⟨r, h, -⟩ := h; cases h)
    refine r_goto 3919 dL_law_1074 (by decide) ?_
    refine r_weak (L' := [(0, (6, 200)), (1, (4, x)), (2, (4, m)), (3, (4, o)), (4, (4, d)), (5, (0, i))]) [2, 3, 4, 5, 6, 7] rfl ?_
    exact kk _ hP
set_option maxHeartbeats 4000000 in
theorem t_L_16 {g : zF} (hl0 : g.2.2.2.1.stackTraces = false) (hL9 : zsl9 g ≤ 3072) {x m o d i : Int} {σ : zS} {C' D' : Nat} {P : zS → Prop} (hi : 0 ≤ i) (hi6 : i + 6 ≤ (zsl9 g : Int)) (hx : σ.1.1 x = some (0, 7)) (h : q_L_16 x m o d (fun j => zscr g (i.toNat + j)) P σ) (kk : ∀ τ, P τ → zw g Y_L_law room_1 3919 [(0, (6, 200)), (1, (4, x)), (2, (4, m)), (3, (4, o)), (4, (4, d)), (5, (0, i))] [] τ C' D' zQ1) : zw g Y_L_law room_1 1077 [(0, (6, 200)), (1, (4, x)), (2, (4, m)), (3, (4, o)), (4, (4, d)), (5, (0, i))] [] σ (C' + 31) (D' + 7344) zQ1 := by
  unfold q_L_16 at h
  refine r_aload_n 1 dL_law_1077 rfl ?_
  refine r_scrk (k := 1) 0 5 hL9 hi (by omega) dL_law_1078 rfl dL_law_1079 rfl dL_law_1081 dL_law_1082 dL_law_1083 ?_
  refine r_scrk (k := 2) 0 5 hL9 hi (by omega) dL_law_1084 rfl dL_law_1085 rfl dL_law_1087 dL_law_1088 dL_law_1089 ?_
  refine r_scrk (k := 3) 0 5 hL9 hi (by omega) dL_law_1090 rfl dL_law_1091 rfl dL_law_1093 dL_law_1094 dL_law_1095 ?_
  refine r_aload_n 3 dL_law_1096 rfl ?_
  refine r_callSH (K' := Y_L_moved) (R' := R_L_moved) (idx := 252) (n := 5) (as := [(4, x), (0, (zscr g (i.toNat + 1))), (0, (zscr g (i.toNat + 2))), (0, (zscr g (i.toNat + 3))), (4, o)]) (rest := []) (C' := C') (D' := D') k0_L_moved wl_962 wl_961 ⟨by decide, by decide⟩ dL_law_1097 rfl rfl (Nat.le_of_ble_eq_true rfl) (by have e : R_L_moved.cells = 3 := rfl; omega) (by have e : R_L_moved.slots = 18 := rfl; omega) (m_L_moved hl0 hx h) (fun e τ hq => by obtain ⟨c, τ', e0, -⟩ := hq; cases e0) (fun c9 τ9 hq => ?_)
  obtain ⟨c, τ, e0, hk⟩ := hq
  obtain ⟨e1, e2⟩ : c9 = c ∧ τ9 = τ := by cases e0; exact ⟨rfl, rfl⟩
  rw [e1, e2]
  obtain ⟨hm1, b, τ1, hb, hm2, t, τ2, ht, hc, hv, hP⟩ := hk
  refine r_istore (L' := [(6, (0, c)), (0, (6, 200)), (1, (4, x)), (2, (4, m)), (3, (4, o)), (4, (4, d)), (5, (0, i))]) dL_law_1100 (by decide) rfl ?_
  refine r_aload_n 3 dL_law_1102 rfl ?_
  refine r_scrk (k := 1) 1 6 hL9 hi (by omega) dL_law_1103 rfl dL_law_1104 rfl dL_law_1106 dL_law_1107 dL_law_1108 ?_
  refine r_scrk (k := 2) 1 6 hL9 hi (by omega) dL_law_1109 rfl dL_law_1110 rfl dL_law_1112 dL_law_1113 dL_law_1114 ?_
  refine r_scrk (k := 3) 1 6 hL9 hi (by omega) dL_law_1115 rfl dL_law_1116 rfl dL_law_1118 dL_law_1119 dL_law_1120 ?_
  refine r_callVC (K' := Y_X8_moved) (R' := R_X8_moved) (idx := 254) (n := 3) (b := m) (as := [(0, (zscr g (i.toNat + 1))), (0, (zscr g (i.toNat + 2))), (0, (zscr g (i.toNat + 3)))]) (rest := []) (cn := 8) (C' := C') (D' := D') k0_X8_moved kV_X8_moved kl_L_254 ⟨by decide, by decide⟩ dL_law_1121 rfl rfl (Nat.le_of_ble_eq_true rfl) (by have e : R_X8_moved.cells = 0 := rfl; omega) (by have e : R_X8_moved.slots = 0 := rfl; omega) rfl hm1 ⟨_, hb⟩ (fun r hr => m_X8_moved hl0 ⟨r, hr, hr⟩) (fun ex τ n q hq hn => by rw [hb] at hq; cases hq) (fun v9 τ9 hq => ?_)
  obtain ⟨e1, e2⟩ : v9 = b ∧ τ9 = τ1 := by rw [hb] at hq; cases hq; exact ⟨rfl, rfl⟩
  rw [e1, e2]
  refine r_istore (L' := [(7, (0, b)), (6, (0, c)), (0, (6, 200)), (1, (4, x)), (2, (4, m)), (3, (4, o)), (4, (4, d)), (5, (0, i))]) dL_law_1124 (by decide) rfl ?_
  refine r_aload_n 4 dL_law_1126 rfl ?_
  refine r_callVC (K' := Y_X8_thrown) (R' := R_X8_thrown) (idx := 195) (n := 0) (b := m) (as := []) (rest := []) (cn := 8) (C' := C') (D' := D') k0_X8_thrown kV_X8_thrown kl_L_195 ⟨by decide, by decide⟩ dL_law_1127 rfl rfl (Nat.le_of_ble_eq_true rfl) (by have e : R_X8_thrown.cells = 0 := rfl; omega) (by have e : R_X8_thrown.slots = 0 := rfl; omega) rfl hm2 ⟨_, ht⟩ (fun r hr => m_X8_thrown hl0 ⟨r, hr, hr⟩) (fun ex τ n q hq hn => by rw [ht] at hq; cases hq) (fun v9 τ9 hq => ?_)
  obtain ⟨e1, e2⟩ : v9 = t ∧ τ9 = τ2 := by rw [ht] at hq; cases hq; exact ⟨rfl, rfl⟩
  rw [e1, e2]
  refine r_iload 1 dL_law_1130 rfl ?_
  refine r_icmp_eq 1137 dL_law_1132 (by decide) (z_yes (σ := σ) hc) (fun _ => ?_) (fun h => by obtain ⟨r, h, -⟩ := h; cases h)
  refine r_iload 1 dL_law_1137 rfl ?_
  refine r_if_ne 1154 dL_law_1139 (by decide) (z_br (σ := σ)) (fun _ => ?_) (fun h => ?_)
  · refine r_goto 3919 dL_law_1154 (by decide) ?_
    refine r_weak (L' := [(0, (6, 200)), (1, (4, x)), (2, (4, m)), (3, (4, o)), (4, (4, d)), (5, (0, i))]) [2, 3, 4, 5, 6, 7] rfl ?_
    exact kk _ hP
  · have hv := hv (zite_p h)
    refine r_aload_n 5 dL_law_1142 rfl ?_
    refine r_iconst (v := 0) dL_law_1143 rfl rfl ?_
    refine r_lald dL_law_1144 hv (fun v h => ?_)
    refine r_iload 0 dL_law_1145 rfl ?_
    refine r_i2l dL_law_1147 ?_
    refine r_lcmp dL_law_1148 ?_
    refine r_if_eq 1154 dL_law_1149 (by decide) (z_yes (σ := σ) (zlc_eq (zite_p h))) (fun _ => ?_) (fun h => by obtain ⟨r, h, -⟩ := h; cases h)
    refine r_goto 3919 dL_law_1154 (by decide) ?_
    refine r_weak (L' := [(0, (6, 200)), (1, (4, x)), (2, (4, m)), (3, (4, o)), (4, (4, d)), (5, (0, i))]) [2, 3, 4, 5, 6, 7] rfl ?_
    exact kk _ hP
set_option maxHeartbeats 4000000 in
theorem t_L_17 {g : zF} (hl0 : g.2.2.2.1.stackTraces = false) (hL9 : zsl9 g ≤ 3072) {x m o d i : Int} {σ : zS} {C' D' : Nat} {P : zS → Prop} (hi : 0 ≤ i) (hi6 : i + 6 ≤ (zsl9 g : Int)) (hx : σ.1.1 x = some (0, 7)) (h : q_L_17 x m o d (fun j => zscr g (i.toNat + j)) P σ) (kk : ∀ τ, P τ → zw g Y_L_law room_1 3919 [(0, (6, 200)), (1, (4, x)), (2, (4, m)), (3, (4, o)), (4, (4, d)), (5, (0, i))] [] τ C' D' zQ1) : zw g Y_L_law room_1 1157 [(0, (6, 200)), (1, (4, x)), (2, (4, m)), (3, (4, o)), (4, (4, d)), (5, (0, i))] [] σ (C' + 31) (D' + 7344) zQ1 := by
  unfold q_L_17 at h
  refine r_aload_n 1 dL_law_1157 rfl ?_
  refine r_scrk (k := 1) 0 5 hL9 hi (by omega) dL_law_1158 rfl dL_law_1159 rfl dL_law_1161 dL_law_1162 dL_law_1163 ?_
  refine r_scrk (k := 2) 0 5 hL9 hi (by omega) dL_law_1164 rfl dL_law_1165 rfl dL_law_1167 dL_law_1168 dL_law_1169 ?_
  refine r_aload_n 3 dL_law_1170 rfl ?_
  refine r_callSH (K' := Y_L_own) (R' := R_L_own) (idx := 255) (n := 4) (as := [(4, x), (0, (zscr g (i.toNat + 1))), (0, (zscr g (i.toNat + 2))), (4, o)]) (rest := []) (C' := C') (D' := D') k0_L_own wl_972 wl_971 ⟨by decide, by decide⟩ dL_law_1171 rfl rfl (Nat.le_of_ble_eq_true rfl) (by have e : R_L_own.cells = 2 := rfl; omega) (by have e : R_L_own.slots = 12 := rfl; omega) (m_L_own hl0 hx h) (fun e τ hq => by obtain ⟨c, τ', e0, -⟩ := hq; cases e0) (fun c9 τ9 hq => ?_)
  obtain ⟨c, τ, e0, hk⟩ := hq
  obtain ⟨e1, e2⟩ : c9 = c ∧ τ9 = τ := by cases e0; exact ⟨rfl, rfl⟩
  rw [e1, e2]
  obtain ⟨hm1, b, τ1, hb, hm2, t, τ2, ht, hc, hv, hP⟩ := hk
  refine r_istore (L' := [(6, (0, c)), (0, (6, 200)), (1, (4, x)), (2, (4, m)), (3, (4, o)), (4, (4, d)), (5, (0, i))]) dL_law_1174 (by decide) rfl ?_
  refine r_aload_n 3 dL_law_1176 rfl ?_
  refine r_scrk (k := 1) 1 6 hL9 hi (by omega) dL_law_1177 rfl dL_law_1178 rfl dL_law_1180 dL_law_1181 dL_law_1182 ?_
  refine r_scrk (k := 2) 1 6 hL9 hi (by omega) dL_law_1183 rfl dL_law_1184 rfl dL_law_1186 dL_law_1187 dL_law_1188 ?_
  refine r_callVC (K' := Y_X8_own) (R' := R_X8_own) (idx := 257) (n := 2) (b := m) (as := [(0, (zscr g (i.toNat + 1))), (0, (zscr g (i.toNat + 2)))]) (rest := []) (cn := 8) (C' := C') (D' := D') k0_X8_own kV_X8_own kl_L_257 ⟨by decide, by decide⟩ dL_law_1189 rfl rfl (Nat.le_of_ble_eq_true rfl) (by have e : R_X8_own.cells = 0 := rfl; omega) (by have e : R_X8_own.slots = 0 := rfl; omega) rfl hm1 ⟨_, hb⟩ (fun r hr => m_X8_own hl0 ⟨r, hr, hr⟩) (fun ex τ n q hq hn => by rw [hb] at hq; cases hq) (fun v9 τ9 hq => ?_)
  obtain ⟨e1, e2⟩ : v9 = b ∧ τ9 = τ1 := by rw [hb] at hq; cases hq; exact ⟨rfl, rfl⟩
  rw [e1, e2]
  refine r_istore (L' := [(7, (0, b)), (6, (0, c)), (0, (6, 200)), (1, (4, x)), (2, (4, m)), (3, (4, o)), (4, (4, d)), (5, (0, i))]) dL_law_1192 (by decide) rfl ?_
  refine r_aload_n 4 dL_law_1194 rfl ?_
  refine r_callVC (K' := Y_X8_thrown) (R' := R_X8_thrown) (idx := 195) (n := 0) (b := m) (as := []) (rest := []) (cn := 8) (C' := C') (D' := D') k0_X8_thrown kV_X8_thrown kl_L_195 ⟨by decide, by decide⟩ dL_law_1195 rfl rfl (Nat.le_of_ble_eq_true rfl) (by have e : R_X8_thrown.cells = 0 := rfl; omega) (by have e : R_X8_thrown.slots = 0 := rfl; omega) rfl hm2 ⟨_, ht⟩ (fun r hr => m_X8_thrown hl0 ⟨r, hr, hr⟩) (fun ex τ n q hq hn => by rw [ht] at hq; cases hq) (fun v9 τ9 hq => ?_)
  obtain ⟨e1, e2⟩ : v9 = t ∧ τ9 = τ2 := by rw [ht] at hq; cases hq; exact ⟨rfl, rfl⟩
  rw [e1, e2]
  refine r_iload 1 dL_law_1198 rfl ?_
  refine r_icmp_eq 1205 dL_law_1200 (by decide) (z_yes (σ := σ) hc) (fun _ => ?_) (fun h => by obtain ⟨r, h, -⟩ := h; cases h)
  refine r_iload 1 dL_law_1205 rfl ?_
  refine r_if_ne 1222 dL_law_1207 (by decide) (z_br (σ := σ)) (fun _ => ?_) (fun h => ?_)
  · refine r_goto 3919 dL_law_1222 (by decide) ?_
    refine r_weak (L' := [(0, (6, 200)), (1, (4, x)), (2, (4, m)), (3, (4, o)), (4, (4, d)), (5, (0, i))]) [2, 3, 4, 5, 6, 7] rfl ?_
    exact kk _ hP
  · have hv := hv (zite_p h)
    refine r_aload_n 5 dL_law_1210 rfl ?_
    refine r_iconst (v := 0) dL_law_1211 rfl rfl ?_
    refine r_lald dL_law_1212 hv (fun v h => ?_)
    refine r_iload 0 dL_law_1213 rfl ?_
    refine r_i2l dL_law_1215 ?_
    refine r_lcmp dL_law_1216 ?_
    refine r_if_eq 1222 dL_law_1217 (by decide) (z_yes (σ := σ) (zlc_eq (zite_p h))) (fun _ => ?_) (fun h => by obtain ⟨r, h, -⟩ := h; cases h)
    refine r_goto 3919 dL_law_1222 (by decide) ?_
    refine r_weak (L' := [(0, (6, 200)), (1, (4, x)), (2, (4, m)), (3, (4, o)), (4, (4, d)), (5, (0, i))]) [2, 3, 4, 5, 6, 7] rfl ?_
    exact kk _ hP
set_option maxHeartbeats 4000000 in
theorem t_L_18 {g : zF} (hl0 : g.2.2.2.1.stackTraces = false) (hL9 : zsl9 g ≤ 3072) {x m o d i : Int} {σ : zS} {C' D' : Nat} {P : zS → Prop} (hi : 0 ≤ i) (hi6 : i + 6 ≤ (zsl9 g : Int)) (hx : σ.1.1 x = some (0, 7)) (h : q_L_18 x m o d (fun j => zscr g (i.toNat + j)) P σ) (kk : ∀ τ, P τ → zw g Y_L_law room_1 3919 [(0, (6, 200)), (1, (4, x)), (2, (4, m)), (3, (4, o)), (4, (4, d)), (5, (0, i))] [] τ C' D' zQ1) : zw g Y_L_law room_1 1225 [(0, (6, 200)), (1, (4, x)), (2, (4, m)), (3, (4, o)), (4, (4, d)), (5, (0, i))] [] σ (C' + 31) (D' + 7344) zQ1 := by
  unfold q_L_18 at h
  refine r_aload_n 1 dL_law_1225 rfl ?_
  refine r_scrk (k := 1) 0 5 hL9 hi (by omega) dL_law_1226 rfl dL_law_1227 rfl dL_law_1229 dL_law_1230 dL_law_1231 ?_
  refine r_scrk (k := 2) 0 5 hL9 hi (by omega) dL_law_1232 rfl dL_law_1233 rfl dL_law_1235 dL_law_1236 dL_law_1237 ?_
  refine r_scrk (k := 3) 0 5 hL9 hi (by omega) dL_law_1238 rfl dL_law_1239 rfl dL_law_1241 dL_law_1242 dL_law_1243 ?_
  refine r_aload_n 3 dL_law_1244 rfl ?_
  refine r_callSH (K' := Y_L_belief) (R' := R_L_belief) (idx := 258) (n := 5) (as := [(4, x), (0, (zscr g (i.toNat + 1))), (0, (zscr g (i.toNat + 2))), (0, (zscr g (i.toNat + 3))), (4, o)]) (rest := []) (C' := C') (D' := D') k0_L_belief wl_985 wl_984 ⟨by decide, by decide⟩ dL_law_1245 rfl rfl (Nat.le_of_ble_eq_true rfl) (by have e : R_L_belief.cells = 3 := rfl; omega) (by have e : R_L_belief.slots = 18 := rfl; omega) (m_L_belief hl0 hx h) (fun e τ hq => by obtain ⟨c, τ', e0, -⟩ := hq; cases e0) (fun c9 τ9 hq => ?_)
  obtain ⟨c, τ, e0, hk⟩ := hq
  obtain ⟨e1, e2⟩ : c9 = c ∧ τ9 = τ := by cases e0; exact ⟨rfl, rfl⟩
  rw [e1, e2]
  obtain ⟨hm1, b, τ1, hb, hm2, t, τ2, ht, hc, hv, hP⟩ := hk
  refine r_istore (L' := [(6, (0, c)), (0, (6, 200)), (1, (4, x)), (2, (4, m)), (3, (4, o)), (4, (4, d)), (5, (0, i))]) dL_law_1248 (by decide) rfl ?_
  refine r_aload_n 3 dL_law_1250 rfl ?_
  refine r_scrk (k := 1) 1 6 hL9 hi (by omega) dL_law_1251 rfl dL_law_1252 rfl dL_law_1254 dL_law_1255 dL_law_1256 ?_
  refine r_scrk (k := 2) 1 6 hL9 hi (by omega) dL_law_1257 rfl dL_law_1258 rfl dL_law_1260 dL_law_1261 dL_law_1262 ?_
  refine r_scrk (k := 3) 1 6 hL9 hi (by omega) dL_law_1263 rfl dL_law_1264 rfl dL_law_1266 dL_law_1267 dL_law_1268 ?_
  refine r_callVC (K' := Y_X8_belief) (R' := R_X8_belief) (idx := 260) (n := 3) (b := m) (as := [(0, (zscr g (i.toNat + 1))), (0, (zscr g (i.toNat + 2))), (0, (zscr g (i.toNat + 3)))]) (rest := []) (cn := 8) (C' := C') (D' := D') k0_X8_belief kV_X8_belief kl_L_260 ⟨by decide, by decide⟩ dL_law_1269 rfl rfl (Nat.le_of_ble_eq_true rfl) (by have e : R_X8_belief.cells = 0 := rfl; omega) (by have e : R_X8_belief.slots = 0 := rfl; omega) rfl hm1 ⟨_, hb⟩ (fun r hr => m_X8_belief hl0 ⟨r, hr, hr⟩) (fun ex τ n q hq hn => by rw [hb] at hq; cases hq) (fun v9 τ9 hq => ?_)
  obtain ⟨e1, e2⟩ : v9 = b ∧ τ9 = τ1 := by rw [hb] at hq; cases hq; exact ⟨rfl, rfl⟩
  rw [e1, e2]
  refine r_istore (L' := [(7, (0, b)), (6, (0, c)), (0, (6, 200)), (1, (4, x)), (2, (4, m)), (3, (4, o)), (4, (4, d)), (5, (0, i))]) dL_law_1272 (by decide) rfl ?_
  refine r_aload_n 4 dL_law_1274 rfl ?_
  refine r_callVC (K' := Y_X8_thrown) (R' := R_X8_thrown) (idx := 195) (n := 0) (b := m) (as := []) (rest := []) (cn := 8) (C' := C') (D' := D') k0_X8_thrown kV_X8_thrown kl_L_195 ⟨by decide, by decide⟩ dL_law_1275 rfl rfl (Nat.le_of_ble_eq_true rfl) (by have e : R_X8_thrown.cells = 0 := rfl; omega) (by have e : R_X8_thrown.slots = 0 := rfl; omega) rfl hm2 ⟨_, ht⟩ (fun r hr => m_X8_thrown hl0 ⟨r, hr, hr⟩) (fun ex τ n q hq hn => by rw [ht] at hq; cases hq) (fun v9 τ9 hq => ?_)
  obtain ⟨e1, e2⟩ : v9 = t ∧ τ9 = τ2 := by rw [ht] at hq; cases hq; exact ⟨rfl, rfl⟩
  rw [e1, e2]
  refine r_iload 1 dL_law_1278 rfl ?_
  refine r_icmp_eq 1285 dL_law_1280 (by decide) (z_yes (σ := σ) hc) (fun _ => ?_) (fun h => by obtain ⟨r, h, -⟩ := h; cases h)
  refine r_iload 1 dL_law_1285 rfl ?_
  refine r_if_ne 1302 dL_law_1287 (by decide) (z_br (σ := σ)) (fun _ => ?_) (fun h => ?_)
  · refine r_goto 3919 dL_law_1302 (by decide) ?_
    refine r_weak (L' := [(0, (6, 200)), (1, (4, x)), (2, (4, m)), (3, (4, o)), (4, (4, d)), (5, (0, i))]) [2, 3, 4, 5, 6, 7] rfl ?_
    exact kk _ hP
  · have hv := hv (zite_p h)
    refine r_aload_n 5 dL_law_1290 rfl ?_
    refine r_iconst (v := 0) dL_law_1291 rfl rfl ?_
    refine r_lald dL_law_1292 hv (fun v h => ?_)
    refine r_iload 0 dL_law_1293 rfl ?_
    refine r_i2l dL_law_1295 ?_
    refine r_lcmp dL_law_1296 ?_
    refine r_if_eq 1302 dL_law_1297 (by decide) (z_yes (σ := σ) (zlc_eq (zite_p h))) (fun _ => ?_) (fun h => by obtain ⟨r, h, -⟩ := h; cases h)
    refine r_goto 3919 dL_law_1302 (by decide) ?_
    refine r_weak (L' := [(0, (6, 200)), (1, (4, x)), (2, (4, m)), (3, (4, o)), (4, (4, d)), (5, (0, i))]) [2, 3, 4, 5, 6, 7] rfl ?_
    exact kk _ hP
set_option maxHeartbeats 4000000 in
theorem t_L_19 {g : zF} (hl0 : g.2.2.2.1.stackTraces = false) (hL9 : zsl9 g ≤ 3072) {x m o d i : Int} {σ : zS} {C' D' : Nat} {P : zS → Prop} (hi : 0 ≤ i) (hi6 : i + 6 ≤ (zsl9 g : Int)) (hx : σ.1.1 x = some (0, 7)) (h : q_L_19 x m o d (fun j => zscr g (i.toNat + j)) P σ) (kk : ∀ τ, P τ → zw g Y_L_law room_1 3919 [(0, (6, 200)), (1, (4, x)), (2, (4, m)), (3, (4, o)), (4, (4, d)), (5, (0, i))] [] τ C' D' zQ1) : zw g Y_L_law room_1 1305 [(0, (6, 200)), (1, (4, x)), (2, (4, m)), (3, (4, o)), (4, (4, d)), (5, (0, i))] [] σ (C' + 31) (D' + 7344) zQ1 := by
  unfold q_L_19 at h
  refine r_aload_n 1 dL_law_1305 rfl ?_
  refine r_scrk (k := 1) 0 5 hL9 hi (by omega) dL_law_1306 rfl dL_law_1307 rfl dL_law_1309 dL_law_1310 dL_law_1311 ?_
  refine r_scrk (k := 2) 0 5 hL9 hi (by omega) dL_law_1312 rfl dL_law_1313 rfl dL_law_1315 dL_law_1316 dL_law_1317 ?_
  refine r_aload_n 3 dL_law_1318 rfl ?_
  refine r_callSH (K' := Y_L_sources) (R' := R_L_sources) (idx := 261) (n := 4) (as := [(4, x), (0, (zscr g (i.toNat + 1))), (0, (zscr g (i.toNat + 2))), (4, o)]) (rest := []) (C' := C') (D' := D') k0_L_sources wl_996 wl_995 ⟨by decide, by decide⟩ dL_law_1319 rfl rfl (Nat.le_of_ble_eq_true rfl) (by have e : R_L_sources.cells = 2 := rfl; omega) (by have e : R_L_sources.slots = 12 := rfl; omega) (m_L_sources hl0 hx h) (fun e τ hq => by obtain ⟨c, τ', e0, -⟩ := hq; cases e0) (fun c9 τ9 hq => ?_)
  obtain ⟨c, τ, e0, hk⟩ := hq
  obtain ⟨e1, e2⟩ : c9 = c ∧ τ9 = τ := by cases e0; exact ⟨rfl, rfl⟩
  rw [e1, e2]
  obtain ⟨hm1, b, τ1, hb, hm2, t, τ2, ht, hc, hv, hP⟩ := hk
  refine r_istore (L' := [(6, (0, c)), (0, (6, 200)), (1, (4, x)), (2, (4, m)), (3, (4, o)), (4, (4, d)), (5, (0, i))]) dL_law_1322 (by decide) rfl ?_
  refine r_aload_n 3 dL_law_1324 rfl ?_
  refine r_scrk (k := 1) 1 6 hL9 hi (by omega) dL_law_1325 rfl dL_law_1326 rfl dL_law_1328 dL_law_1329 dL_law_1330 ?_
  refine r_scrk (k := 2) 1 6 hL9 hi (by omega) dL_law_1331 rfl dL_law_1332 rfl dL_law_1334 dL_law_1335 dL_law_1336 ?_
  refine r_callVC (K' := Y_X8_sources) (R' := R_X8_sources) (idx := 263) (n := 2) (b := m) (as := [(0, (zscr g (i.toNat + 1))), (0, (zscr g (i.toNat + 2)))]) (rest := []) (cn := 8) (C' := C') (D' := D') k0_X8_sources kV_X8_sources kl_L_263 ⟨by decide, by decide⟩ dL_law_1337 rfl rfl (Nat.le_of_ble_eq_true rfl) (by have e : R_X8_sources.cells = 0 := rfl; omega) (by have e : R_X8_sources.slots = 0 := rfl; omega) rfl hm1 ⟨_, hb⟩ (fun r hr => m_X8_sources hl0 ⟨r, hr, hr⟩) (fun ex τ n q hq hn => by rw [hb] at hq; cases hq) (fun v9 τ9 hq => ?_)
  obtain ⟨e1, e2⟩ : v9 = b ∧ τ9 = τ1 := by rw [hb] at hq; cases hq; exact ⟨rfl, rfl⟩
  rw [e1, e2]
  refine r_istore (L' := [(7, (0, b)), (6, (0, c)), (0, (6, 200)), (1, (4, x)), (2, (4, m)), (3, (4, o)), (4, (4, d)), (5, (0, i))]) dL_law_1340 (by decide) rfl ?_
  refine r_aload_n 4 dL_law_1342 rfl ?_
  refine r_callVC (K' := Y_X8_thrown) (R' := R_X8_thrown) (idx := 195) (n := 0) (b := m) (as := []) (rest := []) (cn := 8) (C' := C') (D' := D') k0_X8_thrown kV_X8_thrown kl_L_195 ⟨by decide, by decide⟩ dL_law_1343 rfl rfl (Nat.le_of_ble_eq_true rfl) (by have e : R_X8_thrown.cells = 0 := rfl; omega) (by have e : R_X8_thrown.slots = 0 := rfl; omega) rfl hm2 ⟨_, ht⟩ (fun r hr => m_X8_thrown hl0 ⟨r, hr, hr⟩) (fun ex τ n q hq hn => by rw [ht] at hq; cases hq) (fun v9 τ9 hq => ?_)
  obtain ⟨e1, e2⟩ : v9 = t ∧ τ9 = τ2 := by rw [ht] at hq; cases hq; exact ⟨rfl, rfl⟩
  rw [e1, e2]
  refine r_iload 1 dL_law_1346 rfl ?_
  refine r_icmp_eq 1353 dL_law_1348 (by decide) (z_yes (σ := σ) hc) (fun _ => ?_) (fun h => by obtain ⟨r, h, -⟩ := h; cases h)
  refine r_iload 1 dL_law_1353 rfl ?_
  refine r_if_ne 1370 dL_law_1355 (by decide) (z_br (σ := σ)) (fun _ => ?_) (fun h => ?_)
  · refine r_goto 3919 dL_law_1370 (by decide) ?_
    refine r_weak (L' := [(0, (6, 200)), (1, (4, x)), (2, (4, m)), (3, (4, o)), (4, (4, d)), (5, (0, i))]) [2, 3, 4, 5, 6, 7] rfl ?_
    exact kk _ hP
  · have hv := hv (zite_p h)
    refine r_aload_n 5 dL_law_1358 rfl ?_
    refine r_iconst (v := 0) dL_law_1359 rfl rfl ?_
    refine r_lald dL_law_1360 hv (fun v h => ?_)
    refine r_iload 0 dL_law_1361 rfl ?_
    refine r_i2l dL_law_1363 ?_
    refine r_lcmp dL_law_1364 ?_
    refine r_if_eq 1370 dL_law_1365 (by decide) (z_yes (σ := σ) (zlc_eq (zite_p h))) (fun _ => ?_) (fun h => by obtain ⟨r, h, -⟩ := h; cases h)
    refine r_goto 3919 dL_law_1370 (by decide) ?_
    refine r_weak (L' := [(0, (6, 200)), (1, (4, x)), (2, (4, m)), (3, (4, o)), (4, (4, d)), (5, (0, i))]) [2, 3, 4, 5, 6, 7] rfl ?_
    exact kk _ hP
set_option maxHeartbeats 4000000 in
theorem t_L_20 {g : zF} (hl0 : g.2.2.2.1.stackTraces = false) (hL9 : zsl9 g ≤ 3072) {x m o d i : Int} {σ : zS} {C' D' : Nat} {P : zS → Prop} (hi : 0 ≤ i) (hi6 : i + 6 ≤ (zsl9 g : Int)) (hx : σ.1.1 x = some (0, 7)) (h : q_L_20 x m o d (fun j => zscr g (i.toNat + j)) P σ) (kk : ∀ τ, P τ → zw g Y_L_law room_1 3919 [(0, (6, 200)), (1, (4, x)), (2, (4, m)), (3, (4, o)), (4, (4, d)), (5, (0, i))] [] τ C' D' zQ1) : zw g Y_L_law room_1 1373 [(0, (6, 200)), (1, (4, x)), (2, (4, m)), (3, (4, o)), (4, (4, d)), (5, (0, i))] [] σ (C' + 31) (D' + 7344) zQ1 := by
  unfold q_L_20 at h
  refine r_aload_n 1 dL_law_1373 rfl ?_
  refine r_scrk (k := 1) 0 5 hL9 hi (by omega) dL_law_1374 rfl dL_law_1375 rfl dL_law_1377 dL_law_1378 dL_law_1379 ?_
  refine r_scrk (k := 2) 0 5 hL9 hi (by omega) dL_law_1380 rfl dL_law_1381 rfl dL_law_1383 dL_law_1384 dL_law_1385 ?_
  refine r_aload_n 3 dL_law_1386 rfl ?_
  refine r_callSH (K' := Y_L_contradicted) (R' := R_L_contradicted) (idx := 264) (n := 4) (as := [(4, x), (0, (zscr g (i.toNat + 1))), (0, (zscr g (i.toNat + 2))), (4, o)]) (rest := []) (C' := C') (D' := D') k0_L_contradicted wl_1011 wl_1010 ⟨by decide, by decide⟩ dL_law_1387 rfl rfl (Nat.le_of_ble_eq_true rfl) (by have e : R_L_contradicted.cells = 2 := rfl; omega) (by have e : R_L_contradicted.slots = 12 := rfl; omega) (m_L_contradicted hl0 hx h) (fun e τ hq => by obtain ⟨c, τ', e0, -⟩ := hq; cases e0) (fun c9 τ9 hq => ?_)
  obtain ⟨c, τ, e0, hk⟩ := hq
  obtain ⟨e1, e2⟩ : c9 = c ∧ τ9 = τ := by cases e0; exact ⟨rfl, rfl⟩
  rw [e1, e2]
  obtain ⟨hm1, b, τ1, hb, hm2, t, τ2, ht, hc, hv, hP⟩ := hk
  refine r_istore (L' := [(6, (0, c)), (0, (6, 200)), (1, (4, x)), (2, (4, m)), (3, (4, o)), (4, (4, d)), (5, (0, i))]) dL_law_1390 (by decide) rfl ?_
  refine r_aload_n 3 dL_law_1392 rfl ?_
  refine r_scrk (k := 1) 1 6 hL9 hi (by omega) dL_law_1393 rfl dL_law_1394 rfl dL_law_1396 dL_law_1397 dL_law_1398 ?_
  refine r_scrk (k := 2) 1 6 hL9 hi (by omega) dL_law_1399 rfl dL_law_1400 rfl dL_law_1402 dL_law_1403 dL_law_1404 ?_
  refine r_callVC (K' := Y_X8_contradicted) (R' := R_X8_contradicted) (idx := 266) (n := 2) (b := m) (as := [(0, (zscr g (i.toNat + 1))), (0, (zscr g (i.toNat + 2)))]) (rest := []) (cn := 8) (C' := C') (D' := D') k0_X8_contradicted kV_X8_contradicted kl_L_266 ⟨by decide, by decide⟩ dL_law_1405 rfl rfl (Nat.le_of_ble_eq_true rfl) (by have e : R_X8_contradicted.cells = 0 := rfl; omega) (by have e : R_X8_contradicted.slots = 0 := rfl; omega) rfl hm1 ⟨_, hb⟩ (fun r hr => m_X8_contradicted hl0 ⟨r, hr, hr⟩) (fun ex τ n q hq hn => by rw [hb] at hq; cases hq) (fun v9 τ9 hq => ?_)
  obtain ⟨e1, e2⟩ : v9 = b ∧ τ9 = τ1 := by rw [hb] at hq; cases hq; exact ⟨rfl, rfl⟩
  rw [e1, e2]
  refine r_istore (L' := [(7, (0, b)), (6, (0, c)), (0, (6, 200)), (1, (4, x)), (2, (4, m)), (3, (4, o)), (4, (4, d)), (5, (0, i))]) dL_law_1408 (by decide) rfl ?_
  refine r_aload_n 4 dL_law_1410 rfl ?_
  refine r_callVC (K' := Y_X8_thrown) (R' := R_X8_thrown) (idx := 195) (n := 0) (b := m) (as := []) (rest := []) (cn := 8) (C' := C') (D' := D') k0_X8_thrown kV_X8_thrown kl_L_195 ⟨by decide, by decide⟩ dL_law_1411 rfl rfl (Nat.le_of_ble_eq_true rfl) (by have e : R_X8_thrown.cells = 0 := rfl; omega) (by have e : R_X8_thrown.slots = 0 := rfl; omega) rfl hm2 ⟨_, ht⟩ (fun r hr => m_X8_thrown hl0 ⟨r, hr, hr⟩) (fun ex τ n q hq hn => by rw [ht] at hq; cases hq) (fun v9 τ9 hq => ?_)
  obtain ⟨e1, e2⟩ : v9 = t ∧ τ9 = τ2 := by rw [ht] at hq; cases hq; exact ⟨rfl, rfl⟩
  rw [e1, e2]
  refine r_iload 1 dL_law_1414 rfl ?_
  refine r_icmp_eq 1421 dL_law_1416 (by decide) (z_yes (σ := σ) hc) (fun _ => ?_) (fun h => by obtain ⟨r, h, -⟩ := h; cases h)
  refine r_iload 1 dL_law_1421 rfl ?_
  refine r_if_ne 1438 dL_law_1423 (by decide) (z_br (σ := σ)) (fun _ => ?_) (fun h => ?_)
  · refine r_goto 3919 dL_law_1438 (by decide) ?_
    refine r_weak (L' := [(0, (6, 200)), (1, (4, x)), (2, (4, m)), (3, (4, o)), (4, (4, d)), (5, (0, i))]) [2, 3, 4, 5, 6, 7] rfl ?_
    exact kk _ hP
  · have hv := hv (zite_p h)
    refine r_aload_n 5 dL_law_1426 rfl ?_
    refine r_iconst (v := 0) dL_law_1427 rfl rfl ?_
    refine r_lald dL_law_1428 hv (fun v h => ?_)
    refine r_iload 0 dL_law_1429 rfl ?_
    refine r_i2l dL_law_1431 ?_
    refine r_lcmp dL_law_1432 ?_
    refine r_if_eq 1438 dL_law_1433 (by decide) (z_yes (σ := σ) (zlc_eq (zite_p h))) (fun _ => ?_) (fun h => by obtain ⟨r, h, -⟩ := h; cases h)
    refine r_goto 3919 dL_law_1438 (by decide) ?_
    refine r_weak (L' := [(0, (6, 200)), (1, (4, x)), (2, (4, m)), (3, (4, o)), (4, (4, d)), (5, (0, i))]) [2, 3, 4, 5, 6, 7] rfl ?_
    exact kk _ hP
set_option maxHeartbeats 4000000 in
theorem t_L_21 {g : zF} (hl0 : g.2.2.2.1.stackTraces = false) (hL9 : zsl9 g ≤ 3072) {x m o d i : Int} {σ : zS} {C' D' : Nat} {P : zS → Prop} (hi : 0 ≤ i) (hi6 : i + 6 ≤ (zsl9 g : Int)) (hx : σ.1.1 x = some (0, 7)) (h : q_L_21 x m o d (fun j => zscr g (i.toNat + j)) P σ) (kk : ∀ τ, P τ → zw g Y_L_law room_1 3919 [(0, (6, 200)), (1, (4, x)), (2, (4, m)), (3, (4, o)), (4, (4, d)), (5, (0, i))] [] τ C' D' zQ1) : zw g Y_L_law room_1 1441 [(0, (6, 200)), (1, (4, x)), (2, (4, m)), (3, (4, o)), (4, (4, d)), (5, (0, i))] [] σ (C' + 31) (D' + 7344) zQ1 := by
  unfold q_L_21 at h
  refine r_aload_n 1 dL_law_1441 rfl ?_
  refine r_scrk (k := 1) 0 5 hL9 hi (by omega) dL_law_1442 rfl dL_law_1443 rfl dL_law_1445 dL_law_1446 dL_law_1447 ?_
  refine r_scrk (k := 2) 0 5 hL9 hi (by omega) dL_law_1448 rfl dL_law_1449 rfl dL_law_1451 dL_law_1452 dL_law_1453 ?_
  refine r_aload_n 3 dL_law_1454 rfl ?_
  refine r_callSH (K' := Y_L_majority) (R' := R_L_majority) (idx := 267) (n := 4) (as := [(4, x), (0, (zscr g (i.toNat + 1))), (0, (zscr g (i.toNat + 2))), (4, o)]) (rest := []) (C' := C') (D' := D') k0_L_majority wl_1018 wl_1017 ⟨by decide, by decide⟩ dL_law_1455 rfl rfl (Nat.le_of_ble_eq_true rfl) (by have e : R_L_majority.cells = 2 := rfl; omega) (by have e : R_L_majority.slots = 12 := rfl; omega) (m_L_majority hl0 hx h) (fun e τ hq => by obtain ⟨c, τ', e0, -⟩ := hq; cases e0) (fun c9 τ9 hq => ?_)
  obtain ⟨c, τ, e0, hk⟩ := hq
  obtain ⟨e1, e2⟩ : c9 = c ∧ τ9 = τ := by cases e0; exact ⟨rfl, rfl⟩
  rw [e1, e2]
  obtain ⟨hm1, b, τ1, hb, hm2, t, τ2, ht, hc, hv, hP⟩ := hk
  refine r_istore (L' := [(6, (0, c)), (0, (6, 200)), (1, (4, x)), (2, (4, m)), (3, (4, o)), (4, (4, d)), (5, (0, i))]) dL_law_1458 (by decide) rfl ?_
  refine r_aload_n 3 dL_law_1460 rfl ?_
  refine r_scrk (k := 1) 1 6 hL9 hi (by omega) dL_law_1461 rfl dL_law_1462 rfl dL_law_1464 dL_law_1465 dL_law_1466 ?_
  refine r_scrk (k := 2) 1 6 hL9 hi (by omega) dL_law_1467 rfl dL_law_1468 rfl dL_law_1470 dL_law_1471 dL_law_1472 ?_
  refine r_callVC (K' := Y_X8_majority) (R' := R_X8_majority) (idx := 269) (n := 2) (b := m) (as := [(0, (zscr g (i.toNat + 1))), (0, (zscr g (i.toNat + 2)))]) (rest := []) (cn := 8) (C' := C') (D' := D') k0_X8_majority kV_X8_majority kl_L_269 ⟨by decide, by decide⟩ dL_law_1473 rfl rfl (Nat.le_of_ble_eq_true rfl) (by have e : R_X8_majority.cells = 0 := rfl; omega) (by have e : R_X8_majority.slots = 0 := rfl; omega) rfl hm1 ⟨_, hb⟩ (fun r hr => m_X8_majority hl0 ⟨r, hr, hr⟩) (fun ex τ n q hq hn => by rw [hb] at hq; cases hq) (fun v9 τ9 hq => ?_)
  obtain ⟨e1, e2⟩ : v9 = b ∧ τ9 = τ1 := by rw [hb] at hq; cases hq; exact ⟨rfl, rfl⟩
  rw [e1, e2]
  refine r_istore (L' := [(7, (0, b)), (6, (0, c)), (0, (6, 200)), (1, (4, x)), (2, (4, m)), (3, (4, o)), (4, (4, d)), (5, (0, i))]) dL_law_1476 (by decide) rfl ?_
  refine r_aload_n 4 dL_law_1478 rfl ?_
  refine r_callVC (K' := Y_X8_thrown) (R' := R_X8_thrown) (idx := 195) (n := 0) (b := m) (as := []) (rest := []) (cn := 8) (C' := C') (D' := D') k0_X8_thrown kV_X8_thrown kl_L_195 ⟨by decide, by decide⟩ dL_law_1479 rfl rfl (Nat.le_of_ble_eq_true rfl) (by have e : R_X8_thrown.cells = 0 := rfl; omega) (by have e : R_X8_thrown.slots = 0 := rfl; omega) rfl hm2 ⟨_, ht⟩ (fun r hr => m_X8_thrown hl0 ⟨r, hr, hr⟩) (fun ex τ n q hq hn => by rw [ht] at hq; cases hq) (fun v9 τ9 hq => ?_)
  obtain ⟨e1, e2⟩ : v9 = t ∧ τ9 = τ2 := by rw [ht] at hq; cases hq; exact ⟨rfl, rfl⟩
  rw [e1, e2]
  refine r_iload 1 dL_law_1482 rfl ?_
  refine r_icmp_eq 1489 dL_law_1484 (by decide) (z_yes (σ := σ) hc) (fun _ => ?_) (fun h => by obtain ⟨r, h, -⟩ := h; cases h)
  refine r_iload 1 dL_law_1489 rfl ?_
  refine r_if_ne 1506 dL_law_1491 (by decide) (z_br (σ := σ)) (fun _ => ?_) (fun h => ?_)
  · refine r_goto 3919 dL_law_1506 (by decide) ?_
    refine r_weak (L' := [(0, (6, 200)), (1, (4, x)), (2, (4, m)), (3, (4, o)), (4, (4, d)), (5, (0, i))]) [2, 3, 4, 5, 6, 7] rfl ?_
    exact kk _ hP
  · have hv := hv (zite_p h)
    refine r_aload_n 5 dL_law_1494 rfl ?_
    refine r_iconst (v := 0) dL_law_1495 rfl rfl ?_
    refine r_lald dL_law_1496 hv (fun v h => ?_)
    refine r_iload 0 dL_law_1497 rfl ?_
    refine r_i2l dL_law_1499 ?_
    refine r_lcmp dL_law_1500 ?_
    refine r_if_eq 1506 dL_law_1501 (by decide) (z_yes (σ := σ) (zlc_eq (zite_p h))) (fun _ => ?_) (fun h => by obtain ⟨r, h, -⟩ := h; cases h)
    refine r_goto 3919 dL_law_1506 (by decide) ?_
    refine r_weak (L' := [(0, (6, 200)), (1, (4, x)), (2, (4, m)), (3, (4, o)), (4, (4, d)), (5, (0, i))]) [2, 3, 4, 5, 6, 7] rfl ?_
    exact kk _ hP
set_option maxHeartbeats 4000000 in
theorem t_L_22 {g : zF} (hl0 : g.2.2.2.1.stackTraces = false) (hL9 : zsl9 g ≤ 3072) {x m o d i : Int} {σ : zS} {C' D' : Nat} {P : zS → Prop} (hi : 0 ≤ i) (hi6 : i + 6 ≤ (zsl9 g : Int)) (hx : σ.1.1 x = some (0, 7)) (h : q_L_22 x m o d (fun j => zscr g (i.toNat + j)) P σ) (kk : ∀ τ, P τ → zw g Y_L_law room_1 3919 [(0, (6, 200)), (1, (4, x)), (2, (4, m)), (3, (4, o)), (4, (4, d)), (5, (0, i))] [] τ C' D' zQ1) : zw g Y_L_law room_1 1509 [(0, (6, 200)), (1, (4, x)), (2, (4, m)), (3, (4, o)), (4, (4, d)), (5, (0, i))] [] σ (C' + 31) (D' + 7344) zQ1 := by
  unfold q_L_22 at h
  refine r_aload_n 1 dL_law_1509 rfl ?_
  refine r_scrk (k := 1) 0 5 hL9 hi (by omega) dL_law_1510 rfl dL_law_1511 rfl dL_law_1513 dL_law_1514 dL_law_1515 ?_
  refine r_scrk (k := 2) 0 5 hL9 hi (by omega) dL_law_1516 rfl dL_law_1517 rfl dL_law_1519 dL_law_1520 dL_law_1521 ?_
  refine r_scrk (k := 3) 0 5 hL9 hi (by omega) dL_law_1522 rfl dL_law_1523 rfl dL_law_1525 dL_law_1526 dL_law_1527 ?_
  refine r_aload_n 3 dL_law_1528 rfl ?_
  refine r_callSH (K' := Y_L_majorityBound) (R' := R_L_majorityBound) (idx := 270) (n := 5) (as := [(4, x), (0, (zscr g (i.toNat + 1))), (0, (zscr g (i.toNat + 2))), (0, (zscr g (i.toNat + 3))), (4, o)]) (rest := []) (C' := C') (D' := D') k0_L_majorityBound wl_1039 wl_1038 ⟨by decide, by decide⟩ dL_law_1529 rfl rfl (Nat.le_of_ble_eq_true rfl) (by have e : R_L_majorityBound.cells = 3 := rfl; omega) (by have e : R_L_majorityBound.slots = 18 := rfl; omega) (m_L_majorityBound hl0 hx h) (fun e τ hq => by obtain ⟨c, τ', e0, -⟩ := hq; cases e0) (fun c9 τ9 hq => ?_)
  obtain ⟨c, τ, e0, hk⟩ := hq
  obtain ⟨e1, e2⟩ : c9 = c ∧ τ9 = τ := by cases e0; exact ⟨rfl, rfl⟩
  rw [e1, e2]
  obtain ⟨hm1, b, τ1, hb, hm2, t, τ2, ht, hc, hv, hP⟩ := hk
  refine r_istore (L' := [(6, (0, c)), (0, (6, 200)), (1, (4, x)), (2, (4, m)), (3, (4, o)), (4, (4, d)), (5, (0, i))]) dL_law_1532 (by decide) rfl ?_
  refine r_aload_n 3 dL_law_1534 rfl ?_
  refine r_scrk (k := 1) 1 6 hL9 hi (by omega) dL_law_1535 rfl dL_law_1536 rfl dL_law_1538 dL_law_1539 dL_law_1540 ?_
  refine r_scrk (k := 2) 1 6 hL9 hi (by omega) dL_law_1541 rfl dL_law_1542 rfl dL_law_1544 dL_law_1545 dL_law_1546 ?_
  refine r_scrk (k := 3) 1 6 hL9 hi (by omega) dL_law_1547 rfl dL_law_1548 rfl dL_law_1550 dL_law_1551 dL_law_1552 ?_
  refine r_callVC (K' := Y_X8_majorityBound) (R' := R_X8_majorityBound) (idx := 272) (n := 3) (b := m) (as := [(0, (zscr g (i.toNat + 1))), (0, (zscr g (i.toNat + 2))), (0, (zscr g (i.toNat + 3)))]) (rest := []) (cn := 8) (C' := C') (D' := D') k0_X8_majorityBound kV_X8_majorityBound kl_L_272 ⟨by decide, by decide⟩ dL_law_1553 rfl rfl (Nat.le_of_ble_eq_true rfl) (by have e : R_X8_majorityBound.cells = 0 := rfl; omega) (by have e : R_X8_majorityBound.slots = 0 := rfl; omega) rfl hm1 ⟨_, hb⟩ (fun r hr => m_X8_majorityBound hl0 ⟨r, hr, hr⟩) (fun ex τ n q hq hn => by rw [hb] at hq; cases hq) (fun v9 τ9 hq => ?_)
  obtain ⟨e1, e2⟩ : v9 = b ∧ τ9 = τ1 := by rw [hb] at hq; cases hq; exact ⟨rfl, rfl⟩
  rw [e1, e2]
  refine r_istore (L' := [(7, (0, b)), (6, (0, c)), (0, (6, 200)), (1, (4, x)), (2, (4, m)), (3, (4, o)), (4, (4, d)), (5, (0, i))]) dL_law_1556 (by decide) rfl ?_
  refine r_aload_n 4 dL_law_1558 rfl ?_
  refine r_callVC (K' := Y_X8_thrown) (R' := R_X8_thrown) (idx := 195) (n := 0) (b := m) (as := []) (rest := []) (cn := 8) (C' := C') (D' := D') k0_X8_thrown kV_X8_thrown kl_L_195 ⟨by decide, by decide⟩ dL_law_1559 rfl rfl (Nat.le_of_ble_eq_true rfl) (by have e : R_X8_thrown.cells = 0 := rfl; omega) (by have e : R_X8_thrown.slots = 0 := rfl; omega) rfl hm2 ⟨_, ht⟩ (fun r hr => m_X8_thrown hl0 ⟨r, hr, hr⟩) (fun ex τ n q hq hn => by rw [ht] at hq; cases hq) (fun v9 τ9 hq => ?_)
  obtain ⟨e1, e2⟩ : v9 = t ∧ τ9 = τ2 := by rw [ht] at hq; cases hq; exact ⟨rfl, rfl⟩
  rw [e1, e2]
  refine r_iload 1 dL_law_1562 rfl ?_
  refine r_icmp_eq 1569 dL_law_1564 (by decide) (z_yes (σ := σ) hc) (fun _ => ?_) (fun h => by obtain ⟨r, h, -⟩ := h; cases h)
  refine r_iload 1 dL_law_1569 rfl ?_
  refine r_if_ne 1586 dL_law_1571 (by decide) (z_br (σ := σ)) (fun _ => ?_) (fun h => ?_)
  · refine r_goto 3919 dL_law_1586 (by decide) ?_
    refine r_weak (L' := [(0, (6, 200)), (1, (4, x)), (2, (4, m)), (3, (4, o)), (4, (4, d)), (5, (0, i))]) [2, 3, 4, 5, 6, 7] rfl ?_
    exact kk _ hP
  · have hv := hv (zite_p h)
    refine r_aload_n 5 dL_law_1574 rfl ?_
    refine r_iconst (v := 0) dL_law_1575 rfl rfl ?_
    refine r_lald dL_law_1576 hv (fun v h => ?_)
    refine r_iload 0 dL_law_1577 rfl ?_
    refine r_i2l dL_law_1579 ?_
    refine r_lcmp dL_law_1580 ?_
    refine r_if_eq 1586 dL_law_1581 (by decide) (z_yes (σ := σ) (zlc_eq (zite_p h))) (fun _ => ?_) (fun h => by obtain ⟨r, h, -⟩ := h; cases h)
    refine r_goto 3919 dL_law_1586 (by decide) ?_
    refine r_weak (L' := [(0, (6, 200)), (1, (4, x)), (2, (4, m)), (3, (4, o)), (4, (4, d)), (5, (0, i))]) [2, 3, 4, 5, 6, 7] rfl ?_
    exact kk _ hP
set_option maxHeartbeats 4000000 in
theorem t_L_23 {g : zF} (hl0 : g.2.2.2.1.stackTraces = false) (hL9 : zsl9 g ≤ 3072) {x m o d i : Int} {σ : zS} {C' D' : Nat} {P : zS → Prop} (hi : 0 ≤ i) (hi6 : i + 6 ≤ (zsl9 g : Int)) (hx : σ.1.1 x = some (0, 7)) (h : q_L_23 x m o d (fun j => zscr g (i.toNat + j)) P σ) (kk : ∀ τ, P τ → zw g Y_L_law room_1 3919 [(0, (6, 200)), (1, (4, x)), (2, (4, m)), (3, (4, o)), (4, (4, d)), (5, (0, i))] [] τ C' D' zQ1) : zw g Y_L_law room_1 1589 [(0, (6, 200)), (1, (4, x)), (2, (4, m)), (3, (4, o)), (4, (4, d)), (5, (0, i))] [] σ (C' + 31) (D' + 7344) zQ1 := by
  unfold q_L_23 at h
  refine r_aload_n 1 dL_law_1589 rfl ?_
  refine r_scrk (k := 1) 0 5 hL9 hi (by omega) dL_law_1590 rfl dL_law_1591 rfl dL_law_1593 dL_law_1594 dL_law_1595 ?_
  refine r_scrk (k := 2) 0 5 hL9 hi (by omega) dL_law_1596 rfl dL_law_1597 rfl dL_law_1599 dL_law_1600 dL_law_1601 ?_
  refine r_aload_n 3 dL_law_1602 rfl ?_
  refine r_callSH (K' := Y_L_best) (R' := R_L_best) (idx := 273) (n := 4) (as := [(4, x), (0, (zscr g (i.toNat + 1))), (0, (zscr g (i.toNat + 2))), (4, o)]) (rest := []) (C' := C') (D' := D') k0_L_best wl_1055 wl_1054 ⟨by decide, by decide⟩ dL_law_1603 rfl rfl (Nat.le_of_ble_eq_true rfl) (by have e : R_L_best.cells = 2 := rfl; omega) (by have e : R_L_best.slots = 12 := rfl; omega) (m_L_best hl0 hx h) (fun e τ hq => by obtain ⟨c, τ', e0, -⟩ := hq; cases e0) (fun c9 τ9 hq => ?_)
  obtain ⟨c, τ, e0, hk⟩ := hq
  obtain ⟨e1, e2⟩ : c9 = c ∧ τ9 = τ := by cases e0; exact ⟨rfl, rfl⟩
  rw [e1, e2]
  obtain ⟨hm1, b, τ1, hb, hm2, t, τ2, ht, hc, hv, hP⟩ := hk
  refine r_istore (L' := [(6, (0, c)), (0, (6, 200)), (1, (4, x)), (2, (4, m)), (3, (4, o)), (4, (4, d)), (5, (0, i))]) dL_law_1606 (by decide) rfl ?_
  refine r_aload_n 3 dL_law_1608 rfl ?_
  refine r_scrk (k := 1) 1 6 hL9 hi (by omega) dL_law_1609 rfl dL_law_1610 rfl dL_law_1612 dL_law_1613 dL_law_1614 ?_
  refine r_scrk (k := 2) 1 6 hL9 hi (by omega) dL_law_1615 rfl dL_law_1616 rfl dL_law_1618 dL_law_1619 dL_law_1620 ?_
  refine r_callVC (K' := Y_X8_best) (R' := R_X8_best) (idx := 275) (n := 2) (b := m) (as := [(0, (zscr g (i.toNat + 1))), (0, (zscr g (i.toNat + 2)))]) (rest := []) (cn := 8) (C' := C') (D' := D') k0_X8_best kV_X8_best kl_L_275 ⟨by decide, by decide⟩ dL_law_1621 rfl rfl (Nat.le_of_ble_eq_true rfl) (by have e : R_X8_best.cells = 0 := rfl; omega) (by have e : R_X8_best.slots = 0 := rfl; omega) rfl hm1 ⟨_, hb⟩ (fun r hr => m_X8_best hl0 ⟨r, hr, hr⟩) (fun ex τ n q hq hn => by rw [hb] at hq; cases hq) (fun v9 τ9 hq => ?_)
  obtain ⟨e1, e2⟩ : v9 = b ∧ τ9 = τ1 := by rw [hb] at hq; cases hq; exact ⟨rfl, rfl⟩
  rw [e1, e2]
  refine r_istore (L' := [(7, (0, b)), (6, (0, c)), (0, (6, 200)), (1, (4, x)), (2, (4, m)), (3, (4, o)), (4, (4, d)), (5, (0, i))]) dL_law_1624 (by decide) rfl ?_
  refine r_aload_n 4 dL_law_1626 rfl ?_
  refine r_callVC (K' := Y_X8_thrown) (R' := R_X8_thrown) (idx := 195) (n := 0) (b := m) (as := []) (rest := []) (cn := 8) (C' := C') (D' := D') k0_X8_thrown kV_X8_thrown kl_L_195 ⟨by decide, by decide⟩ dL_law_1627 rfl rfl (Nat.le_of_ble_eq_true rfl) (by have e : R_X8_thrown.cells = 0 := rfl; omega) (by have e : R_X8_thrown.slots = 0 := rfl; omega) rfl hm2 ⟨_, ht⟩ (fun r hr => m_X8_thrown hl0 ⟨r, hr, hr⟩) (fun ex τ n q hq hn => by rw [ht] at hq; cases hq) (fun v9 τ9 hq => ?_)
  obtain ⟨e1, e2⟩ : v9 = t ∧ τ9 = τ2 := by rw [ht] at hq; cases hq; exact ⟨rfl, rfl⟩
  rw [e1, e2]
  refine r_iload 1 dL_law_1630 rfl ?_
  refine r_icmp_eq 1637 dL_law_1632 (by decide) (z_yes (σ := σ) hc) (fun _ => ?_) (fun h => by obtain ⟨r, h, -⟩ := h; cases h)
  refine r_iload 1 dL_law_1637 rfl ?_
  refine r_if_ne 1654 dL_law_1639 (by decide) (z_br (σ := σ)) (fun _ => ?_) (fun h => ?_)
  · refine r_goto 3919 dL_law_1654 (by decide) ?_
    refine r_weak (L' := [(0, (6, 200)), (1, (4, x)), (2, (4, m)), (3, (4, o)), (4, (4, d)), (5, (0, i))]) [2, 3, 4, 5, 6, 7] rfl ?_
    exact kk _ hP
  · have hv := hv (zite_p h)
    refine r_aload_n 5 dL_law_1642 rfl ?_
    refine r_iconst (v := 0) dL_law_1643 rfl rfl ?_
    refine r_lald dL_law_1644 hv (fun v h => ?_)
    refine r_iload 0 dL_law_1645 rfl ?_
    refine r_i2l dL_law_1647 ?_
    refine r_lcmp dL_law_1648 ?_
    refine r_if_eq 1654 dL_law_1649 (by decide) (z_yes (σ := σ) (zlc_eq (zite_p h))) (fun _ => ?_) (fun h => by obtain ⟨r, h, -⟩ := h; cases h)
    refine r_goto 3919 dL_law_1654 (by decide) ?_
    refine r_weak (L' := [(0, (6, 200)), (1, (4, x)), (2, (4, m)), (3, (4, o)), (4, (4, d)), (5, (0, i))]) [2, 3, 4, 5, 6, 7] rfl ?_
    exact kk _ hP
