set_option maxHeartbeats 4000000 in
theorem t_L_24 {g : zF} (hl0 : g.2.2.2.1.stackTraces = false) (hL9 : zsl9 g ≤ 3072) {x m o d i : Int} {σ : zS} {C' D' : Nat} {P : zS → Prop} (hi : 0 ≤ i) (hi6 : i + 6 ≤ (zsl9 g : Int)) (hx : σ.1.1 x = some (0, 7)) (h : q_L_24 x m o d (fun j => zscr g (i.toNat + j)) P σ) (kk : ∀ τ, P τ → zw g Y_L_law room_1 3919 [(0, (6, 200)), (1, (4, x)), (2, (4, m)), (3, (4, o)), (4, (4, d)), (5, (0, i))] [] τ C' D' zQ1) : zw g Y_L_law room_1 1657 [(0, (6, 200)), (1, (4, x)), (2, (4, m)), (3, (4, o)), (4, (4, d)), (5, (0, i))] [] σ (C' + 31) (D' + 7344) zQ1 := by
  unfold q_L_24 at h
  refine r_aload_n 1 dL_law_1657 rfl ?_
  refine r_scrk (k := 1) 0 5 hL9 hi (by omega) dL_law_1658 rfl dL_law_1659 rfl dL_law_1661 dL_law_1662 dL_law_1663 ?_
  refine r_aload_n 3 dL_law_1664 rfl ?_
  refine r_callSH (K' := Y_L_rivals) (R' := R_L_rivals) (idx := 276) (n := 3) (as := [(4, x), (0, (zscr g (i.toNat + 1))), (4, o)]) (rest := []) (C' := C') (D' := D') k0_L_rivals wl_1066 wl_1065 ⟨by decide, by decide⟩ dL_law_1665 rfl rfl (Nat.le_of_ble_eq_true rfl) (by have e : R_L_rivals.cells = 1 := rfl; omega) (by have e : R_L_rivals.slots = 6 := rfl; omega) (m_L_rivals hl0 hx h) (fun e τ hq => by obtain ⟨c, τ', e0, -⟩ := hq; cases e0) (fun c9 τ9 hq => ?_)
  obtain ⟨c, τ, e0, hk⟩ := hq
  obtain ⟨e1, e2⟩ : c9 = c ∧ τ9 = τ := by cases e0; exact ⟨rfl, rfl⟩
  rw [e1, e2]
  obtain ⟨hm1, b, τ1, hb, hm2, t, τ2, ht, hc, hv, hP⟩ := hk
  refine r_istore (L' := [(6, (0, c)), (0, (6, 200)), (1, (4, x)), (2, (4, m)), (3, (4, o)), (4, (4, d)), (5, (0, i))]) dL_law_1668 (by decide) rfl ?_
  refine r_aload_n 3 dL_law_1670 rfl ?_
  refine r_scrk (k := 1) 1 6 hL9 hi (by omega) dL_law_1671 rfl dL_law_1672 rfl dL_law_1674 dL_law_1675 dL_law_1676 ?_
  refine r_callVC (K' := Y_X8_rivals) (R' := R_X8_rivals) (idx := 278) (n := 1) (b := m) (as := [(0, (zscr g (i.toNat + 1)))]) (rest := []) (cn := 8) (C' := C') (D' := D') k0_X8_rivals kV_X8_rivals kl_L_278 ⟨by decide, by decide⟩ dL_law_1677 rfl rfl (Nat.le_of_ble_eq_true rfl) (by have e : R_X8_rivals.cells = 0 := rfl; omega) (by have e : R_X8_rivals.slots = 0 := rfl; omega) rfl hm1 ⟨_, hb⟩ (fun r hr => m_X8_rivals hl0 ⟨r, hr, hr⟩) (fun ex τ n q hq hn => by rw [hb] at hq; cases hq) (fun v9 τ9 hq => ?_)
  obtain ⟨e1, e2⟩ : v9 = b ∧ τ9 = τ1 := by rw [hb] at hq; cases hq; exact ⟨rfl, rfl⟩
  rw [e1, e2]
  refine r_istore (L' := [(7, (0, b)), (6, (0, c)), (0, (6, 200)), (1, (4, x)), (2, (4, m)), (3, (4, o)), (4, (4, d)), (5, (0, i))]) dL_law_1680 (by decide) rfl ?_
  refine r_aload_n 4 dL_law_1682 rfl ?_
  refine r_callVC (K' := Y_X8_thrown) (R' := R_X8_thrown) (idx := 195) (n := 0) (b := m) (as := []) (rest := []) (cn := 8) (C' := C') (D' := D') k0_X8_thrown kV_X8_thrown kl_L_195 ⟨by decide, by decide⟩ dL_law_1683 rfl rfl (Nat.le_of_ble_eq_true rfl) (by have e : R_X8_thrown.cells = 0 := rfl; omega) (by have e : R_X8_thrown.slots = 0 := rfl; omega) rfl hm2 ⟨_, ht⟩ (fun r hr => m_X8_thrown hl0 ⟨r, hr, hr⟩) (fun ex τ n q hq hn => by rw [ht] at hq; cases hq) (fun v9 τ9 hq => ?_)
  obtain ⟨e1, e2⟩ : v9 = t ∧ τ9 = τ2 := by rw [ht] at hq; cases hq; exact ⟨rfl, rfl⟩
  rw [e1, e2]
  refine r_iload 1 dL_law_1686 rfl ?_
  refine r_icmp_eq 1693 dL_law_1688 (by decide) (z_yes (σ := σ) hc) (fun _ => ?_) (fun h => by obtain ⟨r, h, -⟩ := h; cases h)
  refine r_iload 1 dL_law_1693 rfl ?_
  refine r_if_ne 1710 dL_law_1695 (by decide) (z_br (σ := σ)) (fun _ => ?_) (fun h => ?_)
  · refine r_goto 3919 dL_law_1710 (by decide) ?_
    refine r_weak (L' := [(0, (6, 200)), (1, (4, x)), (2, (4, m)), (3, (4, o)), (4, (4, d)), (5, (0, i))]) [2, 3, 4, 5, 6, 7] rfl ?_
    exact kk _ hP
  · have hv := hv (zite_p h)
    refine r_aload_n 5 dL_law_1698 rfl ?_
    refine r_iconst (v := 0) dL_law_1699 rfl rfl ?_
    refine r_lald dL_law_1700 hv (fun v h => ?_)
    refine r_iload 0 dL_law_1701 rfl ?_
    refine r_i2l dL_law_1703 ?_
    refine r_lcmp dL_law_1704 ?_
    refine r_if_eq 1710 dL_law_1705 (by decide) (z_yes (σ := σ) (zlc_eq (zite_p h))) (fun _ => ?_) (fun h => by obtain ⟨r, h, -⟩ := h; cases h)
    refine r_goto 3919 dL_law_1710 (by decide) ?_
    refine r_weak (L' := [(0, (6, 200)), (1, (4, x)), (2, (4, m)), (3, (4, o)), (4, (4, d)), (5, (0, i))]) [2, 3, 4, 5, 6, 7] rfl ?_
    exact kk _ hP
set_option maxHeartbeats 4000000 in
theorem t_L_25 {g : zF} (hl0 : g.2.2.2.1.stackTraces = false) (hL9 : zsl9 g ≤ 3072) {x m o d i : Int} {σ : zS} {C' D' : Nat} {P : zS → Prop} (hi : 0 ≤ i) (hi6 : i + 6 ≤ (zsl9 g : Int)) (hx : σ.1.1 x = some (0, 7)) (h : q_L_25 x m o d (fun j => zscr g (i.toNat + j)) P σ) (kk : ∀ τ, P τ → zw g Y_L_law room_1 3919 [(0, (6, 200)), (1, (4, x)), (2, (4, m)), (3, (4, o)), (4, (4, d)), (5, (0, i))] [] τ C' D' zQ1) : zw g Y_L_law room_1 1713 [(0, (6, 200)), (1, (4, x)), (2, (4, m)), (3, (4, o)), (4, (4, d)), (5, (0, i))] [] σ (C' + 31) (D' + 7344) zQ1 := by
  unfold q_L_25 at h
  refine r_aload_n 1 dL_law_1713 rfl ?_
  refine r_scrk (k := 1) 0 5 hL9 hi (by omega) dL_law_1714 rfl dL_law_1715 rfl dL_law_1717 dL_law_1718 dL_law_1719 ?_
  refine r_aload_n 3 dL_law_1720 rfl ?_
  refine r_callSH (K' := Y_L_nextProbe) (R' := R_L_nextProbe) (idx := 279) (n := 3) (as := [(4, x), (0, (zscr g (i.toNat + 1))), (4, o)]) (rest := []) (C' := C') (D' := D') k0_L_nextProbe wl_1077 wl_1076 ⟨by decide, by decide⟩ dL_law_1721 rfl rfl (Nat.le_of_ble_eq_true rfl) (by have e : R_L_nextProbe.cells = 1 := rfl; omega) (by have e : R_L_nextProbe.slots = 6 := rfl; omega) (m_L_nextProbe hl0 hx h) (fun e τ hq => by obtain ⟨c, τ', e0, -⟩ := hq; cases e0) (fun c9 τ9 hq => ?_)
  obtain ⟨c, τ, e0, hk⟩ := hq
  obtain ⟨e1, e2⟩ : c9 = c ∧ τ9 = τ := by cases e0; exact ⟨rfl, rfl⟩
  rw [e1, e2]
  obtain ⟨hm1, b, τ1, hb, hm2, t, τ2, ht, hc, hv, hP⟩ := hk
  refine r_istore (L' := [(6, (0, c)), (0, (6, 200)), (1, (4, x)), (2, (4, m)), (3, (4, o)), (4, (4, d)), (5, (0, i))]) dL_law_1724 (by decide) rfl ?_
  refine r_aload_n 3 dL_law_1726 rfl ?_
  refine r_scrk (k := 1) 1 6 hL9 hi (by omega) dL_law_1727 rfl dL_law_1728 rfl dL_law_1730 dL_law_1731 dL_law_1732 ?_
  refine r_callVC (K' := Y_X8_nextProbe) (R' := R_X8_nextProbe) (idx := 281) (n := 1) (b := m) (as := [(0, (zscr g (i.toNat + 1)))]) (rest := []) (cn := 8) (C' := C') (D' := D') k0_X8_nextProbe kV_X8_nextProbe kl_L_281 ⟨by decide, by decide⟩ dL_law_1733 rfl rfl (Nat.le_of_ble_eq_true rfl) (by have e : R_X8_nextProbe.cells = 0 := rfl; omega) (by have e : R_X8_nextProbe.slots = 0 := rfl; omega) rfl hm1 ⟨_, hb⟩ (fun r hr => m_X8_nextProbe hl0 ⟨r, hr, hr⟩) (fun ex τ n q hq hn => by rw [hb] at hq; cases hq) (fun v9 τ9 hq => ?_)
  obtain ⟨e1, e2⟩ : v9 = b ∧ τ9 = τ1 := by rw [hb] at hq; cases hq; exact ⟨rfl, rfl⟩
  rw [e1, e2]
  refine r_istore (L' := [(7, (0, b)), (6, (0, c)), (0, (6, 200)), (1, (4, x)), (2, (4, m)), (3, (4, o)), (4, (4, d)), (5, (0, i))]) dL_law_1736 (by decide) rfl ?_
  refine r_aload_n 4 dL_law_1738 rfl ?_
  refine r_callVC (K' := Y_X8_thrown) (R' := R_X8_thrown) (idx := 195) (n := 0) (b := m) (as := []) (rest := []) (cn := 8) (C' := C') (D' := D') k0_X8_thrown kV_X8_thrown kl_L_195 ⟨by decide, by decide⟩ dL_law_1739 rfl rfl (Nat.le_of_ble_eq_true rfl) (by have e : R_X8_thrown.cells = 0 := rfl; omega) (by have e : R_X8_thrown.slots = 0 := rfl; omega) rfl hm2 ⟨_, ht⟩ (fun r hr => m_X8_thrown hl0 ⟨r, hr, hr⟩) (fun ex τ n q hq hn => by rw [ht] at hq; cases hq) (fun v9 τ9 hq => ?_)
  obtain ⟨e1, e2⟩ : v9 = t ∧ τ9 = τ2 := by rw [ht] at hq; cases hq; exact ⟨rfl, rfl⟩
  rw [e1, e2]
  refine r_iload 1 dL_law_1742 rfl ?_
  refine r_icmp_eq 1749 dL_law_1744 (by decide) (z_yes (σ := σ) hc) (fun _ => ?_) (fun h => by obtain ⟨r, h, -⟩ := h; cases h)
  refine r_iload 1 dL_law_1749 rfl ?_
  refine r_if_ne 1766 dL_law_1751 (by decide) (z_br (σ := σ)) (fun _ => ?_) (fun h => ?_)
  · refine r_goto 3919 dL_law_1766 (by decide) ?_
    refine r_weak (L' := [(0, (6, 200)), (1, (4, x)), (2, (4, m)), (3, (4, o)), (4, (4, d)), (5, (0, i))]) [2, 3, 4, 5, 6, 7] rfl ?_
    exact kk _ hP
  · have hv := hv (zite_p h)
    refine r_aload_n 5 dL_law_1754 rfl ?_
    refine r_iconst (v := 0) dL_law_1755 rfl rfl ?_
    refine r_lald dL_law_1756 hv (fun v h => ?_)
    refine r_iload 0 dL_law_1757 rfl ?_
    refine r_i2l dL_law_1759 ?_
    refine r_lcmp dL_law_1760 ?_
    refine r_if_eq 1766 dL_law_1761 (by decide) (z_yes (σ := σ) (zlc_eq (zite_p h))) (fun _ => ?_) (fun h => by obtain ⟨r, h, -⟩ := h; cases h)
    refine r_goto 3919 dL_law_1766 (by decide) ?_
    refine r_weak (L' := [(0, (6, 200)), (1, (4, x)), (2, (4, m)), (3, (4, o)), (4, (4, d)), (5, (0, i))]) [2, 3, 4, 5, 6, 7] rfl ?_
    exact kk _ hP
set_option maxHeartbeats 4000000 in
theorem t_L_26 {g : zF} (hl0 : g.2.2.2.1.stackTraces = false) (hL9 : zsl9 g ≤ 3072) {x m o d i : Int} {σ : zS} {C' D' : Nat} {P : zS → Prop} (hi : 0 ≤ i) (hi6 : i + 6 ≤ (zsl9 g : Int)) (hx : σ.1.1 x = some (0, 7)) (h : q_L_26 x m o d (fun j => zscr g (i.toNat + j)) P σ) (kk : ∀ τ, P τ → zw g Y_L_law room_1 3919 [(0, (6, 200)), (1, (4, x)), (2, (4, m)), (3, (4, o)), (4, (4, d)), (5, (0, i))] [] τ C' D' zQ1) : zw g Y_L_law room_1 1769 [(0, (6, 200)), (1, (4, x)), (2, (4, m)), (3, (4, o)), (4, (4, d)), (5, (0, i))] [] σ (C' + 31) (D' + 7344) zQ1 := by
  unfold q_L_26 at h
  refine r_aload_n 1 dL_law_1769 rfl ?_
  refine r_scrk (k := 1) 0 5 hL9 hi (by omega) dL_law_1770 rfl dL_law_1771 rfl dL_law_1773 dL_law_1774 dL_law_1775 ?_
  refine r_aload_n 3 dL_law_1776 rfl ?_
  refine r_callSH (K' := Y_L_regret) (R' := R_L_regret) (idx := 282) (n := 3) (as := [(4, x), (0, (zscr g (i.toNat + 1))), (4, o)]) (rest := []) (C' := C') (D' := D') k0_L_regret wl_1088 wl_1087 ⟨by decide, by decide⟩ dL_law_1777 rfl rfl (Nat.le_of_ble_eq_true rfl) (by have e : R_L_regret.cells = 1 := rfl; omega) (by have e : R_L_regret.slots = 6 := rfl; omega) (m_L_regret hl0 hx h) (fun e τ hq => by obtain ⟨c, τ', e0, -⟩ := hq; cases e0) (fun c9 τ9 hq => ?_)
  obtain ⟨c, τ, e0, hk⟩ := hq
  obtain ⟨e1, e2⟩ : c9 = c ∧ τ9 = τ := by cases e0; exact ⟨rfl, rfl⟩
  rw [e1, e2]
  obtain ⟨hm1, b, τ1, hb, hm2, t, τ2, ht, hc, hv, hP⟩ := hk
  refine r_istore (L' := [(6, (0, c)), (0, (6, 200)), (1, (4, x)), (2, (4, m)), (3, (4, o)), (4, (4, d)), (5, (0, i))]) dL_law_1780 (by decide) rfl ?_
  refine r_aload_n 3 dL_law_1782 rfl ?_
  refine r_scrk (k := 1) 1 6 hL9 hi (by omega) dL_law_1783 rfl dL_law_1784 rfl dL_law_1786 dL_law_1787 dL_law_1788 ?_
  refine r_callVC (K' := Y_X8_regret) (R' := R_X8_regret) (idx := 284) (n := 1) (b := m) (as := [(0, (zscr g (i.toNat + 1)))]) (rest := []) (cn := 8) (C' := C') (D' := D') k0_X8_regret kV_X8_regret kl_L_284 ⟨by decide, by decide⟩ dL_law_1789 rfl rfl (Nat.le_of_ble_eq_true rfl) (by have e : R_X8_regret.cells = 0 := rfl; omega) (by have e : R_X8_regret.slots = 0 := rfl; omega) rfl hm1 ⟨_, hb⟩ (fun r hr => m_X8_regret hl0 ⟨r, hr, hr⟩) (fun ex τ n q hq hn => by rw [hb] at hq; cases hq) (fun v9 τ9 hq => ?_)
  obtain ⟨e1, e2⟩ : v9 = b ∧ τ9 = τ1 := by rw [hb] at hq; cases hq; exact ⟨rfl, rfl⟩
  rw [e1, e2]
  refine r_istore (L' := [(7, (0, b)), (6, (0, c)), (0, (6, 200)), (1, (4, x)), (2, (4, m)), (3, (4, o)), (4, (4, d)), (5, (0, i))]) dL_law_1792 (by decide) rfl ?_
  refine r_aload_n 4 dL_law_1794 rfl ?_
  refine r_callVC (K' := Y_X8_thrown) (R' := R_X8_thrown) (idx := 195) (n := 0) (b := m) (as := []) (rest := []) (cn := 8) (C' := C') (D' := D') k0_X8_thrown kV_X8_thrown kl_L_195 ⟨by decide, by decide⟩ dL_law_1795 rfl rfl (Nat.le_of_ble_eq_true rfl) (by have e : R_X8_thrown.cells = 0 := rfl; omega) (by have e : R_X8_thrown.slots = 0 := rfl; omega) rfl hm2 ⟨_, ht⟩ (fun r hr => m_X8_thrown hl0 ⟨r, hr, hr⟩) (fun ex τ n q hq hn => by rw [ht] at hq; cases hq) (fun v9 τ9 hq => ?_)
  obtain ⟨e1, e2⟩ : v9 = t ∧ τ9 = τ2 := by rw [ht] at hq; cases hq; exact ⟨rfl, rfl⟩
  rw [e1, e2]
  refine r_iload 1 dL_law_1798 rfl ?_
  refine r_icmp_eq 1805 dL_law_1800 (by decide) (z_yes (σ := σ) hc) (fun _ => ?_) (fun h => by obtain ⟨r, h, -⟩ := h; cases h)
  refine r_iload 1 dL_law_1805 rfl ?_
  refine r_if_ne 1822 dL_law_1807 (by decide) (z_br (σ := σ)) (fun _ => ?_) (fun h => ?_)
  · refine r_goto 3919 dL_law_1822 (by decide) ?_
    refine r_weak (L' := [(0, (6, 200)), (1, (4, x)), (2, (4, m)), (3, (4, o)), (4, (4, d)), (5, (0, i))]) [2, 3, 4, 5, 6, 7] rfl ?_
    exact kk _ hP
  · have hv := hv (zite_p h)
    refine r_aload_n 5 dL_law_1810 rfl ?_
    refine r_iconst (v := 0) dL_law_1811 rfl rfl ?_
    refine r_lald dL_law_1812 hv (fun v h => ?_)
    refine r_iload 0 dL_law_1813 rfl ?_
    refine r_i2l dL_law_1815 ?_
    refine r_lcmp dL_law_1816 ?_
    refine r_if_eq 1822 dL_law_1817 (by decide) (z_yes (σ := σ) (zlc_eq (zite_p h))) (fun _ => ?_) (fun h => by obtain ⟨r, h, -⟩ := h; cases h)
    refine r_goto 3919 dL_law_1822 (by decide) ?_
    refine r_weak (L' := [(0, (6, 200)), (1, (4, x)), (2, (4, m)), (3, (4, o)), (4, (4, d)), (5, (0, i))]) [2, 3, 4, 5, 6, 7] rfl ?_
    exact kk _ hP
set_option maxHeartbeats 4000000 in
theorem t_L_27 {g : zF} (hl0 : g.2.2.2.1.stackTraces = false) (hL9 : zsl9 g ≤ 3072) {x m o d i : Int} {σ : zS} {C' D' : Nat} {P : zS → Prop} (hi : 0 ≤ i) (hi6 : i + 6 ≤ (zsl9 g : Int)) (hx : σ.1.1 x = some (0, 7)) (h : q_L_27 x m o d (fun j => zscr g (i.toNat + j)) P σ) (kk : ∀ τ, P τ → zw g Y_L_law room_1 3919 [(0, (6, 200)), (1, (4, x)), (2, (4, m)), (3, (4, o)), (4, (4, d)), (5, (0, i))] [] τ C' D' zQ1) : zw g Y_L_law room_1 1825 [(0, (6, 200)), (1, (4, x)), (2, (4, m)), (3, (4, o)), (4, (4, d)), (5, (0, i))] [] σ (C' + 31) (D' + 7344) zQ1 := by
  unfold q_L_27 at h
  refine r_aload_n 1 dL_law_1825 rfl ?_
  refine r_scrk (k := 1) 0 5 hL9 hi (by omega) dL_law_1826 rfl dL_law_1827 rfl dL_law_1829 dL_law_1830 dL_law_1831 ?_
  refine r_aload_n 3 dL_law_1832 rfl ?_
  refine r_callSH (K' := Y_L_saved) (R' := R_L_saved) (idx := 285) (n := 3) (as := [(4, x), (0, (zscr g (i.toNat + 1))), (4, o)]) (rest := []) (C' := C') (D' := D') k0_L_saved wl_1095 wl_1094 ⟨by decide, by decide⟩ dL_law_1833 rfl rfl (Nat.le_of_ble_eq_true rfl) (by have e : R_L_saved.cells = 1 := rfl; omega) (by have e : R_L_saved.slots = 6 := rfl; omega) (m_L_saved hl0 hx h) (fun e τ hq => by obtain ⟨c, τ', e0, -⟩ := hq; cases e0) (fun c9 τ9 hq => ?_)
  obtain ⟨c, τ, e0, hk⟩ := hq
  obtain ⟨e1, e2⟩ : c9 = c ∧ τ9 = τ := by cases e0; exact ⟨rfl, rfl⟩
  rw [e1, e2]
  obtain ⟨hm1, b, τ1, hb, hm2, t, τ2, ht, hc, hv, hP⟩ := hk
  refine r_istore (L' := [(6, (0, c)), (0, (6, 200)), (1, (4, x)), (2, (4, m)), (3, (4, o)), (4, (4, d)), (5, (0, i))]) dL_law_1836 (by decide) rfl ?_
  refine r_aload_n 3 dL_law_1838 rfl ?_
  refine r_scrk (k := 1) 1 6 hL9 hi (by omega) dL_law_1839 rfl dL_law_1840 rfl dL_law_1842 dL_law_1843 dL_law_1844 ?_
  refine r_callVC (K' := Y_X8_saved) (R' := R_X8_saved) (idx := 287) (n := 1) (b := m) (as := [(0, (zscr g (i.toNat + 1)))]) (rest := []) (cn := 8) (C' := C') (D' := D') k0_X8_saved kV_X8_saved kl_L_287 ⟨by decide, by decide⟩ dL_law_1845 rfl rfl (Nat.le_of_ble_eq_true rfl) (by have e : R_X8_saved.cells = 0 := rfl; omega) (by have e : R_X8_saved.slots = 0 := rfl; omega) rfl hm1 ⟨_, hb⟩ (fun r hr => m_X8_saved hl0 ⟨r, hr, hr⟩) (fun ex τ n q hq hn => by rw [hb] at hq; cases hq) (fun v9 τ9 hq => ?_)
  obtain ⟨e1, e2⟩ : v9 = b ∧ τ9 = τ1 := by rw [hb] at hq; cases hq; exact ⟨rfl, rfl⟩
  rw [e1, e2]
  refine r_istore (L' := [(7, (0, b)), (6, (0, c)), (0, (6, 200)), (1, (4, x)), (2, (4, m)), (3, (4, o)), (4, (4, d)), (5, (0, i))]) dL_law_1848 (by decide) rfl ?_
  refine r_aload_n 4 dL_law_1850 rfl ?_
  refine r_callVC (K' := Y_X8_thrown) (R' := R_X8_thrown) (idx := 195) (n := 0) (b := m) (as := []) (rest := []) (cn := 8) (C' := C') (D' := D') k0_X8_thrown kV_X8_thrown kl_L_195 ⟨by decide, by decide⟩ dL_law_1851 rfl rfl (Nat.le_of_ble_eq_true rfl) (by have e : R_X8_thrown.cells = 0 := rfl; omega) (by have e : R_X8_thrown.slots = 0 := rfl; omega) rfl hm2 ⟨_, ht⟩ (fun r hr => m_X8_thrown hl0 ⟨r, hr, hr⟩) (fun ex τ n q hq hn => by rw [ht] at hq; cases hq) (fun v9 τ9 hq => ?_)
  obtain ⟨e1, e2⟩ : v9 = t ∧ τ9 = τ2 := by rw [ht] at hq; cases hq; exact ⟨rfl, rfl⟩
  rw [e1, e2]
  refine r_iload 1 dL_law_1854 rfl ?_
  refine r_icmp_eq 1861 dL_law_1856 (by decide) (z_yes (σ := σ) hc) (fun _ => ?_) (fun h => by obtain ⟨r, h, -⟩ := h; cases h)
  refine r_iload 1 dL_law_1861 rfl ?_
  refine r_if_ne 1878 dL_law_1863 (by decide) (z_br (σ := σ)) (fun _ => ?_) (fun h => ?_)
  · refine r_goto 3919 dL_law_1878 (by decide) ?_
    refine r_weak (L' := [(0, (6, 200)), (1, (4, x)), (2, (4, m)), (3, (4, o)), (4, (4, d)), (5, (0, i))]) [2, 3, 4, 5, 6, 7] rfl ?_
    exact kk _ hP
  · have hv := hv (zite_p h)
    refine r_aload_n 5 dL_law_1866 rfl ?_
    refine r_iconst (v := 0) dL_law_1867 rfl rfl ?_
    refine r_lald dL_law_1868 hv (fun v h => ?_)
    refine r_iload 0 dL_law_1869 rfl ?_
    refine r_i2l dL_law_1871 ?_
    refine r_lcmp dL_law_1872 ?_
    refine r_if_eq 1878 dL_law_1873 (by decide) (z_yes (σ := σ) (zlc_eq (zite_p h))) (fun _ => ?_) (fun h => by obtain ⟨r, h, -⟩ := h; cases h)
    refine r_goto 3919 dL_law_1878 (by decide) ?_
    refine r_weak (L' := [(0, (6, 200)), (1, (4, x)), (2, (4, m)), (3, (4, o)), (4, (4, d)), (5, (0, i))]) [2, 3, 4, 5, 6, 7] rfl ?_
    exact kk _ hP
set_option maxHeartbeats 4000000 in
theorem t_L_28 {g : zF} (hl0 : g.2.2.2.1.stackTraces = false) (hL9 : zsl9 g ≤ 3072) {x m o d i : Int} {σ : zS} {C' D' : Nat} {P : zS → Prop} (hi : 0 ≤ i) (hi6 : i + 6 ≤ (zsl9 g : Int)) (hx : σ.1.1 x = some (0, 7)) (h : q_L_28 x m o d (fun j => zscr g (i.toNat + j)) P σ) (kk : ∀ τ, P τ → zw g Y_L_law room_1 3919 [(0, (6, 200)), (1, (4, x)), (2, (4, m)), (3, (4, o)), (4, (4, d)), (5, (0, i))] [] τ C' D' zQ1) : zw g Y_L_law room_1 1881 [(0, (6, 200)), (1, (4, x)), (2, (4, m)), (3, (4, o)), (4, (4, d)), (5, (0, i))] [] σ (C' + 31) (D' + 7344) zQ1 := by
  unfold q_L_28 at h
  refine r_aload_n 1 dL_law_1881 rfl ?_
  refine r_scrk (k := 1) 0 5 hL9 hi (by omega) dL_law_1882 rfl dL_law_1883 rfl dL_law_1885 dL_law_1886 dL_law_1887 ?_
  refine r_scrk (k := 2) 0 5 hL9 hi (by omega) dL_law_1888 rfl dL_law_1889 rfl dL_law_1891 dL_law_1892 dL_law_1893 ?_
  refine r_aload_n 3 dL_law_1894 rfl ?_
  refine r_callSH (K' := Y_L_agreeing) (R' := R_L_agreeing) (idx := 288) (n := 4) (as := [(4, x), (0, (zscr g (i.toNat + 1))), (0, (zscr g (i.toNat + 2))), (4, o)]) (rest := []) (C' := C') (D' := D') k0_L_agreeing wl_1102 wl_1101 ⟨by decide, by decide⟩ dL_law_1895 rfl rfl (Nat.le_of_ble_eq_true rfl) (by have e : R_L_agreeing.cells = 2 := rfl; omega) (by have e : R_L_agreeing.slots = 12 := rfl; omega) (m_L_agreeing hl0 hx h) (fun e τ hq => by obtain ⟨c, τ', e0, -⟩ := hq; cases e0) (fun c9 τ9 hq => ?_)
  obtain ⟨c, τ, e0, hk⟩ := hq
  obtain ⟨e1, e2⟩ : c9 = c ∧ τ9 = τ := by cases e0; exact ⟨rfl, rfl⟩
  rw [e1, e2]
  obtain ⟨hm1, b, τ1, hb, hm2, t, τ2, ht, hc, hv, hP⟩ := hk
  refine r_istore (L' := [(6, (0, c)), (0, (6, 200)), (1, (4, x)), (2, (4, m)), (3, (4, o)), (4, (4, d)), (5, (0, i))]) dL_law_1898 (by decide) rfl ?_
  refine r_aload_n 3 dL_law_1900 rfl ?_
  refine r_scrk (k := 1) 1 6 hL9 hi (by omega) dL_law_1901 rfl dL_law_1902 rfl dL_law_1904 dL_law_1905 dL_law_1906 ?_
  refine r_scrk (k := 2) 1 6 hL9 hi (by omega) dL_law_1907 rfl dL_law_1908 rfl dL_law_1910 dL_law_1911 dL_law_1912 ?_
  refine r_callVC (K' := Y_X8_agreeing) (R' := R_X8_agreeing) (idx := 290) (n := 2) (b := m) (as := [(0, (zscr g (i.toNat + 1))), (0, (zscr g (i.toNat + 2)))]) (rest := []) (cn := 8) (C' := C') (D' := D') k0_X8_agreeing kV_X8_agreeing kl_L_290 ⟨by decide, by decide⟩ dL_law_1913 rfl rfl (Nat.le_of_ble_eq_true rfl) (by have e : R_X8_agreeing.cells = 0 := rfl; omega) (by have e : R_X8_agreeing.slots = 0 := rfl; omega) rfl hm1 ⟨_, hb⟩ (fun r hr => m_X8_agreeing hl0 ⟨r, hr, hr⟩) (fun ex τ n q hq hn => by rw [hb] at hq; cases hq) (fun v9 τ9 hq => ?_)
  obtain ⟨e1, e2⟩ : v9 = b ∧ τ9 = τ1 := by rw [hb] at hq; cases hq; exact ⟨rfl, rfl⟩
  rw [e1, e2]
  refine r_istore (L' := [(7, (0, b)), (6, (0, c)), (0, (6, 200)), (1, (4, x)), (2, (4, m)), (3, (4, o)), (4, (4, d)), (5, (0, i))]) dL_law_1916 (by decide) rfl ?_
  refine r_aload_n 4 dL_law_1918 rfl ?_
  refine r_callVC (K' := Y_X8_thrown) (R' := R_X8_thrown) (idx := 195) (n := 0) (b := m) (as := []) (rest := []) (cn := 8) (C' := C') (D' := D') k0_X8_thrown kV_X8_thrown kl_L_195 ⟨by decide, by decide⟩ dL_law_1919 rfl rfl (Nat.le_of_ble_eq_true rfl) (by have e : R_X8_thrown.cells = 0 := rfl; omega) (by have e : R_X8_thrown.slots = 0 := rfl; omega) rfl hm2 ⟨_, ht⟩ (fun r hr => m_X8_thrown hl0 ⟨r, hr, hr⟩) (fun ex τ n q hq hn => by rw [ht] at hq; cases hq) (fun v9 τ9 hq => ?_)
  obtain ⟨e1, e2⟩ : v9 = t ∧ τ9 = τ2 := by rw [ht] at hq; cases hq; exact ⟨rfl, rfl⟩
  rw [e1, e2]
  refine r_iload 1 dL_law_1922 rfl ?_
  refine r_icmp_eq 1929 dL_law_1924 (by decide) (z_yes (σ := σ) hc) (fun _ => ?_) (fun h => by obtain ⟨r, h, -⟩ := h; cases h)
  refine r_iload 1 dL_law_1929 rfl ?_
  refine r_if_ne 1946 dL_law_1931 (by decide) (z_br (σ := σ)) (fun _ => ?_) (fun h => ?_)
  · refine r_goto 3919 dL_law_1946 (by decide) ?_
    refine r_weak (L' := [(0, (6, 200)), (1, (4, x)), (2, (4, m)), (3, (4, o)), (4, (4, d)), (5, (0, i))]) [2, 3, 4, 5, 6, 7] rfl ?_
    exact kk _ hP
  · have hv := hv (zite_p h)
    refine r_aload_n 5 dL_law_1934 rfl ?_
    refine r_iconst (v := 0) dL_law_1935 rfl rfl ?_
    refine r_lald dL_law_1936 hv (fun v h => ?_)
    refine r_iload 0 dL_law_1937 rfl ?_
    refine r_i2l dL_law_1939 ?_
    refine r_lcmp dL_law_1940 ?_
    refine r_if_eq 1946 dL_law_1941 (by decide) (z_yes (σ := σ) (zlc_eq (zite_p h))) (fun _ => ?_) (fun h => by obtain ⟨r, h, -⟩ := h; cases h)
    refine r_goto 3919 dL_law_1946 (by decide) ?_
    refine r_weak (L' := [(0, (6, 200)), (1, (4, x)), (2, (4, m)), (3, (4, o)), (4, (4, d)), (5, (0, i))]) [2, 3, 4, 5, 6, 7] rfl ?_
    exact kk _ hP
set_option maxHeartbeats 4000000 in
theorem t_L_29 {g : zF} (hl0 : g.2.2.2.1.stackTraces = false) (hL9 : zsl9 g ≤ 3072) {x m o d i : Int} {σ : zS} {C' D' : Nat} {P : zS → Prop} (hi : 0 ≤ i) (hi6 : i + 6 ≤ (zsl9 g : Int)) (hx : σ.1.1 x = some (0, 7)) (h : q_L_29 x m o d (fun j => zscr g (i.toNat + j)) P σ) (kk : ∀ τ, P τ → zw g Y_L_law room_1 3919 [(0, (6, 200)), (1, (4, x)), (2, (4, m)), (3, (4, o)), (4, (4, d)), (5, (0, i))] [] τ C' D' zQ1) : zw g Y_L_law room_1 1949 [(0, (6, 200)), (1, (4, x)), (2, (4, m)), (3, (4, o)), (4, (4, d)), (5, (0, i))] [] σ (C' + 31) (D' + 7344) zQ1 := by
  unfold q_L_29 at h
  refine r_aload_n 1 dL_law_1949 rfl ?_
  refine r_scrk (k := 1) 0 5 hL9 hi (by omega) dL_law_1950 rfl dL_law_1951 rfl dL_law_1953 dL_law_1954 dL_law_1955 ?_
  refine r_scrk (k := 2) 0 5 hL9 hi (by omega) dL_law_1956 rfl dL_law_1957 rfl dL_law_1959 dL_law_1960 dL_law_1961 ?_
  refine r_aload_n 3 dL_law_1962 rfl ?_
  refine r_callSH (K' := Y_L_common) (R' := R_L_common) (idx := 291) (n := 4) (as := [(4, x), (0, (zscr g (i.toNat + 1))), (0, (zscr g (i.toNat + 2))), (4, o)]) (rest := []) (C' := C') (D' := D') k0_L_common wl_1111 wl_1110 ⟨by decide, by decide⟩ dL_law_1963 rfl rfl (Nat.le_of_ble_eq_true rfl) (by have e : R_L_common.cells = 2 := rfl; omega) (by have e : R_L_common.slots = 12 := rfl; omega) (m_L_common hl0 hx h) (fun e τ hq => by obtain ⟨c, τ', e0, -⟩ := hq; cases e0) (fun c9 τ9 hq => ?_)
  obtain ⟨c, τ, e0, hk⟩ := hq
  obtain ⟨e1, e2⟩ : c9 = c ∧ τ9 = τ := by cases e0; exact ⟨rfl, rfl⟩
  rw [e1, e2]
  obtain ⟨hm1, b, τ1, hb, hm2, t, τ2, ht, hc, hv, hP⟩ := hk
  refine r_istore (L' := [(6, (0, c)), (0, (6, 200)), (1, (4, x)), (2, (4, m)), (3, (4, o)), (4, (4, d)), (5, (0, i))]) dL_law_1966 (by decide) rfl ?_
  refine r_aload_n 3 dL_law_1968 rfl ?_
  refine r_scrk (k := 1) 1 6 hL9 hi (by omega) dL_law_1969 rfl dL_law_1970 rfl dL_law_1972 dL_law_1973 dL_law_1974 ?_
  refine r_scrk (k := 2) 1 6 hL9 hi (by omega) dL_law_1975 rfl dL_law_1976 rfl dL_law_1978 dL_law_1979 dL_law_1980 ?_
  refine r_callVC (K' := Y_X8_common) (R' := R_X8_common) (idx := 293) (n := 2) (b := m) (as := [(0, (zscr g (i.toNat + 1))), (0, (zscr g (i.toNat + 2)))]) (rest := []) (cn := 8) (C' := C') (D' := D') k0_X8_common kV_X8_common kl_L_293 ⟨by decide, by decide⟩ dL_law_1981 rfl rfl (Nat.le_of_ble_eq_true rfl) (by have e : R_X8_common.cells = 0 := rfl; omega) (by have e : R_X8_common.slots = 0 := rfl; omega) rfl hm1 ⟨_, hb⟩ (fun r hr => m_X8_common hl0 ⟨r, hr, hr⟩) (fun ex τ n q hq hn => by rw [hb] at hq; cases hq) (fun v9 τ9 hq => ?_)
  obtain ⟨e1, e2⟩ : v9 = b ∧ τ9 = τ1 := by rw [hb] at hq; cases hq; exact ⟨rfl, rfl⟩
  rw [e1, e2]
  refine r_istore (L' := [(7, (0, b)), (6, (0, c)), (0, (6, 200)), (1, (4, x)), (2, (4, m)), (3, (4, o)), (4, (4, d)), (5, (0, i))]) dL_law_1984 (by decide) rfl ?_
  refine r_aload_n 4 dL_law_1986 rfl ?_
  refine r_callVC (K' := Y_X8_thrown) (R' := R_X8_thrown) (idx := 195) (n := 0) (b := m) (as := []) (rest := []) (cn := 8) (C' := C') (D' := D') k0_X8_thrown kV_X8_thrown kl_L_195 ⟨by decide, by decide⟩ dL_law_1987 rfl rfl (Nat.le_of_ble_eq_true rfl) (by have e : R_X8_thrown.cells = 0 := rfl; omega) (by have e : R_X8_thrown.slots = 0 := rfl; omega) rfl hm2 ⟨_, ht⟩ (fun r hr => m_X8_thrown hl0 ⟨r, hr, hr⟩) (fun ex τ n q hq hn => by rw [ht] at hq; cases hq) (fun v9 τ9 hq => ?_)
  obtain ⟨e1, e2⟩ : v9 = t ∧ τ9 = τ2 := by rw [ht] at hq; cases hq; exact ⟨rfl, rfl⟩
  rw [e1, e2]
  refine r_iload 1 dL_law_1990 rfl ?_
  refine r_icmp_eq 1997 dL_law_1992 (by decide) (z_yes (σ := σ) hc) (fun _ => ?_) (fun h => by obtain ⟨r, h, -⟩ := h; cases h)
  refine r_iload 1 dL_law_1997 rfl ?_
  refine r_if_ne 2014 dL_law_1999 (by decide) (z_br (σ := σ)) (fun _ => ?_) (fun h => ?_)
  · refine r_goto 3919 dL_law_2014 (by decide) ?_
    refine r_weak (L' := [(0, (6, 200)), (1, (4, x)), (2, (4, m)), (3, (4, o)), (4, (4, d)), (5, (0, i))]) [2, 3, 4, 5, 6, 7] rfl ?_
    exact kk _ hP
  · have hv := hv (zite_p h)
    refine r_aload_n 5 dL_law_2002 rfl ?_
    refine r_iconst (v := 0) dL_law_2003 rfl rfl ?_
    refine r_lald dL_law_2004 hv (fun v h => ?_)
    refine r_iload 0 dL_law_2005 rfl ?_
    refine r_i2l dL_law_2007 ?_
    refine r_lcmp dL_law_2008 ?_
    refine r_if_eq 2014 dL_law_2009 (by decide) (z_yes (σ := σ) (zlc_eq (zite_p h))) (fun _ => ?_) (fun h => by obtain ⟨r, h, -⟩ := h; cases h)
    refine r_goto 3919 dL_law_2014 (by decide) ?_
    refine r_weak (L' := [(0, (6, 200)), (1, (4, x)), (2, (4, m)), (3, (4, o)), (4, (4, d)), (5, (0, i))]) [2, 3, 4, 5, 6, 7] rfl ?_
    exact kk _ hP
set_option maxHeartbeats 4000000 in
theorem t_L_30 {g : zF} (hl0 : g.2.2.2.1.stackTraces = false) (hL9 : zsl9 g ≤ 3072) {x m o d i : Int} {σ : zS} {C' D' : Nat} {P : zS → Prop} (hi : 0 ≤ i) (hi6 : i + 6 ≤ (zsl9 g : Int)) (hx : σ.1.1 x = some (0, 7)) (h : q_L_30 x m o d (fun j => zscr g (i.toNat + j)) P σ) (kk : ∀ τ, P τ → zw g Y_L_law room_1 3919 [(0, (6, 200)), (1, (4, x)), (2, (4, m)), (3, (4, o)), (4, (4, d)), (5, (0, i))] [] τ C' D' zQ1) : zw g Y_L_law room_1 2017 [(0, (6, 200)), (1, (4, x)), (2, (4, m)), (3, (4, o)), (4, (4, d)), (5, (0, i))] [] σ (C' + 31) (D' + 7344) zQ1 := by
  unfold q_L_30 at h
  refine r_aload_n 1 dL_law_2017 rfl ?_
  refine r_scrk (k := 1) 0 5 hL9 hi (by omega) dL_law_2018 rfl dL_law_2019 rfl dL_law_2021 dL_law_2022 dL_law_2023 ?_
  refine r_scrk (k := 2) 0 5 hL9 hi (by omega) dL_law_2024 rfl dL_law_2025 rfl dL_law_2027 dL_law_2028 dL_law_2029 ?_
  refine r_aload_n 3 dL_law_2030 rfl ?_
  refine r_callSH (K' := Y_L_account) (R' := R_L_account) (idx := 294) (n := 4) (as := [(4, x), (0, (zscr g (i.toNat + 1))), (0, (zscr g (i.toNat + 2))), (4, o)]) (rest := []) (C' := C') (D' := D') k0_L_account wl_1119 wl_1118 ⟨by decide, by decide⟩ dL_law_2031 rfl rfl (Nat.le_of_ble_eq_true rfl) (by have e : R_L_account.cells = 2 := rfl; omega) (by have e : R_L_account.slots = 12 := rfl; omega) (m_L_account hl0 hx h) (fun e τ hq => by obtain ⟨c, τ', e0, -⟩ := hq; cases e0) (fun c9 τ9 hq => ?_)
  obtain ⟨c, τ, e0, hk⟩ := hq
  obtain ⟨e1, e2⟩ : c9 = c ∧ τ9 = τ := by cases e0; exact ⟨rfl, rfl⟩
  rw [e1, e2]
  obtain ⟨hm1, b, τ1, hb, hm2, t, τ2, ht, hc, hv, hP⟩ := hk
  refine r_istore (L' := [(6, (0, c)), (0, (6, 200)), (1, (4, x)), (2, (4, m)), (3, (4, o)), (4, (4, d)), (5, (0, i))]) dL_law_2034 (by decide) rfl ?_
  refine r_aload_n 3 dL_law_2036 rfl ?_
  refine r_scrk (k := 1) 1 6 hL9 hi (by omega) dL_law_2037 rfl dL_law_2038 rfl dL_law_2040 dL_law_2041 dL_law_2042 ?_
  refine r_scrk (k := 2) 1 6 hL9 hi (by omega) dL_law_2043 rfl dL_law_2044 rfl dL_law_2046 dL_law_2047 dL_law_2048 ?_
  refine r_callVC (K' := Y_X8_account) (R' := R_X8_account) (idx := 296) (n := 2) (b := m) (as := [(0, (zscr g (i.toNat + 1))), (0, (zscr g (i.toNat + 2)))]) (rest := []) (cn := 8) (C' := C') (D' := D') k0_X8_account kV_X8_account kl_L_296 ⟨by decide, by decide⟩ dL_law_2049 rfl rfl (Nat.le_of_ble_eq_true rfl) (by have e : R_X8_account.cells = 0 := rfl; omega) (by have e : R_X8_account.slots = 0 := rfl; omega) rfl hm1 ⟨_, hb⟩ (fun r hr => m_X8_account hl0 ⟨r, hr, hr⟩) (fun ex τ n q hq hn => by rw [hb] at hq; cases hq) (fun v9 τ9 hq => ?_)
  obtain ⟨e1, e2⟩ : v9 = b ∧ τ9 = τ1 := by rw [hb] at hq; cases hq; exact ⟨rfl, rfl⟩
  rw [e1, e2]
  refine r_istore (L' := [(7, (0, b)), (6, (0, c)), (0, (6, 200)), (1, (4, x)), (2, (4, m)), (3, (4, o)), (4, (4, d)), (5, (0, i))]) dL_law_2052 (by decide) rfl ?_
  refine r_aload_n 4 dL_law_2054 rfl ?_
  refine r_callVC (K' := Y_X8_thrown) (R' := R_X8_thrown) (idx := 195) (n := 0) (b := m) (as := []) (rest := []) (cn := 8) (C' := C') (D' := D') k0_X8_thrown kV_X8_thrown kl_L_195 ⟨by decide, by decide⟩ dL_law_2055 rfl rfl (Nat.le_of_ble_eq_true rfl) (by have e : R_X8_thrown.cells = 0 := rfl; omega) (by have e : R_X8_thrown.slots = 0 := rfl; omega) rfl hm2 ⟨_, ht⟩ (fun r hr => m_X8_thrown hl0 ⟨r, hr, hr⟩) (fun ex τ n q hq hn => by rw [ht] at hq; cases hq) (fun v9 τ9 hq => ?_)
  obtain ⟨e1, e2⟩ : v9 = t ∧ τ9 = τ2 := by rw [ht] at hq; cases hq; exact ⟨rfl, rfl⟩
  rw [e1, e2]
  refine r_iload 1 dL_law_2058 rfl ?_
  refine r_icmp_eq 2065 dL_law_2060 (by decide) (z_yes (σ := σ) hc) (fun _ => ?_) (fun h => by obtain ⟨r, h, -⟩ := h; cases h)
  refine r_iload 1 dL_law_2065 rfl ?_
  refine r_if_ne 2082 dL_law_2067 (by decide) (z_br (σ := σ)) (fun _ => ?_) (fun h => ?_)
  · refine r_goto 3919 dL_law_2082 (by decide) ?_
    refine r_weak (L' := [(0, (6, 200)), (1, (4, x)), (2, (4, m)), (3, (4, o)), (4, (4, d)), (5, (0, i))]) [2, 3, 4, 5, 6, 7] rfl ?_
    exact kk _ hP
  · have hv := hv (zite_p h)
    refine r_aload_n 5 dL_law_2070 rfl ?_
    refine r_iconst (v := 0) dL_law_2071 rfl rfl ?_
    refine r_lald dL_law_2072 hv (fun v h => ?_)
    refine r_iload 0 dL_law_2073 rfl ?_
    refine r_i2l dL_law_2075 ?_
    refine r_lcmp dL_law_2076 ?_
    refine r_if_eq 2082 dL_law_2077 (by decide) (z_yes (σ := σ) (zlc_eq (zite_p h))) (fun _ => ?_) (fun h => by obtain ⟨r, h, -⟩ := h; cases h)
    refine r_goto 3919 dL_law_2082 (by decide) ?_
    refine r_weak (L' := [(0, (6, 200)), (1, (4, x)), (2, (4, m)), (3, (4, o)), (4, (4, d)), (5, (0, i))]) [2, 3, 4, 5, 6, 7] rfl ?_
    exact kk _ hP
set_option maxHeartbeats 4000000 in
theorem t_L_31 {g : zF} (hl0 : g.2.2.2.1.stackTraces = false) (hL9 : zsl9 g ≤ 3072) {x m o d i : Int} {σ : zS} {C' D' : Nat} {P : zS → Prop} (hi : 0 ≤ i) (hi6 : i + 6 ≤ (zsl9 g : Int)) (hx : σ.1.1 x = some (0, 7)) (h : q_L_31 x m o d (fun j => zscr g (i.toNat + j)) P σ) (kk : ∀ τ, P τ → zw g Y_L_law room_1 3919 [(0, (6, 200)), (1, (4, x)), (2, (4, m)), (3, (4, o)), (4, (4, d)), (5, (0, i))] [] τ C' D' zQ1) : zw g Y_L_law room_1 2085 [(0, (6, 200)), (1, (4, x)), (2, (4, m)), (3, (4, o)), (4, (4, d)), (5, (0, i))] [] σ (C' + 31) (D' + 7344) zQ1 := by
  unfold q_L_31 at h
  refine r_aload_n 1 dL_law_2085 rfl ?_
  refine r_scrk (k := 1) 0 5 hL9 hi (by omega) dL_law_2086 rfl dL_law_2087 rfl dL_law_2089 dL_law_2090 dL_law_2091 ?_
  refine r_scrk (k := 2) 0 5 hL9 hi (by omega) dL_law_2092 rfl dL_law_2093 rfl dL_law_2095 dL_law_2096 dL_law_2097 ?_
  refine r_aload_n 3 dL_law_2098 rfl ?_
  refine r_callSH (K' := Y_L_message) (R' := R_L_message) (idx := 297) (n := 4) (as := [(4, x), (0, (zscr g (i.toNat + 1))), (0, (zscr g (i.toNat + 2))), (4, o)]) (rest := []) (C' := C') (D' := D') k0_L_message wl_1130 wl_1129 ⟨by decide, by decide⟩ dL_law_2099 rfl rfl (Nat.le_of_ble_eq_true rfl) (by have e : R_L_message.cells = 2 := rfl; omega) (by have e : R_L_message.slots = 12 := rfl; omega) (m_L_message hl0 hx h) (fun e τ hq => by obtain ⟨c, τ', e0, -⟩ := hq; cases e0) (fun c9 τ9 hq => ?_)
  obtain ⟨c, τ, e0, hk⟩ := hq
  obtain ⟨e1, e2⟩ : c9 = c ∧ τ9 = τ := by cases e0; exact ⟨rfl, rfl⟩
  rw [e1, e2]
  obtain ⟨hm1, b, τ1, hb, hm2, t, τ2, ht, hc, hv, hP⟩ := hk
  refine r_istore (L' := [(6, (0, c)), (0, (6, 200)), (1, (4, x)), (2, (4, m)), (3, (4, o)), (4, (4, d)), (5, (0, i))]) dL_law_2102 (by decide) rfl ?_
  refine r_aload_n 3 dL_law_2104 rfl ?_
  refine r_scrk (k := 1) 1 6 hL9 hi (by omega) dL_law_2105 rfl dL_law_2106 rfl dL_law_2108 dL_law_2109 dL_law_2110 ?_
  refine r_scrk (k := 2) 1 6 hL9 hi (by omega) dL_law_2111 rfl dL_law_2112 rfl dL_law_2114 dL_law_2115 dL_law_2116 ?_
  refine r_callVC (K' := Y_X8_message) (R' := R_X8_message) (idx := 299) (n := 2) (b := m) (as := [(0, (zscr g (i.toNat + 1))), (0, (zscr g (i.toNat + 2)))]) (rest := []) (cn := 8) (C' := C') (D' := D') k0_X8_message kV_X8_message kl_L_299 ⟨by decide, by decide⟩ dL_law_2117 rfl rfl (Nat.le_of_ble_eq_true rfl) (by have e : R_X8_message.cells = 0 := rfl; omega) (by have e : R_X8_message.slots = 0 := rfl; omega) rfl hm1 ⟨_, hb⟩ (fun r hr => m_X8_message hl0 ⟨r, hr, hr⟩) (fun ex τ n q hq hn => by rw [hb] at hq; cases hq) (fun v9 τ9 hq => ?_)
  obtain ⟨e1, e2⟩ : v9 = b ∧ τ9 = τ1 := by rw [hb] at hq; cases hq; exact ⟨rfl, rfl⟩
  rw [e1, e2]
  refine r_istore (L' := [(7, (0, b)), (6, (0, c)), (0, (6, 200)), (1, (4, x)), (2, (4, m)), (3, (4, o)), (4, (4, d)), (5, (0, i))]) dL_law_2120 (by decide) rfl ?_
  refine r_aload_n 4 dL_law_2122 rfl ?_
  refine r_callVC (K' := Y_X8_thrown) (R' := R_X8_thrown) (idx := 195) (n := 0) (b := m) (as := []) (rest := []) (cn := 8) (C' := C') (D' := D') k0_X8_thrown kV_X8_thrown kl_L_195 ⟨by decide, by decide⟩ dL_law_2123 rfl rfl (Nat.le_of_ble_eq_true rfl) (by have e : R_X8_thrown.cells = 0 := rfl; omega) (by have e : R_X8_thrown.slots = 0 := rfl; omega) rfl hm2 ⟨_, ht⟩ (fun r hr => m_X8_thrown hl0 ⟨r, hr, hr⟩) (fun ex τ n q hq hn => by rw [ht] at hq; cases hq) (fun v9 τ9 hq => ?_)
  obtain ⟨e1, e2⟩ : v9 = t ∧ τ9 = τ2 := by rw [ht] at hq; cases hq; exact ⟨rfl, rfl⟩
  rw [e1, e2]
  refine r_iload 1 dL_law_2126 rfl ?_
  refine r_icmp_eq 2133 dL_law_2128 (by decide) (z_yes (σ := σ) hc) (fun _ => ?_) (fun h => by obtain ⟨r, h, -⟩ := h; cases h)
  refine r_iload 1 dL_law_2133 rfl ?_
  refine r_if_ne 2150 dL_law_2135 (by decide) (z_br (σ := σ)) (fun _ => ?_) (fun h => ?_)
  · refine r_goto 3919 dL_law_2150 (by decide) ?_
    refine r_weak (L' := [(0, (6, 200)), (1, (4, x)), (2, (4, m)), (3, (4, o)), (4, (4, d)), (5, (0, i))]) [2, 3, 4, 5, 6, 7] rfl ?_
    exact kk _ hP
  · have hv := hv (zite_p h)
    refine r_aload_n 5 dL_law_2138 rfl ?_
    refine r_iconst (v := 0) dL_law_2139 rfl rfl ?_
    refine r_lald dL_law_2140 hv (fun v h => ?_)
    refine r_iload 0 dL_law_2141 rfl ?_
    refine r_i2l dL_law_2143 ?_
    refine r_lcmp dL_law_2144 ?_
    refine r_if_eq 2150 dL_law_2145 (by decide) (z_yes (σ := σ) (zlc_eq (zite_p h))) (fun _ => ?_) (fun h => by obtain ⟨r, h, -⟩ := h; cases h)
    refine r_goto 3919 dL_law_2150 (by decide) ?_
    refine r_weak (L' := [(0, (6, 200)), (1, (4, x)), (2, (4, m)), (3, (4, o)), (4, (4, d)), (5, (0, i))]) [2, 3, 4, 5, 6, 7] rfl ?_
    exact kk _ hP
set_option maxHeartbeats 4000000 in
theorem t_L_32 {g : zF} (hl0 : g.2.2.2.1.stackTraces = false) (hL9 : zsl9 g ≤ 3072) {x m o d i : Int} {σ : zS} {C' D' : Nat} {P : zS → Prop} (hi : 0 ≤ i) (hi6 : i + 6 ≤ (zsl9 g : Int)) (hx : σ.1.1 x = some (0, 7)) (h : q_L_32 x m o d (fun j => zscr g (i.toNat + j)) P σ) (kk : ∀ τ, P τ → zw g Y_L_law room_1 3919 [(0, (6, 200)), (1, (4, x)), (2, (4, m)), (3, (4, o)), (4, (4, d)), (5, (0, i))] [] τ C' D' zQ1) : zw g Y_L_law room_1 2153 [(0, (6, 200)), (1, (4, x)), (2, (4, m)), (3, (4, o)), (4, (4, d)), (5, (0, i))] [] σ (C' + 31) (D' + 7344) zQ1 := by
  unfold q_L_32 at h
  refine r_aload_n 1 dL_law_2153 rfl ?_
  refine r_scrk (k := 1) 0 5 hL9 hi (by omega) dL_law_2154 rfl dL_law_2155 rfl dL_law_2157 dL_law_2158 dL_law_2159 ?_
  refine r_aload 4 dL_law_2160 rfl ?_
  refine r_callSH (K' := Y_L_standing) (R' := R_L_standing) (idx := 300) (n := 3) (as := [(4, x), (0, (zscr g (i.toNat + 1))), (4, d)]) (rest := []) (C' := C') (D' := D') k0_L_standing wl_1162 wl_1161 ⟨by decide, by decide⟩ dL_law_2162 rfl rfl (Nat.le_of_ble_eq_true rfl) (by have e : R_L_standing.cells = 1 := rfl; omega) (by have e : R_L_standing.slots = 6 := rfl; omega) (m_L_standing hl0 hx h) (fun e τ hq => by obtain ⟨c, τ', e0, -⟩ := hq; cases e0) (fun c9 τ9 hq => ?_)
  obtain ⟨c, τ, e0, hk⟩ := hq
  obtain ⟨e1, e2⟩ : c9 = c ∧ τ9 = τ := by cases e0; exact ⟨rfl, rfl⟩
  rw [e1, e2]
  obtain ⟨hm1, b, τ1, hb, hm2, t, τ2, ht, hc, hv, hP⟩ := hk
  refine r_istore (L' := [(6, (0, c)), (0, (6, 200)), (1, (4, x)), (2, (4, m)), (3, (4, o)), (4, (4, d)), (5, (0, i))]) dL_law_2165 (by decide) rfl ?_
  refine r_aload_n 3 dL_law_2167 rfl ?_
  refine r_scrk (k := 1) 1 6 hL9 hi (by omega) dL_law_2168 rfl dL_law_2169 rfl dL_law_2171 dL_law_2172 dL_law_2173 ?_
  refine r_callVC (K' := Y_X8_standing) (R' := R_X8_standing) (idx := 303) (n := 1) (b := m) (as := [(0, (zscr g (i.toNat + 1)))]) (rest := []) (cn := 8) (C' := C') (D' := D') k0_X8_standing kV_X8_standing kl_L_303 ⟨by decide, by decide⟩ dL_law_2174 rfl rfl (Nat.le_of_ble_eq_true rfl) (by have e : R_X8_standing.cells = 0 := rfl; omega) (by have e : R_X8_standing.slots = 0 := rfl; omega) rfl hm1 ⟨_, hb⟩ (fun r hr => m_X8_standing hl0 ⟨r, hr, hr⟩) (fun ex τ n q hq hn => by rw [hb] at hq; cases hq) (fun v9 τ9 hq => ?_)
  obtain ⟨e1, e2⟩ : v9 = b ∧ τ9 = τ1 := by rw [hb] at hq; cases hq; exact ⟨rfl, rfl⟩
  rw [e1, e2]
  refine r_fstore (L' := [(7, (2, b)), (6, (0, c)), (0, (6, 200)), (1, (4, x)), (2, (4, m)), (3, (4, o)), (4, (4, d)), (5, (0, i))]) dL_law_2177 (by decide) rfl ?_
  refine r_aload_n 4 dL_law_2179 rfl ?_
  refine r_callVC (K' := Y_X8_thrown) (R' := R_X8_thrown) (idx := 195) (n := 0) (b := m) (as := []) (rest := []) (cn := 8) (C' := C') (D' := D') k0_X8_thrown kV_X8_thrown kl_L_195 ⟨by decide, by decide⟩ dL_law_2180 rfl rfl (Nat.le_of_ble_eq_true rfl) (by have e : R_X8_thrown.cells = 0 := rfl; omega) (by have e : R_X8_thrown.slots = 0 := rfl; omega) rfl hm2 ⟨_, ht⟩ (fun r hr => m_X8_thrown hl0 ⟨r, hr, hr⟩) (fun ex τ n q hq hn => by rw [ht] at hq; cases hq) (fun v9 τ9 hq => ?_)
  obtain ⟨e1, e2⟩ : v9 = t ∧ τ9 = τ2 := by rw [ht] at hq; cases hq; exact ⟨rfl, rfl⟩
  rw [e1, e2]
  refine r_iload 1 dL_law_2183 rfl ?_
  refine r_icmp_eq 2190 dL_law_2185 (by decide) (z_yes (σ := σ) hc) (fun _ => ?_) (fun h => by obtain ⟨r, h, -⟩ := h; cases h)
  refine r_iload 1 dL_law_2190 rfl ?_
  refine r_if_ne 2228 dL_law_2192 (by decide) (z_br (σ := σ)) (fun _ => ?_) (fun h => ?_)
  · refine r_goto 3919 dL_law_2228 (by decide) ?_
    refine r_weak (L' := [(0, (6, 200)), (1, (4, x)), (2, (4, m)), (3, (4, o)), (4, (4, d)), (5, (0, i))]) [2, 3, 4, 5, 6, 7] rfl ?_
    exact kk _ hP
  · have hv := hv (zite_p h)
    refine r_aload 6 dL_law_2195 rfl ?_
    refine r_iconst (v := 0) dL_law_2197 rfl rfl ?_
    refine r_dald dL_law_2198 hv (fun v h => ?_)
    refine r_fload 0 dL_law_2199 rfl ?_
    refine r_f2d dL_law_2201 h (fun h => ?_)
    refine r_dcmp dL_law_2202 ?_
    refine r_if_eq 2228 dL_law_2203 (by decide) (z_yes (σ := σ) (zite_p h)) (fun _ => ?_) (fun h => by obtain ⟨r, h, -⟩ := h; cases h)
    refine r_goto 3919 dL_law_2228 (by decide) ?_
    refine r_weak (L' := [(0, (6, 200)), (1, (4, x)), (2, (4, m)), (3, (4, o)), (4, (4, d)), (5, (0, i))]) [2, 3, 4, 5, 6, 7] rfl ?_
    exact kk _ hP
set_option maxHeartbeats 4000000 in
theorem t_L_33 {g : zF} (hl0 : g.2.2.2.1.stackTraces = false) (hL9 : zsl9 g ≤ 3072) {x m o d i : Int} {σ : zS} {C' D' : Nat} {P : zS → Prop} (hi : 0 ≤ i) (hi6 : i + 6 ≤ (zsl9 g : Int)) (hx : σ.1.1 x = some (0, 7)) (h : q_L_33 x m o d (fun j => zscr g (i.toNat + j)) P σ) (kk : ∀ τ, P τ → zw g Y_L_law room_1 3919 [(0, (6, 200)), (1, (4, x)), (2, (4, m)), (3, (4, o)), (4, (4, d)), (5, (0, i))] [] τ C' D' zQ1) : zw g Y_L_law room_1 2231 [(0, (6, 200)), (1, (4, x)), (2, (4, m)), (3, (4, o)), (4, (4, d)), (5, (0, i))] [] σ (C' + 31) (D' + 7344) zQ1 := by
  unfold q_L_33 at h
  refine r_aload_n 1 dL_law_2231 rfl ?_
  refine r_scrk (k := 1) 0 5 hL9 hi (by omega) dL_law_2232 rfl dL_law_2233 rfl dL_law_2235 dL_law_2236 dL_law_2237 ?_
  refine r_scrk (k := 2) 0 5 hL9 hi (by omega) dL_law_2238 rfl dL_law_2239 rfl dL_law_2241 dL_law_2242 dL_law_2243 ?_
  refine r_scrk (k := 3) 0 5 hL9 hi (by omega) dL_law_2244 rfl dL_law_2245 rfl dL_law_2247 dL_law_2248 dL_law_2249 ?_
  refine r_scrk (k := 4) 0 5 hL9 hi (by omega) dL_law_2250 rfl dL_law_2251 rfl dL_law_2253 dL_law_2254 dL_law_2255 ?_
  refine r_scrk (k := 5) 0 5 hL9 hi (by omega) dL_law_2256 rfl dL_law_2257 rfl dL_law_2259 dL_law_2260 dL_law_2261 ?_
  refine r_aload_n 3 dL_law_2262 rfl ?_
  refine r_callSH (K' := Y_L_beliefIf) (R' := R_L_beliefIf) (idx := 304) (n := 7) (as := [(4, x), (0, (zscr g (i.toNat + 1))), (0, (zscr g (i.toNat + 2))), (0, (zscr g (i.toNat + 3))), (0, (zscr g (i.toNat + 4))), (0, (zscr g (i.toNat + 5))), (4, o)]) (rest := []) (C' := C') (D' := D') k0_L_beliefIf wl_1169 wl_1168 ⟨by decide, by decide⟩ dL_law_2263 rfl rfl (Nat.le_of_ble_eq_true rfl) (by have e : R_L_beliefIf.cells = 5 := rfl; omega) (by have e : R_L_beliefIf.slots = 30 := rfl; omega) (m_L_beliefIf hl0 hx h) (fun e τ hq => by obtain ⟨c, τ', e0, -⟩ := hq; cases e0) (fun c9 τ9 hq => ?_)
  obtain ⟨c, τ, e0, hk⟩ := hq
  obtain ⟨e1, e2⟩ : c9 = c ∧ τ9 = τ := by cases e0; exact ⟨rfl, rfl⟩
  rw [e1, e2]
  obtain ⟨hm1, b, τ1, hb, hm2, t, τ2, ht, hc, hv, hP⟩ := hk
  refine r_istore (L' := [(6, (0, c)), (0, (6, 200)), (1, (4, x)), (2, (4, m)), (3, (4, o)), (4, (4, d)), (5, (0, i))]) dL_law_2266 (by decide) rfl ?_
  refine r_aload_n 3 dL_law_2268 rfl ?_
  refine r_scrk (k := 1) 1 6 hL9 hi (by omega) dL_law_2269 rfl dL_law_2270 rfl dL_law_2272 dL_law_2273 dL_law_2274 ?_
  refine r_scrk (k := 2) 1 6 hL9 hi (by omega) dL_law_2275 rfl dL_law_2276 rfl dL_law_2278 dL_law_2279 dL_law_2280 ?_
  refine r_scrk (k := 3) 1 6 hL9 hi (by omega) dL_law_2281 rfl dL_law_2282 rfl dL_law_2284 dL_law_2285 dL_law_2286 ?_
  refine r_scrk (k := 4) 1 6 hL9 hi (by omega) dL_law_2287 rfl dL_law_2288 rfl dL_law_2290 dL_law_2291 dL_law_2292 ?_
  refine r_scrk (k := 5) 1 6 hL9 hi (by omega) dL_law_2293 rfl dL_law_2294 rfl dL_law_2296 dL_law_2297 dL_law_2298 ?_
  refine r_callVC (K' := Y_X8_beliefIf) (R' := R_X8_beliefIf) (idx := 306) (n := 5) (b := m) (as := [(0, (zscr g (i.toNat + 1))), (0, (zscr g (i.toNat + 2))), (0, (zscr g (i.toNat + 3))), (0, (zscr g (i.toNat + 4))), (0, (zscr g (i.toNat + 5)))]) (rest := []) (cn := 8) (C' := C') (D' := D') k0_X8_beliefIf kV_X8_beliefIf kl_L_306 ⟨by decide, by decide⟩ dL_law_2299 rfl rfl (Nat.le_of_ble_eq_true rfl) (by have e : R_X8_beliefIf.cells = 0 := rfl; omega) (by have e : R_X8_beliefIf.slots = 0 := rfl; omega) rfl hm1 ⟨_, hb⟩ (fun r hr => m_X8_beliefIf hl0 ⟨r, hr, hr⟩) (fun ex τ n q hq hn => by rw [hb] at hq; cases hq) (fun v9 τ9 hq => ?_)
  obtain ⟨e1, e2⟩ : v9 = b ∧ τ9 = τ1 := by rw [hb] at hq; cases hq; exact ⟨rfl, rfl⟩
  rw [e1, e2]
  refine r_istore (L' := [(7, (0, b)), (6, (0, c)), (0, (6, 200)), (1, (4, x)), (2, (4, m)), (3, (4, o)), (4, (4, d)), (5, (0, i))]) dL_law_2302 (by decide) rfl ?_
  refine r_aload_n 4 dL_law_2304 rfl ?_
  refine r_callVC (K' := Y_X8_thrown) (R' := R_X8_thrown) (idx := 195) (n := 0) (b := m) (as := []) (rest := []) (cn := 8) (C' := C') (D' := D') k0_X8_thrown kV_X8_thrown kl_L_195 ⟨by decide, by decide⟩ dL_law_2305 rfl rfl (Nat.le_of_ble_eq_true rfl) (by have e : R_X8_thrown.cells = 0 := rfl; omega) (by have e : R_X8_thrown.slots = 0 := rfl; omega) rfl hm2 ⟨_, ht⟩ (fun r hr => m_X8_thrown hl0 ⟨r, hr, hr⟩) (fun ex τ n q hq hn => by rw [ht] at hq; cases hq) (fun v9 τ9 hq => ?_)
  obtain ⟨e1, e2⟩ : v9 = t ∧ τ9 = τ2 := by rw [ht] at hq; cases hq; exact ⟨rfl, rfl⟩
  rw [e1, e2]
  refine r_iload 1 dL_law_2308 rfl ?_
  refine r_icmp_eq 2315 dL_law_2310 (by decide) (z_yes (σ := σ) hc) (fun _ => ?_) (fun h => by obtain ⟨r, h, -⟩ := h; cases h)
  refine r_iload 1 dL_law_2315 rfl ?_
  refine r_if_ne 2332 dL_law_2317 (by decide) (z_br (σ := σ)) (fun _ => ?_) (fun h => ?_)
  · refine r_goto 3919 dL_law_2332 (by decide) ?_
    refine r_weak (L' := [(0, (6, 200)), (1, (4, x)), (2, (4, m)), (3, (4, o)), (4, (4, d)), (5, (0, i))]) [2, 3, 4, 5, 6, 7] rfl ?_
    exact kk _ hP
  · have hv := hv (zite_p h)
    refine r_aload_n 5 dL_law_2320 rfl ?_
    refine r_iconst (v := 0) dL_law_2321 rfl rfl ?_
    refine r_lald dL_law_2322 hv (fun v h => ?_)
    refine r_iload 0 dL_law_2323 rfl ?_
    refine r_i2l dL_law_2325 ?_
    refine r_lcmp dL_law_2326 ?_
    refine r_if_eq 2332 dL_law_2327 (by decide) (z_yes (σ := σ) (zlc_eq (zite_p h))) (fun _ => ?_) (fun h => by obtain ⟨r, h, -⟩ := h; cases h)
    refine r_goto 3919 dL_law_2332 (by decide) ?_
    refine r_weak (L' := [(0, (6, 200)), (1, (4, x)), (2, (4, m)), (3, (4, o)), (4, (4, d)), (5, (0, i))]) [2, 3, 4, 5, 6, 7] rfl ?_
    exact kk _ hP
set_option maxHeartbeats 4000000 in
theorem t_L_34 {g : zF} (hl0 : g.2.2.2.1.stackTraces = false) (hL9 : zsl9 g ≤ 3072) {x m o d i : Int} {σ : zS} {C' D' : Nat} {P : zS → Prop} (hi : 0 ≤ i) (hi6 : i + 6 ≤ (zsl9 g : Int)) (hx : σ.1.1 x = some (0, 7)) (h : q_L_34 x m o d (fun j => zscr g (i.toNat + j)) P σ) (kk : ∀ τ, P τ → zw g Y_L_law room_1 3919 [(0, (6, 200)), (1, (4, x)), (2, (4, m)), (3, (4, o)), (4, (4, d)), (5, (0, i))] [] τ C' D' zQ1) : zw g Y_L_law room_1 2335 [(0, (6, 200)), (1, (4, x)), (2, (4, m)), (3, (4, o)), (4, (4, d)), (5, (0, i))] [] σ (C' + 31) (D' + 7344) zQ1 := by
  unfold q_L_34 at h
  refine r_aload_n 1 dL_law_2335 rfl ?_
  refine r_scrk (k := 1) 0 5 hL9 hi (by omega) dL_law_2336 rfl dL_law_2337 rfl dL_law_2339 dL_law_2340 dL_law_2341 ?_
  refine r_scrk (k := 2) 0 5 hL9 hi (by omega) dL_law_2342 rfl dL_law_2343 rfl dL_law_2345 dL_law_2346 dL_law_2347 ?_
  refine r_scrk (k := 3) 0 5 hL9 hi (by omega) dL_law_2348 rfl dL_law_2349 rfl dL_law_2351 dL_law_2352 dL_law_2353 ?_
  refine r_scrk (k := 4) 0 5 hL9 hi (by omega) dL_law_2354 rfl dL_law_2355 rfl dL_law_2357 dL_law_2358 dL_law_2359 ?_
  refine r_scrk (k := 5) 0 5 hL9 hi (by omega) dL_law_2360 rfl dL_law_2361 rfl dL_law_2363 dL_law_2364 dL_law_2365 ?_
  refine r_aload_n 3 dL_law_2366 rfl ?_
  refine r_callSH (K' := Y_L_trustIf) (R' := R_L_trustIf) (idx := 307) (n := 7) (as := [(4, x), (0, (zscr g (i.toNat + 1))), (0, (zscr g (i.toNat + 2))), (0, (zscr g (i.toNat + 3))), (0, (zscr g (i.toNat + 4))), (0, (zscr g (i.toNat + 5))), (4, o)]) (rest := []) (C' := C') (D' := D') k0_L_trustIf wl_1180 wl_1179 ⟨by decide, by decide⟩ dL_law_2367 rfl rfl (Nat.le_of_ble_eq_true rfl) (by have e : R_L_trustIf.cells = 5 := rfl; omega) (by have e : R_L_trustIf.slots = 30 := rfl; omega) (m_L_trustIf hl0 hx h) (fun e τ hq => by obtain ⟨c, τ', e0, -⟩ := hq; cases e0) (fun c9 τ9 hq => ?_)
  obtain ⟨c, τ, e0, hk⟩ := hq
  obtain ⟨e1, e2⟩ : c9 = c ∧ τ9 = τ := by cases e0; exact ⟨rfl, rfl⟩
  rw [e1, e2]
  obtain ⟨hm1, b, τ1, hb, hm2, t, τ2, ht, hc, hv, hP⟩ := hk
  refine r_istore (L' := [(6, (0, c)), (0, (6, 200)), (1, (4, x)), (2, (4, m)), (3, (4, o)), (4, (4, d)), (5, (0, i))]) dL_law_2370 (by decide) rfl ?_
  refine r_aload_n 3 dL_law_2372 rfl ?_
  refine r_scrk (k := 1) 1 6 hL9 hi (by omega) dL_law_2373 rfl dL_law_2374 rfl dL_law_2376 dL_law_2377 dL_law_2378 ?_
  refine r_scrk (k := 2) 1 6 hL9 hi (by omega) dL_law_2379 rfl dL_law_2380 rfl dL_law_2382 dL_law_2383 dL_law_2384 ?_
  refine r_scrk (k := 3) 1 6 hL9 hi (by omega) dL_law_2385 rfl dL_law_2386 rfl dL_law_2388 dL_law_2389 dL_law_2390 ?_
  refine r_scrk (k := 4) 1 6 hL9 hi (by omega) dL_law_2391 rfl dL_law_2392 rfl dL_law_2394 dL_law_2395 dL_law_2396 ?_
  refine r_scrk (k := 5) 1 6 hL9 hi (by omega) dL_law_2397 rfl dL_law_2398 rfl dL_law_2400 dL_law_2401 dL_law_2402 ?_
  refine r_callVC (K' := Y_X8_trustIf) (R' := R_X8_trustIf) (idx := 309) (n := 5) (b := m) (as := [(0, (zscr g (i.toNat + 1))), (0, (zscr g (i.toNat + 2))), (0, (zscr g (i.toNat + 3))), (0, (zscr g (i.toNat + 4))), (0, (zscr g (i.toNat + 5)))]) (rest := []) (cn := 8) (C' := C') (D' := D') k0_X8_trustIf kV_X8_trustIf kl_L_309 ⟨by decide, by decide⟩ dL_law_2403 rfl rfl (Nat.le_of_ble_eq_true rfl) (by have e : R_X8_trustIf.cells = 0 := rfl; omega) (by have e : R_X8_trustIf.slots = 0 := rfl; omega) rfl hm1 ⟨_, hb⟩ (fun r hr => m_X8_trustIf hl0 ⟨r, hr, hr⟩) (fun ex τ n q hq hn => by rw [hb] at hq; cases hq) (fun v9 τ9 hq => ?_)
  obtain ⟨e1, e2⟩ : v9 = b ∧ τ9 = τ1 := by rw [hb] at hq; cases hq; exact ⟨rfl, rfl⟩
  rw [e1, e2]
  refine r_istore (L' := [(7, (0, b)), (6, (0, c)), (0, (6, 200)), (1, (4, x)), (2, (4, m)), (3, (4, o)), (4, (4, d)), (5, (0, i))]) dL_law_2406 (by decide) rfl ?_
  refine r_aload_n 4 dL_law_2408 rfl ?_
  refine r_callVC (K' := Y_X8_thrown) (R' := R_X8_thrown) (idx := 195) (n := 0) (b := m) (as := []) (rest := []) (cn := 8) (C' := C') (D' := D') k0_X8_thrown kV_X8_thrown kl_L_195 ⟨by decide, by decide⟩ dL_law_2409 rfl rfl (Nat.le_of_ble_eq_true rfl) (by have e : R_X8_thrown.cells = 0 := rfl; omega) (by have e : R_X8_thrown.slots = 0 := rfl; omega) rfl hm2 ⟨_, ht⟩ (fun r hr => m_X8_thrown hl0 ⟨r, hr, hr⟩) (fun ex τ n q hq hn => by rw [ht] at hq; cases hq) (fun v9 τ9 hq => ?_)
  obtain ⟨e1, e2⟩ : v9 = t ∧ τ9 = τ2 := by rw [ht] at hq; cases hq; exact ⟨rfl, rfl⟩
  rw [e1, e2]
  refine r_iload 1 dL_law_2412 rfl ?_
  refine r_icmp_eq 2419 dL_law_2414 (by decide) (z_yes (σ := σ) hc) (fun _ => ?_) (fun h => by obtain ⟨r, h, -⟩ := h; cases h)
  refine r_iload 1 dL_law_2419 rfl ?_
  refine r_if_ne 2436 dL_law_2421 (by decide) (z_br (σ := σ)) (fun _ => ?_) (fun h => ?_)
  · refine r_goto 3919 dL_law_2436 (by decide) ?_
    refine r_weak (L' := [(0, (6, 200)), (1, (4, x)), (2, (4, m)), (3, (4, o)), (4, (4, d)), (5, (0, i))]) [2, 3, 4, 5, 6, 7] rfl ?_
    exact kk _ hP
  · have hv := hv (zite_p h)
    refine r_aload_n 5 dL_law_2424 rfl ?_
    refine r_iconst (v := 0) dL_law_2425 rfl rfl ?_
    refine r_lald dL_law_2426 hv (fun v h => ?_)
    refine r_iload 0 dL_law_2427 rfl ?_
    refine r_i2l dL_law_2429 ?_
    refine r_lcmp dL_law_2430 ?_
    refine r_if_eq 2436 dL_law_2431 (by decide) (z_yes (σ := σ) (zlc_eq (zite_p h))) (fun _ => ?_) (fun h => by obtain ⟨r, h, -⟩ := h; cases h)
    refine r_goto 3919 dL_law_2436 (by decide) ?_
    refine r_weak (L' := [(0, (6, 200)), (1, (4, x)), (2, (4, m)), (3, (4, o)), (4, (4, d)), (5, (0, i))]) [2, 3, 4, 5, 6, 7] rfl ?_
    exact kk _ hP
set_option maxHeartbeats 4000000 in
theorem t_L_35 {g : zF} (hl0 : g.2.2.2.1.stackTraces = false) (hL9 : zsl9 g ≤ 3072) {x m o d i : Int} {σ : zS} {C' D' : Nat} {P : zS → Prop} (hi : 0 ≤ i) (hi6 : i + 6 ≤ (zsl9 g : Int)) (hx : σ.1.1 x = some (0, 7)) (h : q_L_35 x m o d (fun j => zscr g (i.toNat + j)) P σ) (kk : ∀ τ, P τ → zw g Y_L_law room_1 3919 [(0, (6, 200)), (1, (4, x)), (2, (4, m)), (3, (4, o)), (4, (4, d)), (5, (0, i))] [] τ C' D' zQ1) : zw g Y_L_law room_1 2439 [(0, (6, 200)), (1, (4, x)), (2, (4, m)), (3, (4, o)), (4, (4, d)), (5, (0, i))] [] σ (C' + 31) (D' + 7344) zQ1 := by
  unfold q_L_35 at h
  refine r_aload_n 1 dL_law_2439 rfl ?_
  refine r_scrk (k := 1) 0 5 hL9 hi (by omega) dL_law_2440 rfl dL_law_2441 rfl dL_law_2443 dL_law_2444 dL_law_2445 ?_
  refine r_scrk (k := 2) 0 5 hL9 hi (by omega) dL_law_2446 rfl dL_law_2447 rfl dL_law_2449 dL_law_2450 dL_law_2451 ?_
  refine r_scrk (k := 3) 0 5 hL9 hi (by omega) dL_law_2452 rfl dL_law_2453 rfl dL_law_2455 dL_law_2456 dL_law_2457 ?_
  refine r_aload_n 3 dL_law_2458 rfl ?_
  refine r_callSH (K' := Y_L_informed) (R' := R_L_informed) (idx := 310) (n := 5) (as := [(4, x), (0, (zscr g (i.toNat + 1))), (0, (zscr g (i.toNat + 2))), (0, (zscr g (i.toNat + 3))), (4, o)]) (rest := []) (C' := C') (D' := D') k0_L_informed wl_1187 wl_1186 ⟨by decide, by decide⟩ dL_law_2459 rfl rfl (Nat.le_of_ble_eq_true rfl) (by have e : R_L_informed.cells = 3 := rfl; omega) (by have e : R_L_informed.slots = 18 := rfl; omega) (m_L_informed hl0 hx h) (fun e τ hq => by obtain ⟨c, τ', e0, -⟩ := hq; cases e0) (fun c9 τ9 hq => ?_)
  obtain ⟨c, τ, e0, hk⟩ := hq
  obtain ⟨e1, e2⟩ : c9 = c ∧ τ9 = τ := by cases e0; exact ⟨rfl, rfl⟩
  rw [e1, e2]
  obtain ⟨hm1, b, τ1, hb, hm2, t, τ2, ht, hc, hv, hP⟩ := hk
  refine r_istore (L' := [(6, (0, c)), (0, (6, 200)), (1, (4, x)), (2, (4, m)), (3, (4, o)), (4, (4, d)), (5, (0, i))]) dL_law_2462 (by decide) rfl ?_
  refine r_aload_n 3 dL_law_2464 rfl ?_
  refine r_scrk (k := 1) 1 6 hL9 hi (by omega) dL_law_2465 rfl dL_law_2466 rfl dL_law_2468 dL_law_2469 dL_law_2470 ?_
  refine r_scrk (k := 2) 1 6 hL9 hi (by omega) dL_law_2471 rfl dL_law_2472 rfl dL_law_2474 dL_law_2475 dL_law_2476 ?_
  refine r_scrk (k := 3) 1 6 hL9 hi (by omega) dL_law_2477 rfl dL_law_2478 rfl dL_law_2480 dL_law_2481 dL_law_2482 ?_
  refine r_callVC (K' := Y_X8_informed) (R' := R_X8_informed) (idx := 312) (n := 3) (b := m) (as := [(0, (zscr g (i.toNat + 1))), (0, (zscr g (i.toNat + 2))), (0, (zscr g (i.toNat + 3)))]) (rest := []) (cn := 8) (C' := C') (D' := D') k0_X8_informed kV_X8_informed kl_L_312 ⟨by decide, by decide⟩ dL_law_2483 rfl rfl (Nat.le_of_ble_eq_true rfl) (by have e : R_X8_informed.cells = 0 := rfl; omega) (by have e : R_X8_informed.slots = 0 := rfl; omega) rfl hm1 ⟨_, hb⟩ (fun r hr => m_X8_informed hl0 ⟨r, hr, hr⟩) (fun ex τ n q hq hn => by rw [hb] at hq; cases hq) (fun v9 τ9 hq => ?_)
  obtain ⟨e1, e2⟩ : v9 = b ∧ τ9 = τ1 := by rw [hb] at hq; cases hq; exact ⟨rfl, rfl⟩
  rw [e1, e2]
  refine r_istore (L' := [(7, (0, b)), (6, (0, c)), (0, (6, 200)), (1, (4, x)), (2, (4, m)), (3, (4, o)), (4, (4, d)), (5, (0, i))]) dL_law_2486 (by decide) rfl ?_
  refine r_aload_n 4 dL_law_2488 rfl ?_
  refine r_callVC (K' := Y_X8_thrown) (R' := R_X8_thrown) (idx := 195) (n := 0) (b := m) (as := []) (rest := []) (cn := 8) (C' := C') (D' := D') k0_X8_thrown kV_X8_thrown kl_L_195 ⟨by decide, by decide⟩ dL_law_2489 rfl rfl (Nat.le_of_ble_eq_true rfl) (by have e : R_X8_thrown.cells = 0 := rfl; omega) (by have e : R_X8_thrown.slots = 0 := rfl; omega) rfl hm2 ⟨_, ht⟩ (fun r hr => m_X8_thrown hl0 ⟨r, hr, hr⟩) (fun ex τ n q hq hn => by rw [ht] at hq; cases hq) (fun v9 τ9 hq => ?_)
  obtain ⟨e1, e2⟩ : v9 = t ∧ τ9 = τ2 := by rw [ht] at hq; cases hq; exact ⟨rfl, rfl⟩
  rw [e1, e2]
  refine r_iload 1 dL_law_2492 rfl ?_
  refine r_icmp_eq 2499 dL_law_2494 (by decide) (z_yes (σ := σ) hc) (fun _ => ?_) (fun h => by obtain ⟨r, h, -⟩ := h; cases h)
  refine r_iload 1 dL_law_2499 rfl ?_
  refine r_if_ne 2516 dL_law_2501 (by decide) (z_br (σ := σ)) (fun _ => ?_) (fun h => ?_)
  · refine r_goto 3919 dL_law_2516 (by decide) ?_
    refine r_weak (L' := [(0, (6, 200)), (1, (4, x)), (2, (4, m)), (3, (4, o)), (4, (4, d)), (5, (0, i))]) [2, 3, 4, 5, 6, 7] rfl ?_
    exact kk _ hP
  · have hv := hv (zite_p h)
    refine r_aload_n 5 dL_law_2504 rfl ?_
    refine r_iconst (v := 0) dL_law_2505 rfl rfl ?_
    refine r_lald dL_law_2506 hv (fun v h => ?_)
    refine r_iload 0 dL_law_2507 rfl ?_
    refine r_i2l dL_law_2509 ?_
    refine r_lcmp dL_law_2510 ?_
    refine r_if_eq 2516 dL_law_2511 (by decide) (z_yes (σ := σ) (zlc_eq (zite_p h))) (fun _ => ?_) (fun h => by obtain ⟨r, h, -⟩ := h; cases h)
    refine r_goto 3919 dL_law_2516 (by decide) ?_
    refine r_weak (L' := [(0, (6, 200)), (1, (4, x)), (2, (4, m)), (3, (4, o)), (4, (4, d)), (5, (0, i))]) [2, 3, 4, 5, 6, 7] rfl ?_
    exact kk _ hP
