/-! THE LAW'S OWN METHODS -/
def zPc (P : Int → zS → Prop) : zR × zS → Prop := fun x => ∃ c τ, x = (.inl c, τ) ∧ P c τ
/-- a call that may throw, and what becomes of it -/
def zcase (F : zFn) (tb : List (Nat × Int)) (st : Int → zS → zFn) (P : Int → zS → Prop) : Prop :=
  ∃ r, F = some r ∧ (∀ v τ, r = (.inl v, τ) → zo (st v τ) (zPc P)) ∧ ∀ e τ, r = (.inr e, τ) → ∃ c, (e, c) ∈ tb ∧ ∀ n, τ.1.2.2 ≤ n → P c (zbu τ n)
abbrev Y_L_append : zY := (yL_append, cL_append, 8, (some .int), [(0, 16, 19, 13)])
abbrev R_L_append : Room := { frames := 7, cells := 1, slots := 6, locals := 115 }
abbrev Y_L_truncate : zY := (yL_truncate, cL_truncate, 3, (some .int), [(0, 5, 8, 19)])
abbrev R_L_truncate : Room := { frames := 8, cells := 1, slots := 6, locals := 133 }
abbrev Y_L_property : zY := (yL_property, cL_property, 4, (some .int), [(0, 9, 12, 19)])
abbrev R_L_property : Room := { frames := 8, cells := 1, slots := 6, locals := 133 }
abbrev Y_L_trust : zY := (yL_trust, cL_trust, 5, (some .int), [(0, 10, 13, 29)])
abbrev R_L_trust : Room := { frames := 8, cells := 2, slots := 12, locals := 133 }
abbrev Y_L_neighbors : zY := (yL_neighbors, cL_neighbors, 4, (some .int), [(0, 9, 12, 29)])
abbrev R_L_neighbors : Room := { frames := 8, cells := 1, slots := 6, locals := 134 }
abbrev Y_L_distance : zY := (yL_distance, cL_distance, 5, (some .int), [(0, 10, 13, 29)])
abbrev R_L_distance : Room := { frames := 8, cells := 2, slots := 12, locals := 135 }
abbrev Y_L_bottleneck : zY := (yL_bottleneck, cL_bottleneck, 5, (some .int), [(0, 10, 13, 29)])
abbrev R_L_bottleneck : Room := { frames := 8, cells := 2, slots := 12, locals := 136 }
abbrev Y_L_mostTrusted : zY := (yL_mostTrusted, cL_mostTrusted, 4, (some .int), [(0, 9, 12, 29)])
abbrev R_L_mostTrusted : Room := { frames := 8, cells := 1, slots := 6, locals := 136 }
abbrev Y_L_reports : zY := (yL_reports, cL_reports, 4, (some .int), [(0, 9, 12, 29)])
abbrev R_L_reports : Room := { frames := 8, cells := 1, slots := 6, locals := 132 }
abbrev Y_L_report : zY := (yL_report, cL_report, 6, (some .int), [(0, 12, 15, 29), (0, 12, 19, 19)])
abbrev R_L_report : Room := { frames := 9, cells := 3, slots := 18, locals := 156 }
abbrev Y_L_status : zY := (yL_status, cL_status, 5, (some .int), [(0, 10, 13, 29)])
abbrev R_L_status : Room := { frames := 9, cells := 2, slots := 12, locals := 169 }
abbrev Y_L_moved : zY := (yL_moved, cL_moved, 6, (some .int), [(0, 12, 15, 29), (0, 12, 19, 19)])
abbrev R_L_moved : Room := { frames := 9, cells := 3, slots := 18, locals := 159 }
abbrev Y_L_own : zY := (yL_own, cL_own, 5, (some .int), [(0, 10, 13, 29)])
abbrev R_L_own : Room := { frames := 8, cells := 2, slots := 12, locals := 133 }
abbrev Y_L_belief : zY := (yL_belief, cL_belief, 6, (some .int), [(0, 12, 15, 29), (0, 12, 19, 19)])
abbrev R_L_belief : Room := { frames := 8, cells := 3, slots := 18, locals := 172 }
abbrev Y_L_sources : zY := (yL_sources, cL_sources, 5, (some .int), [(0, 10, 13, 29)])
abbrev R_L_sources : Room := { frames := 8, cells := 2, slots := 12, locals := 170 }
abbrev Y_L_contradicted : zY := (yL_contradicted, cL_contradicted, 5, (some .int), [(0, 10, 13, 29)])
abbrev R_L_contradicted : Room := { frames := 8, cells := 2, slots := 12, locals := 170 }
abbrev Y_L_majority : zY := (yL_majority, cL_majority, 5, (some .int), [(0, 10, 13, 29)])
abbrev R_L_majority : Room := { frames := 8, cells := 2, slots := 12, locals := 147 }
abbrev Y_L_majorityBound : zY := (yL_majorityBound, cL_majorityBound, 6, (some .int), [(0, 12, 15, 29), (0, 12, 19, 19)])
abbrev R_L_majorityBound : Room := { frames := 8, cells := 3, slots := 18, locals := 149 }
abbrev Y_L_best : zY := (yL_best, cL_best, 5, (some .int), [(0, 10, 13, 29), (0, 10, 17, 19)])
abbrev R_L_best : Room := { frames := 8, cells := 2, slots := 12, locals := 174 }
abbrev Y_L_rivals : zY := (yL_rivals, cL_rivals, 4, (some .int), [(0, 9, 12, 29)])
abbrev R_L_rivals : Room := { frames := 8, cells := 1, slots := 6, locals := 173 }
abbrev Y_L_nextProbe : zY := (yL_nextProbe, cL_nextProbe, 4, (some .int), [(0, 9, 12, 29)])
abbrev R_L_nextProbe : Room := { frames := 8, cells := 1, slots := 6, locals := 179 }
abbrev Y_L_regret : zY := (yL_regret, cL_regret, 4, (some .int), [(0, 9, 12, 29)])
abbrev R_L_regret : Room := { frames := 8, cells := 1, slots := 6, locals := 175 }
abbrev Y_L_saved : zY := (yL_saved, cL_saved, 4, (some .int), [(0, 9, 12, 29)])
abbrev R_L_saved : Room := { frames := 8, cells := 1, slots := 6, locals := 172 }
abbrev Y_L_agreeing : zY := (yL_agreeing, cL_agreeing, 5, (some .int), [(0, 10, 13, 29)])
abbrev R_L_agreeing : Room := { frames := 8, cells := 2, slots := 12, locals := 175 }
abbrev Y_L_common : zY := (yL_common, cL_common, 5, (some .int), [(0, 10, 13, 29), (0, 10, 17, 19)])
abbrev R_L_common : Room := { frames := 8, cells := 2, slots := 12, locals := 141 }
abbrev Y_L_account : zY := (yL_account, cL_account, 5, (some .int), [(0, 10, 13, 29), (0, 10, 17, 19)])
abbrev R_L_account : Room := { frames := 8, cells := 2, slots := 12, locals := 134 }
abbrev Y_L_message : zY := (yL_message, cL_message, 5, (some .int), [(0, 10, 13, 19), (0, 10, 17, 101)])
abbrev R_L_message : Room := { frames := 8, cells := 2, slots := 12, locals := 134 }
abbrev Y_L_standing : zY := (yL_standing, cL_standing, 4, (some .int), [(0, 9, 12, 29)])
abbrev R_L_standing : Room := { frames := 8, cells := 1, slots := 6, locals := 135 }
abbrev Y_L_beliefIf : zY := (yL_beliefIf, cL_beliefIf, 8, (some .int), [(0, 16, 19, 29), (0, 16, 23, 19)])
abbrev R_L_beliefIf : Room := { frames := 9, cells := 5, slots := 30, locals := 179 }
abbrev Y_L_trustIf : zY := (yL_trustIf, cL_trustIf, 8, (some .int), [(0, 16, 19, 29), (0, 16, 23, 19)])
abbrev R_L_trustIf : Room := { frames := 9, cells := 5, slots := 30, locals := 179 }
abbrev Y_L_informed : zY := (yL_informed, cL_informed, 6, (some .int), [(0, 12, 15, 29), (0, 12, 19, 19)])
abbrev R_L_informed : Room := { frames := 8, cells := 3, slots := 18, locals := 225 }
abbrev Y_L_widthAfter : zY := (yL_widthAfter, cL_widthAfter, 6, (some .int), [(0, 12, 15, 29), (0, 12, 19, 19)])
abbrev R_L_widthAfter : Room := { frames := 8, cells := 3, slots := 18, locals := 174 }
abbrev Y_L_widthWithout : zY := (yL_widthWithout, cL_widthWithout, 6, (some .int), [(0, 12, 15, 29)])
abbrev R_L_widthWithout : Room := { frames := 8, cells := 3, slots := 18, locals := 172 }
abbrev Y_L_mostUseful : zY := (yL_mostUseful, cL_mostUseful, 4, (some .int), [(0, 9, 12, 29)])
abbrev R_L_mostUseful : Room := { frames := 8, cells := 1, slots := 6, locals := 174 }
abbrev Y_L_bestThen : zY := (yL_bestThen, cL_bestThen, 4, (some .int), [(0, 9, 12, 29)])
abbrev R_L_bestThen : Room := { frames := 8, cells := 1, slots := 6, locals := 197 }
abbrev Y_L_probe : zY := (yL_probe, cL_probe, 7, (some .int), [(0, 14, 17, 29), (0, 14, 21, 19)])
abbrev R_L_probe : Room := { frames := 9, cells := 31, slots := 7344, locals := 178 }
abbrev Y_L_share : zY := (yL_share, cL_share, 4, (some .int), [(0, 9, 12, 29)])
abbrev R_L_share : Room := { frames := 8, cells := 28, slots := 7326, locals := 167 }
abbrev Y_L_relay : zY := (yL_relay, cL_relay, 4, (some .int), [(0, 9, 12, 29)])
abbrev R_L_relay : Room := { frames := 8, cells := 28, slots := 7326, locals := 167 }
abbrev Y_L_deliver : zY := (yL_deliver, cL_deliver, 4, (some .int), [(0, 9, 12, 19)])
abbrev R_L_deliver : Room := { frames := 8, cells := 28, slots := 7326, locals := 197 }
abbrev Y_L_lose : zY := (yL_lose, cL_lose, 3, (some .int), [(0, 8, 11, 13)])
abbrev R_L_lose : Room := { frames := 7, cells := 27, slots := 7320, locals := 166 }
abbrev Y_L_exchange : zY := (yL_exchange, cL_exchange, 4, (some .int), [(0, 9, 12, 19)])
abbrev R_L_exchange : Room := { frames := 8, cells := 28, slots := 7326, locals := 221 }
abbrev Y_L_pass : zY := (yL_pass, cL_pass, 4, (some .int), [(0, 9, 12, 19)])
abbrev R_L_pass : Room := { frames := 8, cells := 28, slots := 7326, locals := 172 }
abbrev Y_L_link : zY := (yL_link, cL_link, 6, (some .int), [(0, 19, 22, 29), (0, 19, 26, 19)])
abbrev R_L_link : Room := { frames := 8, cells := 29, slots := 7332, locals := 171 }
abbrev Y_L_setTrust : zY := (yL_setTrust, cL_setTrust, 6, (some .int), [(0, 12, 15, 29), (0, 12, 19, 19), (0, 12, 23, 13)])
abbrev R_L_setTrust : Room := { frames := 8, cells := 30, slots := 7338, locals := 170 }
abbrev Y_L_setRule : zY := (yL_setRule, cL_setRule, 5, (some .int), [(0, 10, 13, 19)])
abbrev R_L_setRule : Room := { frames := 7, cells := 27, slots := 7320, locals := 169 }
abbrev Y_L_forget : zY := (yL_forget, cL_forget, 5, (some .int), [(0, 10, 13, 29)])
abbrev R_L_forget : Room := { frames := 8, cells := 29, slots := 7332, locals := 172 }
abbrev Y_L_cleanse : zY := (yL_cleanse, cL_cleanse, 4, (some .int), [(0, 9, 12, 29)])
abbrev R_L_cleanse : Room := { frames := 8, cells := 28, slots := 7326, locals := 173 }
abbrev Y_L_keep : zY := (yL_keep, cL_keep, 4, (some .int), [(0, 9, 12, 29)])
abbrev R_L_keep : Room := { frames := 8, cells := 28, slots := 7326, locals := 146 }
abbrev Y_L_restore : zY := (yL_restore, cL_restore, 4, (some .int), [(0, 9, 12, 29), (0, 9, 15, 13)])
abbrev R_L_restore : Room := { frames := 8, cells := 28, slots := 7326, locals := 168 }
abbrev Y_L_undo : zY := (yL_undo, cL_undo, 3, (some .int), [(0, 8, 11, 13)])
abbrev R_L_undo : Room := { frames := 7, cells := 1, slots := 6, locals := 166 }
abbrev Y_L_writeBeliefs : zY := (yL_writeBeliefs, cL_writeBeliefs, 4, (some .int), [(0, 9, 12, 29)])
abbrev R_L_writeBeliefs : Room := { frames := 8, cells := 1, slots := 6, locals := 147 }
abbrev Y_L_writeReports : zY := (yL_writeReports, cL_writeReports, 4, (some .int), [(0, 9, 12, 29)])
abbrev R_L_writeReports : Room := { frames := 8, cells := 1, slots := 6, locals := 170 }
abbrev Y_L_outputByte : zY := (yL_outputByte, cL_outputByte, 4, (some .int), [(0, 9, 12, 29)])
abbrev R_L_outputByte : Room := { frames := 7, cells := 1, slots := 6, locals := 111 }
theorem wl_177 : zL (Cond.initialized "PathTrust") := ⟨List.mem_of_getElem? (i := 177) (by decide +kernel), by decide +kernel⟩
theorem wl_711 : zL (Cond.classLink "PathTrustLaw" 13 "java/lang/IllegalStateException") := ⟨List.mem_of_getElem? (i := 711) (by decide +kernel), by decide +kernel⟩
theorem wl_712 : zL (Cond.methodLink "PathTrustLaw" 7 ⟨"PathTrust","append","(IIIII)I"⟩) := ⟨List.mem_of_getElem? (i := 712) (by decide +kernel), by decide +kernel⟩
theorem wl_713 : zL (Cond.instanceMethod ⟨"PathTrust","append","(IIIII)I"⟩) := ⟨List.mem_of_getElem? (i := 713) (by decide +kernel), by decide +kernel⟩
theorem wl_714 : zL (Cond.selects "PathTrust" ⟨"PathTrust","append","(IIIII)I"⟩ ⟨"PathTrust","append","(IIIII)I"⟩) := ⟨List.mem_of_getElem? (i := 714) (by decide +kernel), by decide +kernel⟩
theorem wl_715 : zL (Cond.code ⟨"PathTrust","append","(IIIII)I"⟩ prog_1_method_2_code 6 (Option.some FieldType.int)) := ⟨List.mem_of_getElem? (i := 715) (by decide +kernel), by decide +kernel⟩
theorem wl_718 : zL (Cond.castable "java/lang/IllegalStateException" "java/lang/IllegalStateException") := ⟨List.mem_of_getElem? (i := 718) (by decide +kernel), by decide +kernel⟩
theorem wl_795 : zL (Cond.classLink "PathTrustLaw" 19 "java/lang/IllegalArgumentException") := ⟨List.mem_of_getElem? (i := 795) (by decide +kernel), by decide +kernel⟩
theorem wl_796 : zL (Cond.methodLink "PathTrustLaw" 15 ⟨"PathTrust","truncate","(I)V"⟩) := ⟨List.mem_of_getElem? (i := 796) (by decide +kernel), by decide +kernel⟩
theorem wl_797 : zL (Cond.instanceMethod ⟨"PathTrust","truncate","(I)V"⟩) := ⟨List.mem_of_getElem? (i := 797) (by decide +kernel), by decide +kernel⟩
theorem wl_798 : zL (Cond.selects "PathTrust" ⟨"PathTrust","truncate","(I)V"⟩ ⟨"PathTrust","truncate","(I)V"⟩) := ⟨List.mem_of_getElem? (i := 798) (by decide +kernel), by decide +kernel⟩
theorem wl_799 : zL (Cond.code ⟨"PathTrust","truncate","(I)V"⟩ prog_1_method_3_code 2 (Option.none : Option FieldType)) := ⟨List.mem_of_getElem? (i := 799) (by decide +kernel), by decide +kernel⟩
theorem wl_805 : zL (Cond.castable "java/lang/IllegalArgumentException" "java/lang/IllegalArgumentException") := ⟨List.mem_of_getElem? (i := 805) (by decide +kernel), by decide +kernel⟩
theorem wl_822 : zL (Cond.methodLink "PathTrustLaw" 21 ⟨"PathTrust","property","(I)I"⟩) := ⟨List.mem_of_getElem? (i := 822) (by decide +kernel), by decide +kernel⟩
theorem wl_823 : zL (Cond.instanceMethod ⟨"PathTrust","property","(I)I"⟩) := ⟨List.mem_of_getElem? (i := 823) (by decide +kernel), by decide +kernel⟩
theorem wl_824 : zL (Cond.selects "PathTrust" ⟨"PathTrust","property","(I)I"⟩ ⟨"PathTrust","property","(I)I"⟩) := ⟨List.mem_of_getElem? (i := 824) (by decide +kernel), by decide +kernel⟩
theorem wl_825 : zL (Cond.code ⟨"PathTrust","property","(I)I"⟩ prog_1_method_9_code 2 (Option.some FieldType.int)) := ⟨List.mem_of_getElem? (i := 825) (by decide +kernel), by decide +kernel⟩
theorem wl_834 : zL (Cond.classLink "PathTrustLaw" 29 "java/lang/IndexOutOfBoundsException") := ⟨List.mem_of_getElem? (i := 834) (by decide +kernel), by decide +kernel⟩
theorem wl_835 : zL (Cond.methodLink "PathTrustLaw" 25 ⟨"PathTrust","trust","(II)I"⟩) := ⟨List.mem_of_getElem? (i := 835) (by decide +kernel), by decide +kernel⟩
theorem wl_836 : zL (Cond.instanceMethod ⟨"PathTrust","trust","(II)I"⟩) := ⟨List.mem_of_getElem? (i := 836) (by decide +kernel), by decide +kernel⟩
theorem wl_837 : zL (Cond.selects "PathTrust" ⟨"PathTrust","trust","(II)I"⟩ ⟨"PathTrust","trust","(II)I"⟩) := ⟨List.mem_of_getElem? (i := 837) (by decide +kernel), by decide +kernel⟩
theorem wl_838 : zL (Cond.code ⟨"PathTrust","trust","(II)I"⟩ prog_1_method_10_code 3 (Option.some FieldType.int)) := ⟨List.mem_of_getElem? (i := 838) (by decide +kernel), by decide +kernel⟩
theorem wl_845 : zL (Cond.castable "java/lang/IndexOutOfBoundsException" "java/lang/IndexOutOfBoundsException") := ⟨List.mem_of_getElem? (i := 845) (by decide +kernel), by decide +kernel⟩
theorem wl_863 : zL (Cond.methodLink "PathTrustLaw" 31 ⟨"PathTrust","neighbors","(I)I"⟩) := ⟨List.mem_of_getElem? (i := 863) (by decide +kernel), by decide +kernel⟩
theorem wl_864 : zL (Cond.instanceMethod ⟨"PathTrust","neighbors","(I)I"⟩) := ⟨List.mem_of_getElem? (i := 864) (by decide +kernel), by decide +kernel⟩
theorem wl_865 : zL (Cond.selects "PathTrust" ⟨"PathTrust","neighbors","(I)I"⟩ ⟨"PathTrust","neighbors","(I)I"⟩) := ⟨List.mem_of_getElem? (i := 865) (by decide +kernel), by decide +kernel⟩
theorem wl_866 : zL (Cond.code ⟨"PathTrust","neighbors","(I)I"⟩ prog_1_method_11_code 4 (Option.some FieldType.int)) := ⟨List.mem_of_getElem? (i := 866) (by decide +kernel), by decide +kernel⟩
theorem wl_871 : zL (Cond.methodLink "PathTrustLaw" 34 ⟨"PathTrust","distance","(II)I"⟩) := ⟨List.mem_of_getElem? (i := 871) (by decide +kernel), by decide +kernel⟩
theorem wl_872 : zL (Cond.instanceMethod ⟨"PathTrust","distance","(II)I"⟩) := ⟨List.mem_of_getElem? (i := 872) (by decide +kernel), by decide +kernel⟩
theorem wl_873 : zL (Cond.selects "PathTrust" ⟨"PathTrust","distance","(II)I"⟩ ⟨"PathTrust","distance","(II)I"⟩) := ⟨List.mem_of_getElem? (i := 873) (by decide +kernel), by decide +kernel⟩
theorem wl_874 : zL (Cond.code ⟨"PathTrust","distance","(II)I"⟩ prog_1_method_12_code 5 (Option.some FieldType.int)) := ⟨List.mem_of_getElem? (i := 874) (by decide +kernel), by decide +kernel⟩
theorem wl_886 : zL (Cond.methodLink "PathTrustLaw" 37 ⟨"PathTrust","bottleneck","(II)I"⟩) := ⟨List.mem_of_getElem? (i := 886) (by decide +kernel), by decide +kernel⟩
theorem wl_887 : zL (Cond.instanceMethod ⟨"PathTrust","bottleneck","(II)I"⟩) := ⟨List.mem_of_getElem? (i := 887) (by decide +kernel), by decide +kernel⟩
theorem wl_888 : zL (Cond.selects "PathTrust" ⟨"PathTrust","bottleneck","(II)I"⟩ ⟨"PathTrust","bottleneck","(II)I"⟩) := ⟨List.mem_of_getElem? (i := 888) (by decide +kernel), by decide +kernel⟩
theorem wl_889 : zL (Cond.code ⟨"PathTrust","bottleneck","(II)I"⟩ prog_1_method_13_code 6 (Option.some FieldType.int)) := ⟨List.mem_of_getElem? (i := 889) (by decide +kernel), by decide +kernel⟩
theorem wl_893 : zL (Cond.methodLink "PathTrustLaw" 40 ⟨"PathTrust","mostTrusted","(I)I"⟩) := ⟨List.mem_of_getElem? (i := 893) (by decide +kernel), by decide +kernel⟩
theorem wl_894 : zL (Cond.instanceMethod ⟨"PathTrust","mostTrusted","(I)I"⟩) := ⟨List.mem_of_getElem? (i := 894) (by decide +kernel), by decide +kernel⟩
theorem wl_895 : zL (Cond.selects "PathTrust" ⟨"PathTrust","mostTrusted","(I)I"⟩ ⟨"PathTrust","mostTrusted","(I)I"⟩) := ⟨List.mem_of_getElem? (i := 895) (by decide +kernel), by decide +kernel⟩
theorem wl_896 : zL (Cond.code ⟨"PathTrust","mostTrusted","(I)I"⟩ prog_1_method_14_code 6 (Option.some FieldType.int)) := ⟨List.mem_of_getElem? (i := 896) (by decide +kernel), by decide +kernel⟩
theorem wl_900 : zL (Cond.methodLink "PathTrustLaw" 43 ⟨"PathTrust","reports","(I)I"⟩) := ⟨List.mem_of_getElem? (i := 900) (by decide +kernel), by decide +kernel⟩
theorem wl_901 : zL (Cond.instanceMethod ⟨"PathTrust","reports","(I)I"⟩) := ⟨List.mem_of_getElem? (i := 901) (by decide +kernel), by decide +kernel⟩
theorem wl_902 : zL (Cond.selects "PathTrust" ⟨"PathTrust","reports","(I)I"⟩ ⟨"PathTrust","reports","(I)I"⟩) := ⟨List.mem_of_getElem? (i := 902) (by decide +kernel), by decide +kernel⟩
theorem wl_903 : zL (Cond.code ⟨"PathTrust","reports","(I)I"⟩ prog_1_method_15_code 2 (Option.some FieldType.int)) := ⟨List.mem_of_getElem? (i := 903) (by decide +kernel), by decide +kernel⟩
theorem wl_908 : zL (Cond.methodLink "PathTrustLaw" 46 ⟨"PathTrust","report","(III)I"⟩) := ⟨List.mem_of_getElem? (i := 908) (by decide +kernel), by decide +kernel⟩
theorem wl_909 : zL (Cond.instanceMethod ⟨"PathTrust","report","(III)I"⟩) := ⟨List.mem_of_getElem? (i := 909) (by decide +kernel), by decide +kernel⟩
theorem wl_910 : zL (Cond.selects "PathTrust" ⟨"PathTrust","report","(III)I"⟩ ⟨"PathTrust","report","(III)I"⟩) := ⟨List.mem_of_getElem? (i := 910) (by decide +kernel), by decide +kernel⟩
theorem wl_911 : zL (Cond.code ⟨"PathTrust","report","(III)I"⟩ prog_1_method_16_code 4 (Option.some FieldType.int)) := ⟨List.mem_of_getElem? (i := 911) (by decide +kernel), by decide +kernel⟩
theorem wl_921 : zL (Cond.methodLink "PathTrustLaw" 50 ⟨"PathTrust","status","(II)I"⟩) := ⟨List.mem_of_getElem? (i := 921) (by decide +kernel), by decide +kernel⟩
theorem wl_922 : zL (Cond.instanceMethod ⟨"PathTrust","status","(II)I"⟩) := ⟨List.mem_of_getElem? (i := 922) (by decide +kernel), by decide +kernel⟩
theorem wl_923 : zL (Cond.selects "PathTrust" ⟨"PathTrust","status","(II)I"⟩ ⟨"PathTrust","status","(II)I"⟩) := ⟨List.mem_of_getElem? (i := 923) (by decide +kernel), by decide +kernel⟩
theorem wl_924 : zL (Cond.code ⟨"PathTrust","status","(II)I"⟩ prog_1_method_17_code 3 (Option.some FieldType.int)) := ⟨List.mem_of_getElem? (i := 924) (by decide +kernel), by decide +kernel⟩
theorem wl_964 : zL (Cond.methodLink "PathTrustLaw" 53 ⟨"PathTrust","moved","(III)I"⟩) := ⟨List.mem_of_getElem? (i := 964) (by decide +kernel), by decide +kernel⟩
theorem wl_965 : zL (Cond.instanceMethod ⟨"PathTrust","moved","(III)I"⟩) := ⟨List.mem_of_getElem? (i := 965) (by decide +kernel), by decide +kernel⟩
theorem wl_966 : zL (Cond.selects "PathTrust" ⟨"PathTrust","moved","(III)I"⟩ ⟨"PathTrust","moved","(III)I"⟩) := ⟨List.mem_of_getElem? (i := 966) (by decide +kernel), by decide +kernel⟩
theorem wl_967 : zL (Cond.code ⟨"PathTrust","moved","(III)I"⟩ prog_1_method_18_code 7 (Option.some FieldType.int)) := ⟨List.mem_of_getElem? (i := 967) (by decide +kernel), by decide +kernel⟩
theorem wl_974 : zL (Cond.methodLink "PathTrustLaw" 56 ⟨"PathTrust","own","(II)I"⟩) := ⟨List.mem_of_getElem? (i := 974) (by decide +kernel), by decide +kernel⟩
theorem wl_975 : zL (Cond.instanceMethod ⟨"PathTrust","own","(II)I"⟩) := ⟨List.mem_of_getElem? (i := 975) (by decide +kernel), by decide +kernel⟩
theorem wl_976 : zL (Cond.selects "PathTrust" ⟨"PathTrust","own","(II)I"⟩ ⟨"PathTrust","own","(II)I"⟩) := ⟨List.mem_of_getElem? (i := 976) (by decide +kernel), by decide +kernel⟩
theorem wl_977 : zL (Cond.code ⟨"PathTrust","own","(II)I"⟩ prog_1_method_19_code 3 (Option.some FieldType.int)) := ⟨List.mem_of_getElem? (i := 977) (by decide +kernel), by decide +kernel⟩
theorem wl_987 : zL (Cond.methodLink "PathTrustLaw" 59 ⟨"PathTrust","belief","(III)I"⟩) := ⟨List.mem_of_getElem? (i := 987) (by decide +kernel), by decide +kernel⟩
theorem wl_988 : zL (Cond.instanceMethod ⟨"PathTrust","belief","(III)I"⟩) := ⟨List.mem_of_getElem? (i := 988) (by decide +kernel), by decide +kernel⟩
theorem wl_989 : zL (Cond.selects "PathTrust" ⟨"PathTrust","belief","(III)I"⟩ ⟨"PathTrust","belief","(III)I"⟩) := ⟨List.mem_of_getElem? (i := 989) (by decide +kernel), by decide +kernel⟩
theorem wl_990 : zL (Cond.code ⟨"PathTrust","belief","(III)I"⟩ prog_1_method_20_code 4 (Option.some FieldType.int)) := ⟨List.mem_of_getElem? (i := 990) (by decide +kernel), by decide +kernel⟩
theorem wl_998 : zL (Cond.methodLink "PathTrustLaw" 62 ⟨"PathTrust","sources","(II)I"⟩) := ⟨List.mem_of_getElem? (i := 998) (by decide +kernel), by decide +kernel⟩
theorem wl_999 : zL (Cond.instanceMethod ⟨"PathTrust","sources","(II)I"⟩) := ⟨List.mem_of_getElem? (i := 999) (by decide +kernel), by decide +kernel⟩
theorem wl_1000 : zL (Cond.selects "PathTrust" ⟨"PathTrust","sources","(II)I"⟩ ⟨"PathTrust","sources","(II)I"⟩) := ⟨List.mem_of_getElem? (i := 1000) (by decide +kernel), by decide +kernel⟩
theorem wl_1001 : zL (Cond.code ⟨"PathTrust","sources","(II)I"⟩ prog_1_method_21_code 3 (Option.some FieldType.int)) := ⟨List.mem_of_getElem? (i := 1001) (by decide +kernel), by decide +kernel⟩
theorem wl_1013 : zL (Cond.methodLink "PathTrustLaw" 65 ⟨"PathTrust","contradicted","(II)I"⟩) := ⟨List.mem_of_getElem? (i := 1013) (by decide +kernel), by decide +kernel⟩
theorem wl_1014 : zL (Cond.instanceMethod ⟨"PathTrust","contradicted","(II)I"⟩) := ⟨List.mem_of_getElem? (i := 1014) (by decide +kernel), by decide +kernel⟩
theorem wl_1015 : zL (Cond.selects "PathTrust" ⟨"PathTrust","contradicted","(II)I"⟩ ⟨"PathTrust","contradicted","(II)I"⟩) := ⟨List.mem_of_getElem? (i := 1015) (by decide +kernel), by decide +kernel⟩
theorem wl_1016 : zL (Cond.code ⟨"PathTrust","contradicted","(II)I"⟩ prog_1_method_22_code 3 (Option.some FieldType.int)) := ⟨List.mem_of_getElem? (i := 1016) (by decide +kernel), by decide +kernel⟩
theorem wl_1020 : zL (Cond.methodLink "PathTrustLaw" 68 ⟨"PathTrust","majority","(II)I"⟩) := ⟨List.mem_of_getElem? (i := 1020) (by decide +kernel), by decide +kernel⟩
theorem wl_1021 : zL (Cond.instanceMethod ⟨"PathTrust","majority","(II)I"⟩) := ⟨List.mem_of_getElem? (i := 1021) (by decide +kernel), by decide +kernel⟩
theorem wl_1022 : zL (Cond.selects "PathTrust" ⟨"PathTrust","majority","(II)I"⟩ ⟨"PathTrust","majority","(II)I"⟩) := ⟨List.mem_of_getElem? (i := 1022) (by decide +kernel), by decide +kernel⟩
theorem wl_1023 : zL (Cond.code ⟨"PathTrust","majority","(II)I"⟩ prog_1_method_23_code 3 (Option.some FieldType.int)) := ⟨List.mem_of_getElem? (i := 1023) (by decide +kernel), by decide +kernel⟩
theorem wl_1041 : zL (Cond.methodLink "PathTrustLaw" 71 ⟨"PathTrust","majorityBound","(III)I"⟩) := ⟨List.mem_of_getElem? (i := 1041) (by decide +kernel), by decide +kernel⟩
theorem wl_1042 : zL (Cond.instanceMethod ⟨"PathTrust","majorityBound","(III)I"⟩) := ⟨List.mem_of_getElem? (i := 1042) (by decide +kernel), by decide +kernel⟩
theorem wl_1043 : zL (Cond.selects "PathTrust" ⟨"PathTrust","majorityBound","(III)I"⟩ ⟨"PathTrust","majorityBound","(III)I"⟩) := ⟨List.mem_of_getElem? (i := 1043) (by decide +kernel), by decide +kernel⟩
theorem wl_1044 : zL (Cond.code ⟨"PathTrust","majorityBound","(III)I"⟩ prog_1_method_24_code 5 (Option.some FieldType.int)) := ⟨List.mem_of_getElem? (i := 1044) (by decide +kernel), by decide +kernel⟩
theorem wl_1057 : zL (Cond.methodLink "PathTrustLaw" 74 ⟨"PathTrust","best","(II)I"⟩) := ⟨List.mem_of_getElem? (i := 1057) (by decide +kernel), by decide +kernel⟩
theorem wl_1058 : zL (Cond.instanceMethod ⟨"PathTrust","best","(II)I"⟩) := ⟨List.mem_of_getElem? (i := 1058) (by decide +kernel), by decide +kernel⟩
theorem wl_1059 : zL (Cond.selects "PathTrust" ⟨"PathTrust","best","(II)I"⟩ ⟨"PathTrust","best","(II)I"⟩) := ⟨List.mem_of_getElem? (i := 1059) (by decide +kernel), by decide +kernel⟩
theorem wl_1060 : zL (Cond.code ⟨"PathTrust","best","(II)I"⟩ prog_1_method_25_code 3 (Option.some FieldType.int)) := ⟨List.mem_of_getElem? (i := 1060) (by decide +kernel), by decide +kernel⟩
theorem wl_1068 : zL (Cond.methodLink "PathTrustLaw" 77 ⟨"PathTrust","rivals","(I)I"⟩) := ⟨List.mem_of_getElem? (i := 1068) (by decide +kernel), by decide +kernel⟩
theorem wl_1069 : zL (Cond.instanceMethod ⟨"PathTrust","rivals","(I)I"⟩) := ⟨List.mem_of_getElem? (i := 1069) (by decide +kernel), by decide +kernel⟩
theorem wl_1070 : zL (Cond.selects "PathTrust" ⟨"PathTrust","rivals","(I)I"⟩ ⟨"PathTrust","rivals","(I)I"⟩) := ⟨List.mem_of_getElem? (i := 1070) (by decide +kernel), by decide +kernel⟩
theorem wl_1071 : zL (Cond.code ⟨"PathTrust","rivals","(I)I"⟩ prog_1_method_26_code 2 (Option.some FieldType.int)) := ⟨List.mem_of_getElem? (i := 1071) (by decide +kernel), by decide +kernel⟩
theorem wl_1079 : zL (Cond.methodLink "PathTrustLaw" 80 ⟨"PathTrust","nextProbe","(I)I"⟩) := ⟨List.mem_of_getElem? (i := 1079) (by decide +kernel), by decide +kernel⟩
theorem wl_1080 : zL (Cond.instanceMethod ⟨"PathTrust","nextProbe","(I)I"⟩) := ⟨List.mem_of_getElem? (i := 1080) (by decide +kernel), by decide +kernel⟩
theorem wl_1081 : zL (Cond.selects "PathTrust" ⟨"PathTrust","nextProbe","(I)I"⟩ ⟨"PathTrust","nextProbe","(I)I"⟩) := ⟨List.mem_of_getElem? (i := 1081) (by decide +kernel), by decide +kernel⟩
theorem wl_1082 : zL (Cond.code ⟨"PathTrust","nextProbe","(I)I"⟩ prog_1_method_27_code 8 (Option.some FieldType.int)) := ⟨List.mem_of_getElem? (i := 1082) (by decide +kernel), by decide +kernel⟩
theorem wl_1090 : zL (Cond.methodLink "PathTrustLaw" 83 ⟨"PathTrust","regret","(I)I"⟩) := ⟨List.mem_of_getElem? (i := 1090) (by decide +kernel), by decide +kernel⟩
theorem wl_1091 : zL (Cond.instanceMethod ⟨"PathTrust","regret","(I)I"⟩) := ⟨List.mem_of_getElem? (i := 1091) (by decide +kernel), by decide +kernel⟩
theorem wl_1092 : zL (Cond.selects "PathTrust" ⟨"PathTrust","regret","(I)I"⟩ ⟨"PathTrust","regret","(I)I"⟩) := ⟨List.mem_of_getElem? (i := 1092) (by decide +kernel), by decide +kernel⟩
theorem wl_1093 : zL (Cond.code ⟨"PathTrust","regret","(I)I"⟩ prog_1_method_28_code 4 (Option.some FieldType.int)) := ⟨List.mem_of_getElem? (i := 1093) (by decide +kernel), by decide +kernel⟩
theorem wl_1097 : zL (Cond.methodLink "PathTrustLaw" 86 ⟨"PathTrust","saved","(I)I"⟩) := ⟨List.mem_of_getElem? (i := 1097) (by decide +kernel), by decide +kernel⟩
theorem wl_1098 : zL (Cond.instanceMethod ⟨"PathTrust","saved","(I)I"⟩) := ⟨List.mem_of_getElem? (i := 1098) (by decide +kernel), by decide +kernel⟩
theorem wl_1099 : zL (Cond.selects "PathTrust" ⟨"PathTrust","saved","(I)I"⟩ ⟨"PathTrust","saved","(I)I"⟩) := ⟨List.mem_of_getElem? (i := 1099) (by decide +kernel), by decide +kernel⟩
theorem wl_1100 : zL (Cond.code ⟨"PathTrust","saved","(I)I"⟩ prog_1_method_29_code 4 (Option.some FieldType.int)) := ⟨List.mem_of_getElem? (i := 1100) (by decide +kernel), by decide +kernel⟩
theorem wl_1104 : zL (Cond.methodLink "PathTrustLaw" 89 ⟨"PathTrust","agreeing","(II)I"⟩) := ⟨List.mem_of_getElem? (i := 1104) (by decide +kernel), by decide +kernel⟩
theorem wl_1105 : zL (Cond.instanceMethod ⟨"PathTrust","agreeing","(II)I"⟩) := ⟨List.mem_of_getElem? (i := 1105) (by decide +kernel), by decide +kernel⟩
theorem wl_1106 : zL (Cond.selects "PathTrust" ⟨"PathTrust","agreeing","(II)I"⟩ ⟨"PathTrust","agreeing","(II)I"⟩) := ⟨List.mem_of_getElem? (i := 1106) (by decide +kernel), by decide +kernel⟩
theorem wl_1107 : zL (Cond.code ⟨"PathTrust","agreeing","(II)I"⟩ prog_1_method_30_code 7 (Option.some FieldType.int)) := ⟨List.mem_of_getElem? (i := 1107) (by decide +kernel), by decide +kernel⟩
theorem wl_1113 : zL (Cond.methodLink "PathTrustLaw" 92 ⟨"PathTrust","common","(II)I"⟩) := ⟨List.mem_of_getElem? (i := 1113) (by decide +kernel), by decide +kernel⟩
theorem wl_1114 : zL (Cond.instanceMethod ⟨"PathTrust","common","(II)I"⟩) := ⟨List.mem_of_getElem? (i := 1114) (by decide +kernel), by decide +kernel⟩
theorem wl_1115 : zL (Cond.selects "PathTrust" ⟨"PathTrust","common","(II)I"⟩ ⟨"PathTrust","common","(II)I"⟩) := ⟨List.mem_of_getElem? (i := 1115) (by decide +kernel), by decide +kernel⟩
theorem wl_1116 : zL (Cond.code ⟨"PathTrust","common","(II)I"⟩ prog_1_method_31_code 10 (Option.some FieldType.int)) := ⟨List.mem_of_getElem? (i := 1116) (by decide +kernel), by decide +kernel⟩
theorem wl_1121 : zL (Cond.methodLink "PathTrustLaw" 95 ⟨"PathTrust","account","(II)I"⟩) := ⟨List.mem_of_getElem? (i := 1121) (by decide +kernel), by decide +kernel⟩
theorem wl_1122 : zL (Cond.instanceMethod ⟨"PathTrust","account","(II)I"⟩) := ⟨List.mem_of_getElem? (i := 1122) (by decide +kernel), by decide +kernel⟩
theorem wl_1123 : zL (Cond.selects "PathTrust" ⟨"PathTrust","account","(II)I"⟩ ⟨"PathTrust","account","(II)I"⟩) := ⟨List.mem_of_getElem? (i := 1123) (by decide +kernel), by decide +kernel⟩
theorem wl_1124 : zL (Cond.code ⟨"PathTrust","account","(II)I"⟩ prog_1_method_32_code 3 (Option.some FieldType.int)) := ⟨List.mem_of_getElem? (i := 1124) (by decide +kernel), by decide +kernel⟩
theorem wl_1132 : zL (Cond.classLink "PathTrustLaw" 101 "java/util/NoSuchElementException") := ⟨List.mem_of_getElem? (i := 1132) (by decide +kernel), by decide +kernel⟩
theorem wl_1133 : zL (Cond.methodLink "PathTrustLaw" 98 ⟨"PathTrust","message","(II)I"⟩) := ⟨List.mem_of_getElem? (i := 1133) (by decide +kernel), by decide +kernel⟩
theorem wl_1134 : zL (Cond.instanceMethod ⟨"PathTrust","message","(II)I"⟩) := ⟨List.mem_of_getElem? (i := 1134) (by decide +kernel), by decide +kernel⟩
theorem wl_1135 : zL (Cond.selects "PathTrust" ⟨"PathTrust","message","(II)I"⟩ ⟨"PathTrust","message","(II)I"⟩) := ⟨List.mem_of_getElem? (i := 1135) (by decide +kernel), by decide +kernel⟩
theorem wl_1136 : zL (Cond.code ⟨"PathTrust","message","(II)I"⟩ prog_1_method_33_code 3 (Option.some FieldType.int)) := ⟨List.mem_of_getElem? (i := 1136) (by decide +kernel), by decide +kernel⟩
theorem wl_1139 : zL (Cond.castable "java/util/NoSuchElementException" "java/util/NoSuchElementException") := ⟨List.mem_of_getElem? (i := 1139) (by decide +kernel), by decide +kernel⟩
theorem wl_1164 : zL (Cond.methodLink "PathTrustLaw" 103 ⟨"PathTrust","standing","(I)F"⟩) := ⟨List.mem_of_getElem? (i := 1164) (by decide +kernel), by decide +kernel⟩
theorem wl_1165 : zL (Cond.instanceMethod ⟨"PathTrust","standing","(I)F"⟩) := ⟨List.mem_of_getElem? (i := 1165) (by decide +kernel), by decide +kernel⟩
theorem wl_1166 : zL (Cond.selects "PathTrust" ⟨"PathTrust","standing","(I)F"⟩ ⟨"PathTrust","standing","(I)F"⟩) := ⟨List.mem_of_getElem? (i := 1166) (by decide +kernel), by decide +kernel⟩
theorem wl_1167 : zL (Cond.code ⟨"PathTrust","standing","(I)F"⟩ prog_1_method_34_code 5 (Option.some FieldType.float)) := ⟨List.mem_of_getElem? (i := 1167) (by decide +kernel), by decide +kernel⟩
theorem wl_1171 : zL (Cond.methodLink "PathTrustLaw" 107 ⟨"PathTrust","beliefIf","(IIIII)I"⟩) := ⟨List.mem_of_getElem? (i := 1171) (by decide +kernel), by decide +kernel⟩
theorem wl_1172 : zL (Cond.instanceMethod ⟨"PathTrust","beliefIf","(IIIII)I"⟩) := ⟨List.mem_of_getElem? (i := 1172) (by decide +kernel), by decide +kernel⟩
theorem wl_1173 : zL (Cond.selects "PathTrust" ⟨"PathTrust","beliefIf","(IIIII)I"⟩ ⟨"PathTrust","beliefIf","(IIIII)I"⟩) := ⟨List.mem_of_getElem? (i := 1173) (by decide +kernel), by decide +kernel⟩
theorem wl_1174 : zL (Cond.code ⟨"PathTrust","beliefIf","(IIIII)I"⟩ prog_1_method_35_code 6 (Option.some FieldType.int)) := ⟨List.mem_of_getElem? (i := 1174) (by decide +kernel), by decide +kernel⟩
theorem wl_1182 : zL (Cond.methodLink "PathTrustLaw" 110 ⟨"PathTrust","trustIf","(IIIII)I"⟩) := ⟨List.mem_of_getElem? (i := 1182) (by decide +kernel), by decide +kernel⟩
theorem wl_1183 : zL (Cond.instanceMethod ⟨"PathTrust","trustIf","(IIIII)I"⟩) := ⟨List.mem_of_getElem? (i := 1183) (by decide +kernel), by decide +kernel⟩
theorem wl_1184 : zL (Cond.selects "PathTrust" ⟨"PathTrust","trustIf","(IIIII)I"⟩ ⟨"PathTrust","trustIf","(IIIII)I"⟩) := ⟨List.mem_of_getElem? (i := 1184) (by decide +kernel), by decide +kernel⟩
theorem wl_1185 : zL (Cond.code ⟨"PathTrust","trustIf","(IIIII)I"⟩ prog_1_method_36_code 6 (Option.some FieldType.int)) := ⟨List.mem_of_getElem? (i := 1185) (by decide +kernel), by decide +kernel⟩
theorem wl_1189 : zL (Cond.methodLink "PathTrustLaw" 113 ⟨"PathTrust","informed","(III)I"⟩) := ⟨List.mem_of_getElem? (i := 1189) (by decide +kernel), by decide +kernel⟩
theorem wl_1190 : zL (Cond.instanceMethod ⟨"PathTrust","informed","(III)I"⟩) := ⟨List.mem_of_getElem? (i := 1190) (by decide +kernel), by decide +kernel⟩
theorem wl_1191 : zL (Cond.selects "PathTrust" ⟨"PathTrust","informed","(III)I"⟩ ⟨"PathTrust","informed","(III)I"⟩) := ⟨List.mem_of_getElem? (i := 1191) (by decide +kernel), by decide +kernel⟩
theorem wl_1192 : zL (Cond.code ⟨"PathTrust","informed","(III)I"⟩ prog_1_method_37_code 6 (Option.some FieldType.int)) := ⟨List.mem_of_getElem? (i := 1192) (by decide +kernel), by decide +kernel⟩
theorem wl_1228 : zL (Cond.methodLink "PathTrustLaw" 116 ⟨"PathTrust","widthAfter","(III)I"⟩) := ⟨List.mem_of_getElem? (i := 1228) (by decide +kernel), by decide +kernel⟩
theorem wl_1229 : zL (Cond.instanceMethod ⟨"PathTrust","widthAfter","(III)I"⟩) := ⟨List.mem_of_getElem? (i := 1229) (by decide +kernel), by decide +kernel⟩
theorem wl_1230 : zL (Cond.selects "PathTrust" ⟨"PathTrust","widthAfter","(III)I"⟩ ⟨"PathTrust","widthAfter","(III)I"⟩) := ⟨List.mem_of_getElem? (i := 1230) (by decide +kernel), by decide +kernel⟩
theorem wl_1231 : zL (Cond.code ⟨"PathTrust","widthAfter","(III)I"⟩ prog_1_method_38_code 4 (Option.some FieldType.int)) := ⟨List.mem_of_getElem? (i := 1231) (by decide +kernel), by decide +kernel⟩
theorem wl_1239 : zL (Cond.methodLink "PathTrustLaw" 119 ⟨"PathTrust","widthWithout","(III)I"⟩) := ⟨List.mem_of_getElem? (i := 1239) (by decide +kernel), by decide +kernel⟩
theorem wl_1240 : zL (Cond.instanceMethod ⟨"PathTrust","widthWithout","(III)I"⟩) := ⟨List.mem_of_getElem? (i := 1240) (by decide +kernel), by decide +kernel⟩
theorem wl_1241 : zL (Cond.selects "PathTrust" ⟨"PathTrust","widthWithout","(III)I"⟩ ⟨"PathTrust","widthWithout","(III)I"⟩) := ⟨List.mem_of_getElem? (i := 1241) (by decide +kernel), by decide +kernel⟩
theorem wl_1242 : zL (Cond.code ⟨"PathTrust","widthWithout","(III)I"⟩ prog_1_method_39_code 4 (Option.some FieldType.int)) := ⟨List.mem_of_getElem? (i := 1242) (by decide +kernel), by decide +kernel⟩
theorem wl_1246 : zL (Cond.methodLink "PathTrustLaw" 122 ⟨"PathTrust","mostUseful","(I)I"⟩) := ⟨List.mem_of_getElem? (i := 1246) (by decide +kernel), by decide +kernel⟩
theorem wl_1247 : zL (Cond.instanceMethod ⟨"PathTrust","mostUseful","(I)I"⟩) := ⟨List.mem_of_getElem? (i := 1247) (by decide +kernel), by decide +kernel⟩
theorem wl_1248 : zL (Cond.selects "PathTrust" ⟨"PathTrust","mostUseful","(I)I"⟩ ⟨"PathTrust","mostUseful","(I)I"⟩) := ⟨List.mem_of_getElem? (i := 1248) (by decide +kernel), by decide +kernel⟩
theorem wl_1249 : zL (Cond.code ⟨"PathTrust","mostUseful","(I)I"⟩ prog_1_method_40_code 6 (Option.some FieldType.int)) := ⟨List.mem_of_getElem? (i := 1249) (by decide +kernel), by decide +kernel⟩
theorem wl_1257 : zL (Cond.methodLink "PathTrustLaw" 125 ⟨"PathTrust","bestThen","(I)I"⟩) := ⟨List.mem_of_getElem? (i := 1257) (by decide +kernel), by decide +kernel⟩
theorem wl_1258 : zL (Cond.instanceMethod ⟨"PathTrust","bestThen","(I)I"⟩) := ⟨List.mem_of_getElem? (i := 1258) (by decide +kernel), by decide +kernel⟩
theorem wl_1259 : zL (Cond.selects "PathTrust" ⟨"PathTrust","bestThen","(I)I"⟩ ⟨"PathTrust","bestThen","(I)I"⟩) := ⟨List.mem_of_getElem? (i := 1259) (by decide +kernel), by decide +kernel⟩
theorem wl_1260 : zL (Cond.code ⟨"PathTrust","bestThen","(I)I"⟩ prog_1_method_41_code 2 (Option.some FieldType.int)) := ⟨List.mem_of_getElem? (i := 1260) (by decide +kernel), by decide +kernel⟩
theorem wl_1265 : zL (Cond.methodLink "PathTrustLaw" 128 ⟨"PathTrust","probe","(IIII)I"⟩) := ⟨List.mem_of_getElem? (i := 1265) (by decide +kernel), by decide +kernel⟩
theorem wl_1266 : zL (Cond.instanceMethod ⟨"PathTrust","probe","(IIII)I"⟩) := ⟨List.mem_of_getElem? (i := 1266) (by decide +kernel), by decide +kernel⟩
theorem wl_1267 : zL (Cond.selects "PathTrust" ⟨"PathTrust","probe","(IIII)I"⟩ ⟨"PathTrust","probe","(IIII)I"⟩) := ⟨List.mem_of_getElem? (i := 1267) (by decide +kernel), by decide +kernel⟩
theorem wl_1268 : zL (Cond.code ⟨"PathTrust","probe","(IIII)I"⟩ prog_1_method_42_code 5 (Option.some FieldType.int)) := ⟨List.mem_of_getElem? (i := 1268) (by decide +kernel), by decide +kernel⟩
theorem wl_1272 : zL (Cond.methodLink "PathTrustLaw" 132 ⟨"PathTrust","share","(I)I"⟩) := ⟨List.mem_of_getElem? (i := 1272) (by decide +kernel), by decide +kernel⟩
theorem wl_1273 : zL (Cond.instanceMethod ⟨"PathTrust","share","(I)I"⟩) := ⟨List.mem_of_getElem? (i := 1273) (by decide +kernel), by decide +kernel⟩
theorem wl_1274 : zL (Cond.selects "PathTrust" ⟨"PathTrust","share","(I)I"⟩ ⟨"PathTrust","share","(I)I"⟩) := ⟨List.mem_of_getElem? (i := 1274) (by decide +kernel), by decide +kernel⟩
theorem wl_1275 : zL (Cond.code ⟨"PathTrust","share","(I)I"⟩ prog_1_method_43_code 2 (Option.some FieldType.int)) := ⟨List.mem_of_getElem? (i := 1275) (by decide +kernel), by decide +kernel⟩
theorem wl_1280 : zL (Cond.methodLink "PathTrustLaw" 135 ⟨"PathTrust","relay","(I)I"⟩) := ⟨List.mem_of_getElem? (i := 1280) (by decide +kernel), by decide +kernel⟩
theorem wl_1281 : zL (Cond.instanceMethod ⟨"PathTrust","relay","(I)I"⟩) := ⟨List.mem_of_getElem? (i := 1281) (by decide +kernel), by decide +kernel⟩
theorem wl_1282 : zL (Cond.selects "PathTrust" ⟨"PathTrust","relay","(I)I"⟩ ⟨"PathTrust","relay","(I)I"⟩) := ⟨List.mem_of_getElem? (i := 1282) (by decide +kernel), by decide +kernel⟩
theorem wl_1283 : zL (Cond.code ⟨"PathTrust","relay","(I)I"⟩ prog_1_method_44_code 2 (Option.some FieldType.int)) := ⟨List.mem_of_getElem? (i := 1283) (by decide +kernel), by decide +kernel⟩
theorem wl_1287 : zL (Cond.methodLink "PathTrustLaw" 138 ⟨"PathTrust","deliver","(I)I"⟩) := ⟨List.mem_of_getElem? (i := 1287) (by decide +kernel), by decide +kernel⟩
theorem wl_1288 : zL (Cond.instanceMethod ⟨"PathTrust","deliver","(I)I"⟩) := ⟨List.mem_of_getElem? (i := 1288) (by decide +kernel), by decide +kernel⟩
theorem wl_1289 : zL (Cond.selects "PathTrust" ⟨"PathTrust","deliver","(I)I"⟩ ⟨"PathTrust","deliver","(I)I"⟩) := ⟨List.mem_of_getElem? (i := 1289) (by decide +kernel), by decide +kernel⟩
theorem wl_1290 : zL (Cond.code ⟨"PathTrust","deliver","(I)I"⟩ prog_1_method_45_code 2 (Option.some FieldType.int)) := ⟨List.mem_of_getElem? (i := 1290) (by decide +kernel), by decide +kernel⟩
theorem wl_1294 : zL (Cond.methodLink "PathTrustLaw" 141 ⟨"PathTrust","lose","()I"⟩) := ⟨List.mem_of_getElem? (i := 1294) (by decide +kernel), by decide +kernel⟩
theorem wl_1295 : zL (Cond.instanceMethod ⟨"PathTrust","lose","()I"⟩) := ⟨List.mem_of_getElem? (i := 1295) (by decide +kernel), by decide +kernel⟩
theorem wl_1296 : zL (Cond.selects "PathTrust" ⟨"PathTrust","lose","()I"⟩ ⟨"PathTrust","lose","()I"⟩) := ⟨List.mem_of_getElem? (i := 1296) (by decide +kernel), by decide +kernel⟩
theorem wl_1297 : zL (Cond.code ⟨"PathTrust","lose","()I"⟩ prog_1_method_46_code 1 (Option.some FieldType.int)) := ⟨List.mem_of_getElem? (i := 1297) (by decide +kernel), by decide +kernel⟩
theorem wl_1303 : zL (Cond.methodLink "PathTrustLaw" 145 ⟨"PathTrust","exchange","(I)I"⟩) := ⟨List.mem_of_getElem? (i := 1303) (by decide +kernel), by decide +kernel⟩
theorem wl_1304 : zL (Cond.instanceMethod ⟨"PathTrust","exchange","(I)I"⟩) := ⟨List.mem_of_getElem? (i := 1304) (by decide +kernel), by decide +kernel⟩
theorem wl_1305 : zL (Cond.selects "PathTrust" ⟨"PathTrust","exchange","(I)I"⟩ ⟨"PathTrust","exchange","(I)I"⟩) := ⟨List.mem_of_getElem? (i := 1305) (by decide +kernel), by decide +kernel⟩
theorem wl_1306 : zL (Cond.code ⟨"PathTrust","exchange","(I)I"⟩ prog_1_method_47_code 2 (Option.some FieldType.int)) := ⟨List.mem_of_getElem? (i := 1306) (by decide +kernel), by decide +kernel⟩
theorem wl_1310 : zL (Cond.methodLink "PathTrustLaw" 148 ⟨"PathTrust","pass","(I)I"⟩) := ⟨List.mem_of_getElem? (i := 1310) (by decide +kernel), by decide +kernel⟩
theorem wl_1311 : zL (Cond.instanceMethod ⟨"PathTrust","pass","(I)I"⟩) := ⟨List.mem_of_getElem? (i := 1311) (by decide +kernel), by decide +kernel⟩
theorem wl_1312 : zL (Cond.selects "PathTrust" ⟨"PathTrust","pass","(I)I"⟩ ⟨"PathTrust","pass","(I)I"⟩) := ⟨List.mem_of_getElem? (i := 1312) (by decide +kernel), by decide +kernel⟩
theorem wl_1313 : zL (Cond.code ⟨"PathTrust","pass","(I)I"⟩ prog_1_method_48_code 2 (Option.some FieldType.int)) := ⟨List.mem_of_getElem? (i := 1313) (by decide +kernel), by decide +kernel⟩
theorem wl_1317 : zL (Cond.methodLink "PathTrustLaw" 151 ⟨"PathTrust","link","(IIZ)Z"⟩) := ⟨List.mem_of_getElem? (i := 1317) (by decide +kernel), by decide +kernel⟩
theorem wl_1318 : zL (Cond.instanceMethod ⟨"PathTrust","link","(IIZ)Z"⟩) := ⟨List.mem_of_getElem? (i := 1318) (by decide +kernel), by decide +kernel⟩
theorem wl_1319 : zL (Cond.selects "PathTrust" ⟨"PathTrust","link","(IIZ)Z"⟩ ⟨"PathTrust","link","(IIZ)Z"⟩) := ⟨List.mem_of_getElem? (i := 1319) (by decide +kernel), by decide +kernel⟩
theorem wl_1320 : zL (Cond.code ⟨"PathTrust","link","(IIZ)Z"⟩ prog_1_method_49_code 6 (Option.some FieldType.boolean)) := ⟨List.mem_of_getElem? (i := 1320) (by decide +kernel), by decide +kernel⟩
theorem wl_1326 : zL (Cond.methodLink "PathTrustLaw" 155 ⟨"PathTrust","setTrust","(III)I"⟩) := ⟨List.mem_of_getElem? (i := 1326) (by decide +kernel), by decide +kernel⟩
theorem wl_1327 : zL (Cond.instanceMethod ⟨"PathTrust","setTrust","(III)I"⟩) := ⟨List.mem_of_getElem? (i := 1327) (by decide +kernel), by decide +kernel⟩
theorem wl_1328 : zL (Cond.selects "PathTrust" ⟨"PathTrust","setTrust","(III)I"⟩ ⟨"PathTrust","setTrust","(III)I"⟩) := ⟨List.mem_of_getElem? (i := 1328) (by decide +kernel), by decide +kernel⟩
theorem wl_1329 : zL (Cond.code ⟨"PathTrust","setTrust","(III)I"⟩ prog_1_method_50_code 5 (Option.some FieldType.int)) := ⟨List.mem_of_getElem? (i := 1329) (by decide +kernel), by decide +kernel⟩
theorem wl_1334 : zL (Cond.methodLink "PathTrustLaw" 158 ⟨"PathTrust","setRule","(II)I"⟩) := ⟨List.mem_of_getElem? (i := 1334) (by decide +kernel), by decide +kernel⟩
theorem wl_1335 : zL (Cond.instanceMethod ⟨"PathTrust","setRule","(II)I"⟩) := ⟨List.mem_of_getElem? (i := 1335) (by decide +kernel), by decide +kernel⟩
theorem wl_1336 : zL (Cond.selects "PathTrust" ⟨"PathTrust","setRule","(II)I"⟩ ⟨"PathTrust","setRule","(II)I"⟩) := ⟨List.mem_of_getElem? (i := 1336) (by decide +kernel), by decide +kernel⟩
theorem wl_1337 : zL (Cond.code ⟨"PathTrust","setRule","(II)I"⟩ prog_1_method_51_code 4 (Option.some FieldType.int)) := ⟨List.mem_of_getElem? (i := 1337) (by decide +kernel), by decide +kernel⟩
theorem wl_1348 : zL (Cond.methodLink "PathTrustLaw" 161 ⟨"PathTrust","forget","(II)I"⟩) := ⟨List.mem_of_getElem? (i := 1348) (by decide +kernel), by decide +kernel⟩
theorem wl_1349 : zL (Cond.instanceMethod ⟨"PathTrust","forget","(II)I"⟩) := ⟨List.mem_of_getElem? (i := 1349) (by decide +kernel), by decide +kernel⟩
theorem wl_1350 : zL (Cond.selects "PathTrust" ⟨"PathTrust","forget","(II)I"⟩ ⟨"PathTrust","forget","(II)I"⟩) := ⟨List.mem_of_getElem? (i := 1350) (by decide +kernel), by decide +kernel⟩
theorem wl_1351 : zL (Cond.code ⟨"PathTrust","forget","(II)I"⟩ prog_1_method_52_code 3 (Option.some FieldType.int)) := ⟨List.mem_of_getElem? (i := 1351) (by decide +kernel), by decide +kernel⟩
theorem wl_1361 : zL (Cond.methodLink "PathTrustLaw" 164 ⟨"PathTrust","cleanse","(I)I"⟩) := ⟨List.mem_of_getElem? (i := 1361) (by decide +kernel), by decide +kernel⟩
theorem wl_1362 : zL (Cond.instanceMethod ⟨"PathTrust","cleanse","(I)I"⟩) := ⟨List.mem_of_getElem? (i := 1362) (by decide +kernel), by decide +kernel⟩
theorem wl_1363 : zL (Cond.selects "PathTrust" ⟨"PathTrust","cleanse","(I)I"⟩ ⟨"PathTrust","cleanse","(I)I"⟩) := ⟨List.mem_of_getElem? (i := 1363) (by decide +kernel), by decide +kernel⟩
theorem wl_1364 : zL (Cond.code ⟨"PathTrust","cleanse","(I)I"⟩ prog_1_method_53_code 4 (Option.some FieldType.int)) := ⟨List.mem_of_getElem? (i := 1364) (by decide +kernel), by decide +kernel⟩
theorem wl_1368 : zL (Cond.methodLink "PathTrustLaw" 167 ⟨"PathTrust","keep","(I)I"⟩) := ⟨List.mem_of_getElem? (i := 1368) (by decide +kernel), by decide +kernel⟩
theorem wl_1369 : zL (Cond.instanceMethod ⟨"PathTrust","keep","(I)I"⟩) := ⟨List.mem_of_getElem? (i := 1369) (by decide +kernel), by decide +kernel⟩
theorem wl_1370 : zL (Cond.selects "PathTrust" ⟨"PathTrust","keep","(I)I"⟩ ⟨"PathTrust","keep","(I)I"⟩) := ⟨List.mem_of_getElem? (i := 1370) (by decide +kernel), by decide +kernel⟩
theorem wl_1371 : zL (Cond.code ⟨"PathTrust","keep","(I)I"⟩ prog_1_method_54_code 3 (Option.some FieldType.int)) := ⟨List.mem_of_getElem? (i := 1371) (by decide +kernel), by decide +kernel⟩
theorem wl_1380 : zL (Cond.methodLink "PathTrustLaw" 170 ⟨"PathTrust","restore","(I)I"⟩) := ⟨List.mem_of_getElem? (i := 1380) (by decide +kernel), by decide +kernel⟩
theorem wl_1381 : zL (Cond.instanceMethod ⟨"PathTrust","restore","(I)I"⟩) := ⟨List.mem_of_getElem? (i := 1381) (by decide +kernel), by decide +kernel⟩
theorem wl_1382 : zL (Cond.selects "PathTrust" ⟨"PathTrust","restore","(I)I"⟩ ⟨"PathTrust","restore","(I)I"⟩) := ⟨List.mem_of_getElem? (i := 1382) (by decide +kernel), by decide +kernel⟩
theorem wl_1383 : zL (Cond.code ⟨"PathTrust","restore","(I)I"⟩ prog_1_method_55_code 3 (Option.some FieldType.int)) := ⟨List.mem_of_getElem? (i := 1383) (by decide +kernel), by decide +kernel⟩
theorem wl_1388 : zL (Cond.methodLink "PathTrustLaw" 173 ⟨"PathTrust","undo","()I"⟩) := ⟨List.mem_of_getElem? (i := 1388) (by decide +kernel), by decide +kernel⟩
theorem wl_1389 : zL (Cond.instanceMethod ⟨"PathTrust","undo","()I"⟩) := ⟨List.mem_of_getElem? (i := 1389) (by decide +kernel), by decide +kernel⟩
theorem wl_1390 : zL (Cond.selects "PathTrust" ⟨"PathTrust","undo","()I"⟩ ⟨"PathTrust","undo","()I"⟩) := ⟨List.mem_of_getElem? (i := 1390) (by decide +kernel), by decide +kernel⟩
theorem wl_1391 : zL (Cond.code ⟨"PathTrust","undo","()I"⟩ prog_1_method_56_code 1 (Option.some FieldType.int)) := ⟨List.mem_of_getElem? (i := 1391) (by decide +kernel), by decide +kernel⟩
theorem wl_1400 : zL (Cond.methodLink "PathTrustLaw" 176 ⟨"PathTrust","writeBeliefs","(I)I"⟩) := ⟨List.mem_of_getElem? (i := 1400) (by decide +kernel), by decide +kernel⟩
theorem wl_1401 : zL (Cond.instanceMethod ⟨"PathTrust","writeBeliefs","(I)I"⟩) := ⟨List.mem_of_getElem? (i := 1401) (by decide +kernel), by decide +kernel⟩
theorem wl_1402 : zL (Cond.selects "PathTrust" ⟨"PathTrust","writeBeliefs","(I)I"⟩ ⟨"PathTrust","writeBeliefs","(I)I"⟩) := ⟨List.mem_of_getElem? (i := 1402) (by decide +kernel), by decide +kernel⟩
theorem wl_1403 : zL (Cond.code ⟨"PathTrust","writeBeliefs","(I)I"⟩ prog_1_method_58_code 3 (Option.some FieldType.int)) := ⟨List.mem_of_getElem? (i := 1403) (by decide +kernel), by decide +kernel⟩
theorem wl_1425 : zL (Cond.methodLink "PathTrustLaw" 179 ⟨"PathTrust","writeReports","(I)I"⟩) := ⟨List.mem_of_getElem? (i := 1425) (by decide +kernel), by decide +kernel⟩
theorem wl_1426 : zL (Cond.instanceMethod ⟨"PathTrust","writeReports","(I)I"⟩) := ⟨List.mem_of_getElem? (i := 1426) (by decide +kernel), by decide +kernel⟩
theorem wl_1427 : zL (Cond.selects "PathTrust" ⟨"PathTrust","writeReports","(I)I"⟩ ⟨"PathTrust","writeReports","(I)I"⟩) := ⟨List.mem_of_getElem? (i := 1427) (by decide +kernel), by decide +kernel⟩
theorem wl_1428 : zL (Cond.code ⟨"PathTrust","writeReports","(I)I"⟩ prog_1_method_59_code 4 (Option.some FieldType.int)) := ⟨List.mem_of_getElem? (i := 1428) (by decide +kernel), by decide +kernel⟩
theorem wl_1436 : zL (Cond.methodLink "PathTrustLaw" 182 ⟨"PathTrust","outputByte","(I)I"⟩) := ⟨List.mem_of_getElem? (i := 1436) (by decide +kernel), by decide +kernel⟩
theorem wl_1437 : zL (Cond.instanceMethod ⟨"PathTrust","outputByte","(I)I"⟩) := ⟨List.mem_of_getElem? (i := 1437) (by decide +kernel), by decide +kernel⟩
theorem wl_1438 : zL (Cond.selects "PathTrust" ⟨"PathTrust","outputByte","(I)I"⟩ ⟨"PathTrust","outputByte","(I)I"⟩) := ⟨List.mem_of_getElem? (i := 1438) (by decide +kernel), by decide +kernel⟩
theorem wl_1439 : zL (Cond.code ⟨"PathTrust","outputByte","(I)I"⟩ prog_1_method_60_code 2 (Option.some FieldType.int)) := ⟨List.mem_of_getElem? (i := 1439) (by decide +kernel), by decide +kernel⟩
theorem k0_X7_append : zk0 Y_X7_append 5 := ⟨wl_715, wl_177, ⟨by decide, by decide, by decide +kernel⟩, rfl⟩
theorem kV_X7_append : zkV Y_X7_append := ⟨wl_713, wl_714⟩
theorem kl_L_7 : zkL RL 7 Y_X7_append := Or.inl wl_712
theorem k0_X7_truncate : zk0 Y_X7_truncate 1 := ⟨wl_799, wl_177, ⟨by decide, by decide, by decide +kernel⟩, rfl⟩
theorem kV_X7_truncate : zkV Y_X7_truncate := ⟨wl_797, wl_798⟩
theorem kl_L_15 : zkL RL 15 Y_X7_truncate := Or.inl wl_796
theorem k0_X7_property : zk0 Y_X7_property 1 := ⟨wl_825, wl_177, ⟨by decide, by decide, by decide +kernel⟩, rfl⟩
theorem kV_X7_property : zkV Y_X7_property := ⟨wl_823, wl_824⟩
theorem kl_L_21 : zkL RL 21 Y_X7_property := Or.inl wl_822
theorem k0_X7_trust : zk0 Y_X7_trust 2 := ⟨wl_838, wl_177, ⟨by decide, by decide, by decide +kernel⟩, rfl⟩
theorem kV_X7_trust : zkV Y_X7_trust := ⟨wl_836, wl_837⟩
theorem kl_L_25 : zkL RL 25 Y_X7_trust := Or.inl wl_835
theorem k0_X7_neighbors : zk0 Y_X7_neighbors 1 := ⟨wl_866, wl_177, ⟨by decide, by decide, by decide +kernel⟩, rfl⟩
theorem kV_X7_neighbors : zkV Y_X7_neighbors := ⟨wl_864, wl_865⟩
theorem kl_L_31 : zkL RL 31 Y_X7_neighbors := Or.inl wl_863
theorem k0_X7_distance : zk0 Y_X7_distance 2 := ⟨wl_874, wl_177, ⟨by decide, by decide, by decide +kernel⟩, rfl⟩
theorem kV_X7_distance : zkV Y_X7_distance := ⟨wl_872, wl_873⟩
theorem kl_L_34 : zkL RL 34 Y_X7_distance := Or.inl wl_871
theorem k0_X7_bottleneck : zk0 Y_X7_bottleneck 2 := ⟨wl_889, wl_177, ⟨by decide, by decide, by decide +kernel⟩, rfl⟩
theorem kV_X7_bottleneck : zkV Y_X7_bottleneck := ⟨wl_887, wl_888⟩
theorem kl_L_37 : zkL RL 37 Y_X7_bottleneck := Or.inl wl_886
theorem k0_X7_mostTrusted : zk0 Y_X7_mostTrusted 1 := ⟨wl_896, wl_177, ⟨by decide, by decide, by decide +kernel⟩, rfl⟩
theorem kV_X7_mostTrusted : zkV Y_X7_mostTrusted := ⟨wl_894, wl_895⟩
theorem kl_L_40 : zkL RL 40 Y_X7_mostTrusted := Or.inl wl_893
theorem k0_X7_reports : zk0 Y_X7_reports 1 := ⟨wl_903, wl_177, ⟨by decide, by decide, by decide +kernel⟩, rfl⟩
theorem kV_X7_reports : zkV Y_X7_reports := ⟨wl_901, wl_902⟩
theorem kl_L_43 : zkL RL 43 Y_X7_reports := Or.inl wl_900
theorem k0_X7_report : zk0 Y_X7_report 3 := ⟨wl_911, wl_177, ⟨by decide, by decide, by decide +kernel⟩, rfl⟩
theorem kV_X7_report : zkV Y_X7_report := ⟨wl_909, wl_910⟩
theorem kl_L_46 : zkL RL 46 Y_X7_report := Or.inl wl_908
theorem k0_X7_status : zk0 Y_X7_status 2 := ⟨wl_924, wl_177, ⟨by decide, by decide, by decide +kernel⟩, rfl⟩
theorem kV_X7_status : zkV Y_X7_status := ⟨wl_922, wl_923⟩
theorem kl_L_50 : zkL RL 50 Y_X7_status := Or.inl wl_921
theorem k0_X7_moved : zk0 Y_X7_moved 3 := ⟨wl_967, wl_177, ⟨by decide, by decide, by decide +kernel⟩, rfl⟩
theorem kV_X7_moved : zkV Y_X7_moved := ⟨wl_965, wl_966⟩
theorem kl_L_53 : zkL RL 53 Y_X7_moved := Or.inl wl_964
theorem k0_X7_own : zk0 Y_X7_own 2 := ⟨wl_977, wl_177, ⟨by decide, by decide, by decide +kernel⟩, rfl⟩
theorem kV_X7_own : zkV Y_X7_own := ⟨wl_975, wl_976⟩
theorem kl_L_56 : zkL RL 56 Y_X7_own := Or.inl wl_974
theorem k0_X7_belief : zk0 Y_X7_belief 3 := ⟨wl_990, wl_177, ⟨by decide, by decide, by decide +kernel⟩, rfl⟩
theorem kV_X7_belief : zkV Y_X7_belief := ⟨wl_988, wl_989⟩
theorem kl_L_59 : zkL RL 59 Y_X7_belief := Or.inl wl_987
theorem k0_X7_sources : zk0 Y_X7_sources 2 := ⟨wl_1001, wl_177, ⟨by decide, by decide, by decide +kernel⟩, rfl⟩
theorem kV_X7_sources : zkV Y_X7_sources := ⟨wl_999, wl_1000⟩
theorem kl_L_62 : zkL RL 62 Y_X7_sources := Or.inl wl_998
theorem k0_X7_contradicted : zk0 Y_X7_contradicted 2 := ⟨wl_1016, wl_177, ⟨by decide, by decide, by decide +kernel⟩, rfl⟩
theorem kV_X7_contradicted : zkV Y_X7_contradicted := ⟨wl_1014, wl_1015⟩
theorem kl_L_65 : zkL RL 65 Y_X7_contradicted := Or.inl wl_1013
theorem k0_X7_majority : zk0 Y_X7_majority 2 := ⟨wl_1023, wl_177, ⟨by decide, by decide, by decide +kernel⟩, rfl⟩
theorem kV_X7_majority : zkV Y_X7_majority := ⟨wl_1021, wl_1022⟩
theorem kl_L_68 : zkL RL 68 Y_X7_majority := Or.inl wl_1020
theorem k0_X7_majorityBound : zk0 Y_X7_majorityBound 3 := ⟨wl_1044, wl_177, ⟨by decide, by decide, by decide +kernel⟩, rfl⟩
theorem kV_X7_majorityBound : zkV Y_X7_majorityBound := ⟨wl_1042, wl_1043⟩
theorem kl_L_71 : zkL RL 71 Y_X7_majorityBound := Or.inl wl_1041
theorem k0_X7_best : zk0 Y_X7_best 2 := ⟨wl_1060, wl_177, ⟨by decide, by decide, by decide +kernel⟩, rfl⟩
theorem kV_X7_best : zkV Y_X7_best := ⟨wl_1058, wl_1059⟩
theorem kl_L_74 : zkL RL 74 Y_X7_best := Or.inl wl_1057
theorem k0_X7_rivals : zk0 Y_X7_rivals 1 := ⟨wl_1071, wl_177, ⟨by decide, by decide, by decide +kernel⟩, rfl⟩
theorem kV_X7_rivals : zkV Y_X7_rivals := ⟨wl_1069, wl_1070⟩
theorem kl_L_77 : zkL RL 77 Y_X7_rivals := Or.inl wl_1068
theorem k0_X7_nextProbe : zk0 Y_X7_nextProbe 1 := ⟨wl_1082, wl_177, ⟨by decide, by decide, by decide +kernel⟩, rfl⟩
theorem kV_X7_nextProbe : zkV Y_X7_nextProbe := ⟨wl_1080, wl_1081⟩
theorem kl_L_80 : zkL RL 80 Y_X7_nextProbe := Or.inl wl_1079
theorem k0_X7_regret : zk0 Y_X7_regret 1 := ⟨wl_1093, wl_177, ⟨by decide, by decide, by decide +kernel⟩, rfl⟩
theorem kV_X7_regret : zkV Y_X7_regret := ⟨wl_1091, wl_1092⟩
theorem kl_L_83 : zkL RL 83 Y_X7_regret := Or.inl wl_1090
theorem k0_X7_saved : zk0 Y_X7_saved 1 := ⟨wl_1100, wl_177, ⟨by decide, by decide, by decide +kernel⟩, rfl⟩
theorem kV_X7_saved : zkV Y_X7_saved := ⟨wl_1098, wl_1099⟩
theorem kl_L_86 : zkL RL 86 Y_X7_saved := Or.inl wl_1097
theorem k0_X7_agreeing : zk0 Y_X7_agreeing 2 := ⟨wl_1107, wl_177, ⟨by decide, by decide, by decide +kernel⟩, rfl⟩
theorem kV_X7_agreeing : zkV Y_X7_agreeing := ⟨wl_1105, wl_1106⟩
theorem kl_L_89 : zkL RL 89 Y_X7_agreeing := Or.inl wl_1104
theorem k0_X7_common : zk0 Y_X7_common 2 := ⟨wl_1116, wl_177, ⟨by decide, by decide, by decide +kernel⟩, rfl⟩
theorem kV_X7_common : zkV Y_X7_common := ⟨wl_1114, wl_1115⟩
theorem kl_L_92 : zkL RL 92 Y_X7_common := Or.inl wl_1113
theorem k0_X7_account : zk0 Y_X7_account 2 := ⟨wl_1124, wl_177, ⟨by decide, by decide, by decide +kernel⟩, rfl⟩
theorem kV_X7_account : zkV Y_X7_account := ⟨wl_1122, wl_1123⟩
theorem kl_L_95 : zkL RL 95 Y_X7_account := Or.inl wl_1121
theorem k0_X7_message : zk0 Y_X7_message 2 := ⟨wl_1136, wl_177, ⟨by decide, by decide, by decide +kernel⟩, rfl⟩
theorem kV_X7_message : zkV Y_X7_message := ⟨wl_1134, wl_1135⟩
theorem kl_L_98 : zkL RL 98 Y_X7_message := Or.inl wl_1133
theorem k0_X7_standing : zk0 Y_X7_standing 1 := ⟨wl_1167, wl_177, ⟨by decide, by decide, by decide +kernel⟩, rfl⟩
theorem kV_X7_standing : zkV Y_X7_standing := ⟨wl_1165, wl_1166⟩
theorem kl_L_103 : zkL RL 103 Y_X7_standing := Or.inl wl_1164
theorem k0_X7_beliefIf : zk0 Y_X7_beliefIf 5 := ⟨wl_1174, wl_177, ⟨by decide, by decide, by decide +kernel⟩, rfl⟩
theorem kV_X7_beliefIf : zkV Y_X7_beliefIf := ⟨wl_1172, wl_1173⟩
theorem kl_L_107 : zkL RL 107 Y_X7_beliefIf := Or.inl wl_1171
theorem k0_X7_trustIf : zk0 Y_X7_trustIf 5 := ⟨wl_1185, wl_177, ⟨by decide, by decide, by decide +kernel⟩, rfl⟩
theorem kV_X7_trustIf : zkV Y_X7_trustIf := ⟨wl_1183, wl_1184⟩
theorem kl_L_110 : zkL RL 110 Y_X7_trustIf := Or.inl wl_1182
theorem k0_X7_informed : zk0 Y_X7_informed 3 := ⟨wl_1192, wl_177, ⟨by decide, by decide, by decide +kernel⟩, rfl⟩
theorem kV_X7_informed : zkV Y_X7_informed := ⟨wl_1190, wl_1191⟩
theorem kl_L_113 : zkL RL 113 Y_X7_informed := Or.inl wl_1189
theorem k0_X7_widthAfter : zk0 Y_X7_widthAfter 3 := ⟨wl_1231, wl_177, ⟨by decide, by decide, by decide +kernel⟩, rfl⟩
theorem kV_X7_widthAfter : zkV Y_X7_widthAfter := ⟨wl_1229, wl_1230⟩
theorem kl_L_116 : zkL RL 116 Y_X7_widthAfter := Or.inl wl_1228
theorem k0_X7_widthWithout : zk0 Y_X7_widthWithout 3 := ⟨wl_1242, wl_177, ⟨by decide, by decide, by decide +kernel⟩, rfl⟩
theorem kV_X7_widthWithout : zkV Y_X7_widthWithout := ⟨wl_1240, wl_1241⟩
theorem kl_L_119 : zkL RL 119 Y_X7_widthWithout := Or.inl wl_1239
theorem k0_X7_mostUseful : zk0 Y_X7_mostUseful 1 := ⟨wl_1249, wl_177, ⟨by decide, by decide, by decide +kernel⟩, rfl⟩
theorem kV_X7_mostUseful : zkV Y_X7_mostUseful := ⟨wl_1247, wl_1248⟩
theorem kl_L_122 : zkL RL 122 Y_X7_mostUseful := Or.inl wl_1246
theorem k0_X7_bestThen : zk0 Y_X7_bestThen 1 := ⟨wl_1260, wl_177, ⟨by decide, by decide, by decide +kernel⟩, rfl⟩
theorem kV_X7_bestThen : zkV Y_X7_bestThen := ⟨wl_1258, wl_1259⟩
theorem kl_L_125 : zkL RL 125 Y_X7_bestThen := Or.inl wl_1257
theorem k0_X7_probe : zk0 Y_X7_probe 4 := ⟨wl_1268, wl_177, ⟨by decide, by decide, by decide +kernel⟩, rfl⟩
theorem kV_X7_probe : zkV Y_X7_probe := ⟨wl_1266, wl_1267⟩
theorem kl_L_128 : zkL RL 128 Y_X7_probe := Or.inl wl_1265
theorem k0_X7_share : zk0 Y_X7_share 1 := ⟨wl_1275, wl_177, ⟨by decide, by decide, by decide +kernel⟩, rfl⟩
theorem kV_X7_share : zkV Y_X7_share := ⟨wl_1273, wl_1274⟩
theorem kl_L_132 : zkL RL 132 Y_X7_share := Or.inl wl_1272
theorem k0_X7_relay : zk0 Y_X7_relay 1 := ⟨wl_1283, wl_177, ⟨by decide, by decide, by decide +kernel⟩, rfl⟩
theorem kV_X7_relay : zkV Y_X7_relay := ⟨wl_1281, wl_1282⟩
theorem kl_L_135 : zkL RL 135 Y_X7_relay := Or.inl wl_1280
theorem k0_X7_deliver : zk0 Y_X7_deliver 1 := ⟨wl_1290, wl_177, ⟨by decide, by decide, by decide +kernel⟩, rfl⟩
theorem kV_X7_deliver : zkV Y_X7_deliver := ⟨wl_1288, wl_1289⟩
theorem kl_L_138 : zkL RL 138 Y_X7_deliver := Or.inl wl_1287
theorem k0_X7_lose : zk0 Y_X7_lose 0 := ⟨wl_1297, wl_177, ⟨by decide, by decide, by decide +kernel⟩, rfl⟩
theorem kV_X7_lose : zkV Y_X7_lose := ⟨wl_1295, wl_1296⟩
theorem kl_L_141 : zkL RL 141 Y_X7_lose := Or.inl wl_1294
theorem k0_X7_exchange : zk0 Y_X7_exchange 1 := ⟨wl_1306, wl_177, ⟨by decide, by decide, by decide +kernel⟩, rfl⟩
theorem kV_X7_exchange : zkV Y_X7_exchange := ⟨wl_1304, wl_1305⟩
theorem kl_L_145 : zkL RL 145 Y_X7_exchange := Or.inl wl_1303
theorem k0_X7_pass : zk0 Y_X7_pass 1 := ⟨wl_1313, wl_177, ⟨by decide, by decide, by decide +kernel⟩, rfl⟩
theorem kV_X7_pass : zkV Y_X7_pass := ⟨wl_1311, wl_1312⟩
theorem kl_L_148 : zkL RL 148 Y_X7_pass := Or.inl wl_1310
theorem k0_X7_link : zk0 Y_X7_link 3 := ⟨wl_1320, wl_177, ⟨by decide, by decide, by decide +kernel⟩, rfl⟩
theorem kV_X7_link : zkV Y_X7_link := ⟨wl_1318, wl_1319⟩
theorem kl_L_151 : zkL RL 151 Y_X7_link := Or.inl wl_1317
theorem k0_X7_setTrust : zk0 Y_X7_setTrust 3 := ⟨wl_1329, wl_177, ⟨by decide, by decide, by decide +kernel⟩, rfl⟩
theorem kV_X7_setTrust : zkV Y_X7_setTrust := ⟨wl_1327, wl_1328⟩
theorem kl_L_155 : zkL RL 155 Y_X7_setTrust := Or.inl wl_1326
theorem k0_X7_setRule : zk0 Y_X7_setRule 2 := ⟨wl_1337, wl_177, ⟨by decide, by decide, by decide +kernel⟩, rfl⟩
theorem kV_X7_setRule : zkV Y_X7_setRule := ⟨wl_1335, wl_1336⟩
theorem kl_L_158 : zkL RL 158 Y_X7_setRule := Or.inl wl_1334
theorem k0_X7_forget : zk0 Y_X7_forget 2 := ⟨wl_1351, wl_177, ⟨by decide, by decide, by decide +kernel⟩, rfl⟩
theorem kV_X7_forget : zkV Y_X7_forget := ⟨wl_1349, wl_1350⟩
theorem kl_L_161 : zkL RL 161 Y_X7_forget := Or.inl wl_1348
theorem k0_X7_cleanse : zk0 Y_X7_cleanse 1 := ⟨wl_1364, wl_177, ⟨by decide, by decide, by decide +kernel⟩, rfl⟩
theorem kV_X7_cleanse : zkV Y_X7_cleanse := ⟨wl_1362, wl_1363⟩
theorem kl_L_164 : zkL RL 164 Y_X7_cleanse := Or.inl wl_1361
theorem k0_X7_keep : zk0 Y_X7_keep 1 := ⟨wl_1371, wl_177, ⟨by decide, by decide, by decide +kernel⟩, rfl⟩
theorem kV_X7_keep : zkV Y_X7_keep := ⟨wl_1369, wl_1370⟩
theorem kl_L_167 : zkL RL 167 Y_X7_keep := Or.inl wl_1368
theorem k0_X7_restore : zk0 Y_X7_restore 1 := ⟨wl_1383, wl_177, ⟨by decide, by decide, by decide +kernel⟩, rfl⟩
theorem kV_X7_restore : zkV Y_X7_restore := ⟨wl_1381, wl_1382⟩
theorem kl_L_170 : zkL RL 170 Y_X7_restore := Or.inl wl_1380
theorem k0_X7_undo : zk0 Y_X7_undo 0 := ⟨wl_1391, wl_177, ⟨by decide, by decide, by decide +kernel⟩, rfl⟩
theorem kV_X7_undo : zkV Y_X7_undo := ⟨wl_1389, wl_1390⟩
theorem kl_L_173 : zkL RL 173 Y_X7_undo := Or.inl wl_1388
theorem k0_X7_writeBeliefs : zk0 Y_X7_writeBeliefs 1 := ⟨wl_1403, wl_177, ⟨by decide, by decide, by decide +kernel⟩, rfl⟩
theorem kV_X7_writeBeliefs : zkV Y_X7_writeBeliefs := ⟨wl_1401, wl_1402⟩
theorem kl_L_176 : zkL RL 176 Y_X7_writeBeliefs := Or.inl wl_1400
theorem k0_X7_writeReports : zk0 Y_X7_writeReports 1 := ⟨wl_1428, wl_177, ⟨by decide, by decide, by decide +kernel⟩, rfl⟩
theorem kV_X7_writeReports : zkV Y_X7_writeReports := ⟨wl_1426, wl_1427⟩
theorem kl_L_179 : zkL RL 179 Y_X7_writeReports := Or.inl wl_1425
theorem k0_X7_outputByte : zk0 Y_X7_outputByte 1 := ⟨wl_1439, wl_177, ⟨by decide, by decide, by decide +kernel⟩, rfl⟩
theorem kV_X7_outputByte : zkV Y_X7_outputByte := ⟨wl_1437, wl_1438⟩
theorem kl_L_182 : zkL RL 182 Y_X7_outputByte := Or.inl wl_1436
theorem m_L_append {g : zF} (hl0 : g.2.2.2.1.stackTraces = false) {P : Int → zS → Prop} {a0 a1 a2 a3 a4 a5 a6 : Int} {σ : zS} (hobj : σ.1.1 a0 = some (0, 7)) (h : zcase (f_X7_append a0 a1 a2 a3 a4 a5 σ) [(0, 1)] (fun v τ => @ite _ (zI v) (zID v) (zsi 4 a6 0 v τ fun τ => some (.inl 0, τ)) none) P) : zm g Y_L_append R_L_append [(4, a0), (0, a1), (0, a2), (0, a3), (0, a4), (0, a5), (4, a6)] σ (zPc P) := by
  refine zm_ofH (by decide) (by intro q; cases q) (Nat.le_of_ble_eq_true rfl) ?_
  obtain ⟨r, hr, hv, hx⟩ := h
  refine r_aload 6 dL_append_0 rfl ?_
  refine r_iconst (v := 0) dL_append_2 rfl rfl ?_
  refine r_aload_n 0 dL_append_3 rfl ?_
  refine r_iload_n 1 dL_append_4 rfl ?_
  refine r_iload_n 2 dL_append_5 rfl ?_
  refine r_iload_n 3 dL_append_6 rfl ?_
  refine r_iload 4 dL_append_7 rfl ?_
  refine r_iload 5 dL_append_9 rfl ?_
  refine r_callVC (K' := Y_X7_append) (R' := R_X7_append) (idx := 7) (n := 5) (b := a0) (as := [(0, a1), (0, a2), (0, a3), (0, a4), (0, a5)]) (rest := [(0, 0), (4, a6)]) (cn := 7) (C' := 0) (D' := 0) k0_X7_append kV_X7_append kl_L_7 ⟨by decide, by decide⟩ dL_append_11 rfl rfl (Nat.le_of_ble_eq_true rfl) (by decide) (by decide) rfl hobj ⟨_, hr⟩ (fun r hr => m_X7_append hl0 ⟨r, hr, hr⟩) (fun ex τ n q hq hn => ?_) (fun v τ hq => ?_)
  · obtain ⟨c, hc, hP⟩ := hx ex τ (Option.some.inj (hr.symm.trans hq))
    rcases List.mem_cons.mp hc with e9 | hc
    · cases e9
      refine ⟨19, ⟨[], _, _, rfl, by decide, by decide, rfl, wl_711, wl_718, fun z hz => by cases hz⟩, ?_⟩
      refine r_astore (L' := (7, (4, (q : Int))) :: [(0, (4, a0)), (1, (0, a1)), (2, (0, a2)), (3, (0, a3)), (4, (0, a4)), (5, (0, a5)), (6, (4, a6))]) dL_append_19 (by decide) rfl ?_
      refine r_iconst (v := 1) dL_append_21 rfl rfl ?_
      exact r_iret rfl dL_append_22 ⟨_, rfl, 1, _, rfl, hP n hn⟩
    · cases hc
  · have h := hv v τ (Option.some.inj (hr.symm.trans hq))
    refine r_i2l dL_append_14 ?_
    refine r_last dL_append_15 h (fun τ h => ?_)
    refine r_goto 23 dL_append_16 (by decide) ?_
    refine r_iconst (v := 0) dL_append_23 rfl rfl ?_
    exact r_iret rfl dL_append_24 h

theorem m_L_truncate {g : zF} (hl0 : g.2.2.2.1.stackTraces = false) {P : Int → zS → Prop} {a0 a1 : Int} {σ : zS} (hobj : σ.1.1 a0 = some (0, 7)) (h : zcase (f_X7_truncate a0 a1 σ) [(1, 1)] (fun _ τ => some (.inl 0, τ)) P) : zm g Y_L_truncate R_L_truncate [(4, a0), (0, a1)] σ (zPc P) := by
  refine zm_ofH (by decide) (by intro q; cases q) (Nat.le_of_ble_eq_true rfl) ?_
  obtain ⟨r, hr, hv, hx⟩ := h
  refine r_aload_n 0 dL_truncate_0 rfl ?_
  refine r_iload_n 1 dL_truncate_1 rfl ?_
  refine r_callVC (K' := Y_X7_truncate) (R' := R_X7_truncate) (idx := 15) (n := 1) (b := a0) (as := [(0, a1)]) (rest := []) (cn := 7) (C' := 0) (D' := 0) k0_X7_truncate kV_X7_truncate kl_L_15 ⟨by decide, by decide⟩ dL_truncate_2 rfl rfl (Nat.le_of_ble_eq_true rfl) (by decide) (by decide) rfl hobj ⟨_, hr⟩ (fun r hr => m_X7_truncate hl0 ⟨r, hr, hr⟩) (fun ex τ n q hq hn => ?_) (fun v τ hq => ?_)
  · obtain ⟨c, hc, hP⟩ := hx ex τ (Option.some.inj (hr.symm.trans hq))
    rcases List.mem_cons.mp hc with e9 | hc
    · cases e9
      refine ⟨8, ⟨[], _, _, rfl, by decide, by decide, rfl, wl_795, wl_805, fun z hz => by cases hz⟩, ?_⟩
      refine r_astore_n (L' := (2, (4, (q : Int))) :: [(0, (4, a0)), (1, (0, a1))]) dL_truncate_8 (by decide) rfl ?_
      refine r_iconst (v := 1) dL_truncate_9 rfl rfl ?_
      exact r_iret rfl dL_truncate_10 ⟨_, rfl, 1, _, rfl, hP n hn⟩
    · cases hc
  · have h := hv v τ (Option.some.inj (hr.symm.trans hq))
    refine r_goto 11 dL_truncate_5 (by decide) ?_
    refine r_iconst (v := 0) dL_truncate_11 rfl rfl ?_
    exact r_iret rfl dL_truncate_12 h

theorem m_L_property {g : zF} (hl0 : g.2.2.2.1.stackTraces = false) {P : Int → zS → Prop} {a0 a1 a2 : Int} {σ : zS} (hobj : σ.1.1 a0 = some (0, 7)) (h : zcase (f_X7_property a0 a1 σ) [(1, 1)] (fun v τ => @ite _ (zI v) (zID v) (zsi 4 a2 0 v τ fun τ => some (.inl 0, τ)) none) P) : zm g Y_L_property R_L_property [(4, a0), (0, a1), (4, a2)] σ (zPc P) := by
  refine zm_ofH (by decide) (by intro q; cases q) (Nat.le_of_ble_eq_true rfl) ?_
  obtain ⟨r, hr, hv, hx⟩ := h
  refine r_aload_n 2 dL_property_0 rfl ?_
  refine r_iconst (v := 0) dL_property_1 rfl rfl ?_
  refine r_aload_n 0 dL_property_2 rfl ?_
  refine r_iload_n 1 dL_property_3 rfl ?_
  refine r_callVC (K' := Y_X7_property) (R' := R_X7_property) (idx := 21) (n := 1) (b := a0) (as := [(0, a1)]) (rest := [(0, 0), (4, a2)]) (cn := 7) (C' := 0) (D' := 0) k0_X7_property kV_X7_property kl_L_21 ⟨by decide, by decide⟩ dL_property_4 rfl rfl (Nat.le_of_ble_eq_true rfl) (by decide) (by decide) rfl hobj ⟨_, hr⟩ (fun r hr => m_X7_property hl0 ⟨r, hr, hr⟩) (fun ex τ n q hq hn => ?_) (fun v τ hq => ?_)
  · obtain ⟨c, hc, hP⟩ := hx ex τ (Option.some.inj (hr.symm.trans hq))
    rcases List.mem_cons.mp hc with e9 | hc
    · cases e9
      refine ⟨12, ⟨[], _, _, rfl, by decide, by decide, rfl, wl_795, wl_805, fun z hz => by cases hz⟩, ?_⟩
      refine r_astore_n (L' := (3, (4, (q : Int))) :: [(0, (4, a0)), (1, (0, a1)), (2, (4, a2))]) dL_property_12 (by decide) rfl ?_
      refine r_iconst (v := 1) dL_property_13 rfl rfl ?_
      exact r_iret rfl dL_property_14 ⟨_, rfl, 1, _, rfl, hP n hn⟩
    · cases hc
  · have h := hv v τ (Option.some.inj (hr.symm.trans hq))
    refine r_i2l dL_property_7 ?_
    refine r_last dL_property_8 h (fun τ h => ?_)
    refine r_goto 15 dL_property_9 (by decide) ?_
    refine r_iconst (v := 0) dL_property_15 rfl rfl ?_
    exact r_iret rfl dL_property_16 h

theorem m_L_trust {g : zF} (hl0 : g.2.2.2.1.stackTraces = false) {P : Int → zS → Prop} {a0 a1 a2 a3 : Int} {σ : zS} (hobj : σ.1.1 a0 = some (0, 7)) (h : zcase (f_X7_trust a0 a1 a2 σ) [(2, 1)] (fun v τ => @ite _ (zI v) (zID v) (zsi 4 a3 0 v τ fun τ => some (.inl 0, τ)) none) P) : zm g Y_L_trust R_L_trust [(4, a0), (0, a1), (0, a2), (4, a3)] σ (zPc P) := by
  refine zm_ofH (by decide) (by intro q; cases q) (Nat.le_of_ble_eq_true rfl) ?_
  obtain ⟨r, hr, hv, hx⟩ := h
  refine r_aload_n 3 dL_trust_0 rfl ?_
  refine r_iconst (v := 0) dL_trust_1 rfl rfl ?_
  refine r_aload_n 0 dL_trust_2 rfl ?_
  refine r_iload_n 1 dL_trust_3 rfl ?_
  refine r_iload_n 2 dL_trust_4 rfl ?_
  refine r_callVC (K' := Y_X7_trust) (R' := R_X7_trust) (idx := 25) (n := 2) (b := a0) (as := [(0, a1), (0, a2)]) (rest := [(0, 0), (4, a3)]) (cn := 7) (C' := 0) (D' := 0) k0_X7_trust kV_X7_trust kl_L_25 ⟨by decide, by decide⟩ dL_trust_5 rfl rfl (Nat.le_of_ble_eq_true rfl) (by decide) (by decide) rfl hobj ⟨_, hr⟩ (fun r hr => m_X7_trust hl0 ⟨r, hr, hr⟩) (fun ex τ n q hq hn => ?_) (fun v τ hq => ?_)
  · obtain ⟨c, hc, hP⟩ := hx ex τ (Option.some.inj (hr.symm.trans hq))
    rcases List.mem_cons.mp hc with e9 | hc
    · cases e9
      refine ⟨13, ⟨[], _, _, rfl, by decide, by decide, rfl, wl_834, wl_845, fun z hz => by cases hz⟩, ?_⟩
      refine r_astore (L' := (4, (4, (q : Int))) :: [(0, (4, a0)), (1, (0, a1)), (2, (0, a2)), (3, (4, a3))]) dL_trust_13 (by decide) rfl ?_
      refine r_iconst (v := 1) dL_trust_15 rfl rfl ?_
      exact r_iret rfl dL_trust_16 ⟨_, rfl, 1, _, rfl, hP n hn⟩
    · cases hc
  · have h := hv v τ (Option.some.inj (hr.symm.trans hq))
    refine r_i2l dL_trust_8 ?_
    refine r_last dL_trust_9 h (fun τ h => ?_)
    refine r_goto 17 dL_trust_10 (by decide) ?_
    refine r_iconst (v := 0) dL_trust_17 rfl rfl ?_
    exact r_iret rfl dL_trust_18 h

theorem m_L_neighbors {g : zF} (hl0 : g.2.2.2.1.stackTraces = false) {P : Int → zS → Prop} {a0 a1 a2 : Int} {σ : zS} (hobj : σ.1.1 a0 = some (0, 7)) (h : zcase (f_X7_neighbors a0 a1 σ) [(2, 1)] (fun v τ => @ite _ (zI v) (zID v) (zsi 4 a2 0 v τ fun τ => some (.inl 0, τ)) none) P) : zm g Y_L_neighbors R_L_neighbors [(4, a0), (0, a1), (4, a2)] σ (zPc P) := by
  refine zm_ofH (by decide) (by intro q; cases q) (Nat.le_of_ble_eq_true rfl) ?_
  obtain ⟨r, hr, hv, hx⟩ := h
  refine r_aload_n 2 dL_neighbors_0 rfl ?_
  refine r_iconst (v := 0) dL_neighbors_1 rfl rfl ?_
  refine r_aload_n 0 dL_neighbors_2 rfl ?_
  refine r_iload_n 1 dL_neighbors_3 rfl ?_
  refine r_callVC (K' := Y_X7_neighbors) (R' := R_X7_neighbors) (idx := 31) (n := 1) (b := a0) (as := [(0, a1)]) (rest := [(0, 0), (4, a2)]) (cn := 7) (C' := 0) (D' := 0) k0_X7_neighbors kV_X7_neighbors kl_L_31 ⟨by decide, by decide⟩ dL_neighbors_4 rfl rfl (Nat.le_of_ble_eq_true rfl) (by decide) (by decide) rfl hobj ⟨_, hr⟩ (fun r hr => m_X7_neighbors hl0 ⟨r, hr, hr⟩) (fun ex τ n q hq hn => ?_) (fun v τ hq => ?_)
  · obtain ⟨c, hc, hP⟩ := hx ex τ (Option.some.inj (hr.symm.trans hq))
    rcases List.mem_cons.mp hc with e9 | hc
    · cases e9
      refine ⟨12, ⟨[], _, _, rfl, by decide, by decide, rfl, wl_834, wl_845, fun z hz => by cases hz⟩, ?_⟩
      refine r_astore_n (L' := (3, (4, (q : Int))) :: [(0, (4, a0)), (1, (0, a1)), (2, (4, a2))]) dL_neighbors_12 (by decide) rfl ?_
      refine r_iconst (v := 1) dL_neighbors_13 rfl rfl ?_
      exact r_iret rfl dL_neighbors_14 ⟨_, rfl, 1, _, rfl, hP n hn⟩
    · cases hc
  · have h := hv v τ (Option.some.inj (hr.symm.trans hq))
    refine r_i2l dL_neighbors_7 ?_
    refine r_last dL_neighbors_8 h (fun τ h => ?_)
    refine r_goto 15 dL_neighbors_9 (by decide) ?_
    refine r_iconst (v := 0) dL_neighbors_15 rfl rfl ?_
    exact r_iret rfl dL_neighbors_16 h

theorem m_L_distance {g : zF} (hl0 : g.2.2.2.1.stackTraces = false) {P : Int → zS → Prop} {a0 a1 a2 a3 : Int} {σ : zS} (hobj : σ.1.1 a0 = some (0, 7)) (h : zcase (f_X7_distance a0 a1 a2 σ) [(2, 1)] (fun v τ => @ite _ (zI v) (zID v) (zsi 4 a3 0 v τ fun τ => some (.inl 0, τ)) none) P) : zm g Y_L_distance R_L_distance [(4, a0), (0, a1), (0, a2), (4, a3)] σ (zPc P) := by
  refine zm_ofH (by decide) (by intro q; cases q) (Nat.le_of_ble_eq_true rfl) ?_
  obtain ⟨r, hr, hv, hx⟩ := h
  refine r_aload_n 3 dL_distance_0 rfl ?_
  refine r_iconst (v := 0) dL_distance_1 rfl rfl ?_
  refine r_aload_n 0 dL_distance_2 rfl ?_
  refine r_iload_n 1 dL_distance_3 rfl ?_
  refine r_iload_n 2 dL_distance_4 rfl ?_
  refine r_callVC (K' := Y_X7_distance) (R' := R_X7_distance) (idx := 34) (n := 2) (b := a0) (as := [(0, a1), (0, a2)]) (rest := [(0, 0), (4, a3)]) (cn := 7) (C' := 0) (D' := 0) k0_X7_distance kV_X7_distance kl_L_34 ⟨by decide, by decide⟩ dL_distance_5 rfl rfl (Nat.le_of_ble_eq_true rfl) (by decide) (by decide) rfl hobj ⟨_, hr⟩ (fun r hr => m_X7_distance hl0 ⟨r, hr, hr⟩) (fun ex τ n q hq hn => ?_) (fun v τ hq => ?_)
  · obtain ⟨c, hc, hP⟩ := hx ex τ (Option.some.inj (hr.symm.trans hq))
    rcases List.mem_cons.mp hc with e9 | hc
    · cases e9
      refine ⟨13, ⟨[], _, _, rfl, by decide, by decide, rfl, wl_834, wl_845, fun z hz => by cases hz⟩, ?_⟩
      refine r_astore (L' := (4, (4, (q : Int))) :: [(0, (4, a0)), (1, (0, a1)), (2, (0, a2)), (3, (4, a3))]) dL_distance_13 (by decide) rfl ?_
      refine r_iconst (v := 1) dL_distance_15 rfl rfl ?_
      exact r_iret rfl dL_distance_16 ⟨_, rfl, 1, _, rfl, hP n hn⟩
    · cases hc
  · have h := hv v τ (Option.some.inj (hr.symm.trans hq))
    refine r_i2l dL_distance_8 ?_
    refine r_last dL_distance_9 h (fun τ h => ?_)
    refine r_goto 17 dL_distance_10 (by decide) ?_
    refine r_iconst (v := 0) dL_distance_17 rfl rfl ?_
    exact r_iret rfl dL_distance_18 h

theorem m_L_bottleneck {g : zF} (hl0 : g.2.2.2.1.stackTraces = false) {P : Int → zS → Prop} {a0 a1 a2 a3 : Int} {σ : zS} (hobj : σ.1.1 a0 = some (0, 7)) (h : zcase (f_X7_bottleneck a0 a1 a2 σ) [(2, 1)] (fun v τ => @ite _ (zI v) (zID v) (zsi 4 a3 0 v τ fun τ => some (.inl 0, τ)) none) P) : zm g Y_L_bottleneck R_L_bottleneck [(4, a0), (0, a1), (0, a2), (4, a3)] σ (zPc P) := by
  refine zm_ofH (by decide) (by intro q; cases q) (Nat.le_of_ble_eq_true rfl) ?_
  obtain ⟨r, hr, hv, hx⟩ := h
  refine r_aload_n 3 dL_bottleneck_0 rfl ?_
  refine r_iconst (v := 0) dL_bottleneck_1 rfl rfl ?_
  refine r_aload_n 0 dL_bottleneck_2 rfl ?_
  refine r_iload_n 1 dL_bottleneck_3 rfl ?_
  refine r_iload_n 2 dL_bottleneck_4 rfl ?_
  refine r_callVC (K' := Y_X7_bottleneck) (R' := R_X7_bottleneck) (idx := 37) (n := 2) (b := a0) (as := [(0, a1), (0, a2)]) (rest := [(0, 0), (4, a3)]) (cn := 7) (C' := 0) (D' := 0) k0_X7_bottleneck kV_X7_bottleneck kl_L_37 ⟨by decide, by decide⟩ dL_bottleneck_5 rfl rfl (Nat.le_of_ble_eq_true rfl) (by decide) (by decide) rfl hobj ⟨_, hr⟩ (fun r hr => m_X7_bottleneck hl0 ⟨r, hr, hr⟩) (fun ex τ n q hq hn => ?_) (fun v τ hq => ?_)
  · obtain ⟨c, hc, hP⟩ := hx ex τ (Option.some.inj (hr.symm.trans hq))
    rcases List.mem_cons.mp hc with e9 | hc
    · cases e9
      refine ⟨13, ⟨[], _, _, rfl, by decide, by decide, rfl, wl_834, wl_845, fun z hz => by cases hz⟩, ?_⟩
      refine r_astore (L' := (4, (4, (q : Int))) :: [(0, (4, a0)), (1, (0, a1)), (2, (0, a2)), (3, (4, a3))]) dL_bottleneck_13 (by decide) rfl ?_
      refine r_iconst (v := 1) dL_bottleneck_15 rfl rfl ?_
      exact r_iret rfl dL_bottleneck_16 ⟨_, rfl, 1, _, rfl, hP n hn⟩
    · cases hc
  · have h := hv v τ (Option.some.inj (hr.symm.trans hq))
    refine r_i2l dL_bottleneck_8 ?_
    refine r_last dL_bottleneck_9 h (fun τ h => ?_)
    refine r_goto 17 dL_bottleneck_10 (by decide) ?_
    refine r_iconst (v := 0) dL_bottleneck_17 rfl rfl ?_
    exact r_iret rfl dL_bottleneck_18 h

theorem m_L_mostTrusted {g : zF} (hl0 : g.2.2.2.1.stackTraces = false) {P : Int → zS → Prop} {a0 a1 a2 : Int} {σ : zS} (hobj : σ.1.1 a0 = some (0, 7)) (h : zcase (f_X7_mostTrusted a0 a1 σ) [(2, 1)] (fun v τ => @ite _ (zI v) (zID v) (zsi 4 a2 0 v τ fun τ => some (.inl 0, τ)) none) P) : zm g Y_L_mostTrusted R_L_mostTrusted [(4, a0), (0, a1), (4, a2)] σ (zPc P) := by
  refine zm_ofH (by decide) (by intro q; cases q) (Nat.le_of_ble_eq_true rfl) ?_
  obtain ⟨r, hr, hv, hx⟩ := h
  refine r_aload_n 2 dL_mostTrusted_0 rfl ?_
  refine r_iconst (v := 0) dL_mostTrusted_1 rfl rfl ?_
  refine r_aload_n 0 dL_mostTrusted_2 rfl ?_
  refine r_iload_n 1 dL_mostTrusted_3 rfl ?_
  refine r_callVC (K' := Y_X7_mostTrusted) (R' := R_X7_mostTrusted) (idx := 40) (n := 1) (b := a0) (as := [(0, a1)]) (rest := [(0, 0), (4, a2)]) (cn := 7) (C' := 0) (D' := 0) k0_X7_mostTrusted kV_X7_mostTrusted kl_L_40 ⟨by decide, by decide⟩ dL_mostTrusted_4 rfl rfl (Nat.le_of_ble_eq_true rfl) (by decide) (by decide) rfl hobj ⟨_, hr⟩ (fun r hr => m_X7_mostTrusted hl0 ⟨r, hr, hr⟩) (fun ex τ n q hq hn => ?_) (fun v τ hq => ?_)
  · obtain ⟨c, hc, hP⟩ := hx ex τ (Option.some.inj (hr.symm.trans hq))
    rcases List.mem_cons.mp hc with e9 | hc
    · cases e9
      refine ⟨12, ⟨[], _, _, rfl, by decide, by decide, rfl, wl_834, wl_845, fun z hz => by cases hz⟩, ?_⟩
      refine r_astore_n (L' := (3, (4, (q : Int))) :: [(0, (4, a0)), (1, (0, a1)), (2, (4, a2))]) dL_mostTrusted_12 (by decide) rfl ?_
      refine r_iconst (v := 1) dL_mostTrusted_13 rfl rfl ?_
      exact r_iret rfl dL_mostTrusted_14 ⟨_, rfl, 1, _, rfl, hP n hn⟩
    · cases hc
  · have h := hv v τ (Option.some.inj (hr.symm.trans hq))
    refine r_i2l dL_mostTrusted_7 ?_
    refine r_last dL_mostTrusted_8 h (fun τ h => ?_)
    refine r_goto 15 dL_mostTrusted_9 (by decide) ?_
    refine r_iconst (v := 0) dL_mostTrusted_15 rfl rfl ?_
    exact r_iret rfl dL_mostTrusted_16 h

theorem m_L_reports {g : zF} (hl0 : g.2.2.2.1.stackTraces = false) {P : Int → zS → Prop} {a0 a1 a2 : Int} {σ : zS} (hobj : σ.1.1 a0 = some (0, 7)) (h : zcase (f_X7_reports a0 a1 σ) [(2, 1)] (fun v τ => @ite _ (zI v) (zID v) (zsi 4 a2 0 v τ fun τ => some (.inl 0, τ)) none) P) : zm g Y_L_reports R_L_reports [(4, a0), (0, a1), (4, a2)] σ (zPc P) := by
  refine zm_ofH (by decide) (by intro q; cases q) (Nat.le_of_ble_eq_true rfl) ?_
  obtain ⟨r, hr, hv, hx⟩ := h
  refine r_aload_n 2 dL_reports_0 rfl ?_
  refine r_iconst (v := 0) dL_reports_1 rfl rfl ?_
  refine r_aload_n 0 dL_reports_2 rfl ?_
  refine r_iload_n 1 dL_reports_3 rfl ?_
  refine r_callVC (K' := Y_X7_reports) (R' := R_X7_reports) (idx := 43) (n := 1) (b := a0) (as := [(0, a1)]) (rest := [(0, 0), (4, a2)]) (cn := 7) (C' := 0) (D' := 0) k0_X7_reports kV_X7_reports kl_L_43 ⟨by decide, by decide⟩ dL_reports_4 rfl rfl (Nat.le_of_ble_eq_true rfl) (by decide) (by decide) rfl hobj ⟨_, hr⟩ (fun r hr => m_X7_reports hl0 ⟨r, hr, hr⟩) (fun ex τ n q hq hn => ?_) (fun v τ hq => ?_)
  · obtain ⟨c, hc, hP⟩ := hx ex τ (Option.some.inj (hr.symm.trans hq))
    rcases List.mem_cons.mp hc with e9 | hc
    · cases e9
      refine ⟨12, ⟨[], _, _, rfl, by decide, by decide, rfl, wl_834, wl_845, fun z hz => by cases hz⟩, ?_⟩
      refine r_astore_n (L' := (3, (4, (q : Int))) :: [(0, (4, a0)), (1, (0, a1)), (2, (4, a2))]) dL_reports_12 (by decide) rfl ?_
      refine r_iconst (v := 1) dL_reports_13 rfl rfl ?_
      exact r_iret rfl dL_reports_14 ⟨_, rfl, 1, _, rfl, hP n hn⟩
    · cases hc
  · have h := hv v τ (Option.some.inj (hr.symm.trans hq))
    refine r_i2l dL_reports_7 ?_
    refine r_last dL_reports_8 h (fun τ h => ?_)
    refine r_goto 15 dL_reports_9 (by decide) ?_
    refine r_iconst (v := 0) dL_reports_15 rfl rfl ?_
    exact r_iret rfl dL_reports_16 h

theorem m_L_report {g : zF} (hl0 : g.2.2.2.1.stackTraces = false) {P : Int → zS → Prop} {a0 a1 a2 a3 a4 : Int} {σ : zS} (hobj : σ.1.1 a0 = some (0, 7)) (h : zcase (f_X7_report a0 a1 a2 a3 σ) [(2, 1), (1, 2)] (fun v τ => @ite _ (zI v) (zID v) (zsi 4 a4 0 v τ fun τ => some (.inl 0, τ)) none) P) : zm g Y_L_report R_L_report [(4, a0), (0, a1), (0, a2), (0, a3), (4, a4)] σ (zPc P) := by
  refine zm_ofH (by decide) (by intro q; cases q) (Nat.le_of_ble_eq_true rfl) ?_
  obtain ⟨r, hr, hv, hx⟩ := h
  refine r_aload 4 dL_report_0 rfl ?_
  refine r_iconst (v := 0) dL_report_2 rfl rfl ?_
  refine r_aload_n 0 dL_report_3 rfl ?_
  refine r_iload_n 1 dL_report_4 rfl ?_
  refine r_iload_n 2 dL_report_5 rfl ?_
  refine r_iload_n 3 dL_report_6 rfl ?_
  refine r_callVC (K' := Y_X7_report) (R' := R_X7_report) (idx := 46) (n := 3) (b := a0) (as := [(0, a1), (0, a2), (0, a3)]) (rest := [(0, 0), (4, a4)]) (cn := 7) (C' := 0) (D' := 0) k0_X7_report kV_X7_report kl_L_46 ⟨by decide, by decide⟩ dL_report_7 rfl rfl (Nat.le_of_ble_eq_true rfl) (by decide) (by decide) rfl hobj ⟨_, hr⟩ (fun r hr => m_X7_report hl0 ⟨r, hr, hr⟩) (fun ex τ n q hq hn => ?_) (fun v τ hq => ?_)
  · obtain ⟨c, hc, hP⟩ := hx ex τ (Option.some.inj (hr.symm.trans hq))
    rcases List.mem_cons.mp hc with e9 | hc
    · cases e9
      refine ⟨15, ⟨[], _, _, rfl, by decide, by decide, rfl, wl_834, wl_845, fun z hz => by cases hz⟩, ?_⟩
      refine r_astore (L' := (5, (4, (q : Int))) :: [(0, (4, a0)), (1, (0, a1)), (2, (0, a2)), (3, (0, a3)), (4, (4, a4))]) dL_report_15 (by decide) rfl ?_
      refine r_iconst (v := 1) dL_report_17 rfl rfl ?_
      exact r_iret rfl dL_report_18 ⟨_, rfl, 1, _, rfl, hP n hn⟩
    rcases List.mem_cons.mp hc with e9 | hc
    · cases e9
      refine ⟨19, ⟨[_], _, _, rfl, by decide, by decide, rfl, wl_795, wl_805, fun z hz => by
        rcases List.mem_cons.mp hz with e8 | hz
        · rw [e8]; exact ⟨by decide, 2, wl_834, by decide⟩
        cases hz⟩, ?_⟩
      refine r_astore (L' := (5, (4, (q : Int))) :: [(0, (4, a0)), (1, (0, a1)), (2, (0, a2)), (3, (0, a3)), (4, (4, a4))]) dL_report_19 (by decide) rfl ?_
      refine r_iconst (v := 2) dL_report_21 rfl rfl ?_
      exact r_iret rfl dL_report_22 ⟨_, rfl, 2, _, rfl, hP n hn⟩
    · cases hc
  · have h := hv v τ (Option.some.inj (hr.symm.trans hq))
    refine r_i2l dL_report_10 ?_
    refine r_last dL_report_11 h (fun τ h => ?_)
    refine r_goto 23 dL_report_12 (by decide) ?_
    refine r_iconst (v := 0) dL_report_23 rfl rfl ?_
    exact r_iret rfl dL_report_24 h

theorem m_L_status {g : zF} (hl0 : g.2.2.2.1.stackTraces = false) {P : Int → zS → Prop} {a0 a1 a2 a3 : Int} {σ : zS} (hobj : σ.1.1 a0 = some (0, 7)) (h : zcase (f_X7_status a0 a1 a2 σ) [(2, 1)] (fun v τ => @ite _ (zI v) (zID v) (zsi 4 a3 0 v τ fun τ => some (.inl 0, τ)) none) P) : zm g Y_L_status R_L_status [(4, a0), (0, a1), (0, a2), (4, a3)] σ (zPc P) := by
  refine zm_ofH (by decide) (by intro q; cases q) (Nat.le_of_ble_eq_true rfl) ?_
  obtain ⟨r, hr, hv, hx⟩ := h
  refine r_aload_n 3 dL_status_0 rfl ?_
  refine r_iconst (v := 0) dL_status_1 rfl rfl ?_
  refine r_aload_n 0 dL_status_2 rfl ?_
  refine r_iload_n 1 dL_status_3 rfl ?_
  refine r_iload_n 2 dL_status_4 rfl ?_
  refine r_callVC (K' := Y_X7_status) (R' := R_X7_status) (idx := 50) (n := 2) (b := a0) (as := [(0, a1), (0, a2)]) (rest := [(0, 0), (4, a3)]) (cn := 7) (C' := 0) (D' := 0) k0_X7_status kV_X7_status kl_L_50 ⟨by decide, by decide⟩ dL_status_5 rfl rfl (Nat.le_of_ble_eq_true rfl) (by decide) (by decide) rfl hobj ⟨_, hr⟩ (fun r hr => m_X7_status hl0 ⟨r, hr, hr⟩) (fun ex τ n q hq hn => ?_) (fun v τ hq => ?_)
  · obtain ⟨c, hc, hP⟩ := hx ex τ (Option.some.inj (hr.symm.trans hq))
    rcases List.mem_cons.mp hc with e9 | hc
    · cases e9
      refine ⟨13, ⟨[], _, _, rfl, by decide, by decide, rfl, wl_834, wl_845, fun z hz => by cases hz⟩, ?_⟩
      refine r_astore (L' := (4, (4, (q : Int))) :: [(0, (4, a0)), (1, (0, a1)), (2, (0, a2)), (3, (4, a3))]) dL_status_13 (by decide) rfl ?_
      refine r_iconst (v := 1) dL_status_15 rfl rfl ?_
      exact r_iret rfl dL_status_16 ⟨_, rfl, 1, _, rfl, hP n hn⟩
    · cases hc
  · have h := hv v τ (Option.some.inj (hr.symm.trans hq))
    refine r_i2l dL_status_8 ?_
    refine r_last dL_status_9 h (fun τ h => ?_)
    refine r_goto 17 dL_status_10 (by decide) ?_
    refine r_iconst (v := 0) dL_status_17 rfl rfl ?_
    exact r_iret rfl dL_status_18 h

theorem m_L_moved {g : zF} (hl0 : g.2.2.2.1.stackTraces = false) {P : Int → zS → Prop} {a0 a1 a2 a3 a4 : Int} {σ : zS} (hobj : σ.1.1 a0 = some (0, 7)) (h : zcase (f_X7_moved a0 a1 a2 a3 σ) [(2, 1), (1, 2)] (fun v τ => @ite _ (zI v) (zID v) (zsi 4 a4 0 v τ fun τ => some (.inl 0, τ)) none) P) : zm g Y_L_moved R_L_moved [(4, a0), (0, a1), (0, a2), (0, a3), (4, a4)] σ (zPc P) := by
  refine zm_ofH (by decide) (by intro q; cases q) (Nat.le_of_ble_eq_true rfl) ?_
  obtain ⟨r, hr, hv, hx⟩ := h
  refine r_aload 4 dL_moved_0 rfl ?_
  refine r_iconst (v := 0) dL_moved_2 rfl rfl ?_
  refine r_aload_n 0 dL_moved_3 rfl ?_
  refine r_iload_n 1 dL_moved_4 rfl ?_
  refine r_iload_n 2 dL_moved_5 rfl ?_
  refine r_iload_n 3 dL_moved_6 rfl ?_
  refine r_callVC (K' := Y_X7_moved) (R' := R_X7_moved) (idx := 53) (n := 3) (b := a0) (as := [(0, a1), (0, a2), (0, a3)]) (rest := [(0, 0), (4, a4)]) (cn := 7) (C' := 0) (D' := 0) k0_X7_moved kV_X7_moved kl_L_53 ⟨by decide, by decide⟩ dL_moved_7 rfl rfl (Nat.le_of_ble_eq_true rfl) (by decide) (by decide) rfl hobj ⟨_, hr⟩ (fun r hr => m_X7_moved hl0 ⟨r, hr, hr⟩) (fun ex τ n q hq hn => ?_) (fun v τ hq => ?_)
  · obtain ⟨c, hc, hP⟩ := hx ex τ (Option.some.inj (hr.symm.trans hq))
    rcases List.mem_cons.mp hc with e9 | hc
    · cases e9
      refine ⟨15, ⟨[], _, _, rfl, by decide, by decide, rfl, wl_834, wl_845, fun z hz => by cases hz⟩, ?_⟩
      refine r_astore (L' := (5, (4, (q : Int))) :: [(0, (4, a0)), (1, (0, a1)), (2, (0, a2)), (3, (0, a3)), (4, (4, a4))]) dL_moved_15 (by decide) rfl ?_
      refine r_iconst (v := 1) dL_moved_17 rfl rfl ?_
      exact r_iret rfl dL_moved_18 ⟨_, rfl, 1, _, rfl, hP n hn⟩
    rcases List.mem_cons.mp hc with e9 | hc
    · cases e9
      refine ⟨19, ⟨[_], _, _, rfl, by decide, by decide, rfl, wl_795, wl_805, fun z hz => by
        rcases List.mem_cons.mp hz with e8 | hz
        · rw [e8]; exact ⟨by decide, 2, wl_834, by decide⟩
        cases hz⟩, ?_⟩
      refine r_astore (L' := (5, (4, (q : Int))) :: [(0, (4, a0)), (1, (0, a1)), (2, (0, a2)), (3, (0, a3)), (4, (4, a4))]) dL_moved_19 (by decide) rfl ?_
      refine r_iconst (v := 2) dL_moved_21 rfl rfl ?_
      exact r_iret rfl dL_moved_22 ⟨_, rfl, 2, _, rfl, hP n hn⟩
    · cases hc
  · have h := hv v τ (Option.some.inj (hr.symm.trans hq))
    refine r_i2l dL_moved_10 ?_
    refine r_last dL_moved_11 h (fun τ h => ?_)
    refine r_goto 23 dL_moved_12 (by decide) ?_
    refine r_iconst (v := 0) dL_moved_23 rfl rfl ?_
    exact r_iret rfl dL_moved_24 h

theorem m_L_own {g : zF} (hl0 : g.2.2.2.1.stackTraces = false) {P : Int → zS → Prop} {a0 a1 a2 a3 : Int} {σ : zS} (hobj : σ.1.1 a0 = some (0, 7)) (h : zcase (f_X7_own a0 a1 a2 σ) [(2, 1)] (fun v τ => @ite _ (zI v) (zID v) (zsi 4 a3 0 v τ fun τ => some (.inl 0, τ)) none) P) : zm g Y_L_own R_L_own [(4, a0), (0, a1), (0, a2), (4, a3)] σ (zPc P) := by
  refine zm_ofH (by decide) (by intro q; cases q) (Nat.le_of_ble_eq_true rfl) ?_
  obtain ⟨r, hr, hv, hx⟩ := h
  refine r_aload_n 3 dL_own_0 rfl ?_
  refine r_iconst (v := 0) dL_own_1 rfl rfl ?_
  refine r_aload_n 0 dL_own_2 rfl ?_
  refine r_iload_n 1 dL_own_3 rfl ?_
  refine r_iload_n 2 dL_own_4 rfl ?_
  refine r_callVC (K' := Y_X7_own) (R' := R_X7_own) (idx := 56) (n := 2) (b := a0) (as := [(0, a1), (0, a2)]) (rest := [(0, 0), (4, a3)]) (cn := 7) (C' := 0) (D' := 0) k0_X7_own kV_X7_own kl_L_56 ⟨by decide, by decide⟩ dL_own_5 rfl rfl (Nat.le_of_ble_eq_true rfl) (by decide) (by decide) rfl hobj ⟨_, hr⟩ (fun r hr => m_X7_own hl0 ⟨r, hr, hr⟩) (fun ex τ n q hq hn => ?_) (fun v τ hq => ?_)
  · obtain ⟨c, hc, hP⟩ := hx ex τ (Option.some.inj (hr.symm.trans hq))
    rcases List.mem_cons.mp hc with e9 | hc
    · cases e9
      refine ⟨13, ⟨[], _, _, rfl, by decide, by decide, rfl, wl_834, wl_845, fun z hz => by cases hz⟩, ?_⟩
      refine r_astore (L' := (4, (4, (q : Int))) :: [(0, (4, a0)), (1, (0, a1)), (2, (0, a2)), (3, (4, a3))]) dL_own_13 (by decide) rfl ?_
      refine r_iconst (v := 1) dL_own_15 rfl rfl ?_
      exact r_iret rfl dL_own_16 ⟨_, rfl, 1, _, rfl, hP n hn⟩
    · cases hc
  · have h := hv v τ (Option.some.inj (hr.symm.trans hq))
    refine r_i2l dL_own_8 ?_
    refine r_last dL_own_9 h (fun τ h => ?_)
    refine r_goto 17 dL_own_10 (by decide) ?_
    refine r_iconst (v := 0) dL_own_17 rfl rfl ?_
    exact r_iret rfl dL_own_18 h

theorem m_L_belief {g : zF} (hl0 : g.2.2.2.1.stackTraces = false) {P : Int → zS → Prop} {a0 a1 a2 a3 a4 : Int} {σ : zS} (hobj : σ.1.1 a0 = some (0, 7)) (h : zcase (f_X7_belief a0 a1 a2 a3 σ) [(2, 1), (1, 2)] (fun v τ => @ite _ (zI v) (zID v) (zsi 4 a4 0 v τ fun τ => some (.inl 0, τ)) none) P) : zm g Y_L_belief R_L_belief [(4, a0), (0, a1), (0, a2), (0, a3), (4, a4)] σ (zPc P) := by
  refine zm_ofH (by decide) (by intro q; cases q) (Nat.le_of_ble_eq_true rfl) ?_
  obtain ⟨r, hr, hv, hx⟩ := h
  refine r_aload 4 dL_belief_0 rfl ?_
  refine r_iconst (v := 0) dL_belief_2 rfl rfl ?_
  refine r_aload_n 0 dL_belief_3 rfl ?_
  refine r_iload_n 1 dL_belief_4 rfl ?_
  refine r_iload_n 2 dL_belief_5 rfl ?_
  refine r_iload_n 3 dL_belief_6 rfl ?_
  refine r_callVC (K' := Y_X7_belief) (R' := R_X7_belief) (idx := 59) (n := 3) (b := a0) (as := [(0, a1), (0, a2), (0, a3)]) (rest := [(0, 0), (4, a4)]) (cn := 7) (C' := 0) (D' := 0) k0_X7_belief kV_X7_belief kl_L_59 ⟨by decide, by decide⟩ dL_belief_7 rfl rfl (Nat.le_of_ble_eq_true rfl) (by decide) (by decide) rfl hobj ⟨_, hr⟩ (fun r hr => m_X7_belief hl0 ⟨r, hr, hr⟩) (fun ex τ n q hq hn => ?_) (fun v τ hq => ?_)
  · obtain ⟨c, hc, hP⟩ := hx ex τ (Option.some.inj (hr.symm.trans hq))
    rcases List.mem_cons.mp hc with e9 | hc
    · cases e9
      refine ⟨15, ⟨[], _, _, rfl, by decide, by decide, rfl, wl_834, wl_845, fun z hz => by cases hz⟩, ?_⟩
      refine r_astore (L' := (5, (4, (q : Int))) :: [(0, (4, a0)), (1, (0, a1)), (2, (0, a2)), (3, (0, a3)), (4, (4, a4))]) dL_belief_15 (by decide) rfl ?_
      refine r_iconst (v := 1) dL_belief_17 rfl rfl ?_
      exact r_iret rfl dL_belief_18 ⟨_, rfl, 1, _, rfl, hP n hn⟩
    rcases List.mem_cons.mp hc with e9 | hc
    · cases e9
      refine ⟨19, ⟨[_], _, _, rfl, by decide, by decide, rfl, wl_795, wl_805, fun z hz => by
        rcases List.mem_cons.mp hz with e8 | hz
        · rw [e8]; exact ⟨by decide, 2, wl_834, by decide⟩
        cases hz⟩, ?_⟩
      refine r_astore (L' := (5, (4, (q : Int))) :: [(0, (4, a0)), (1, (0, a1)), (2, (0, a2)), (3, (0, a3)), (4, (4, a4))]) dL_belief_19 (by decide) rfl ?_
      refine r_iconst (v := 2) dL_belief_21 rfl rfl ?_
      exact r_iret rfl dL_belief_22 ⟨_, rfl, 2, _, rfl, hP n hn⟩
    · cases hc
  · have h := hv v τ (Option.some.inj (hr.symm.trans hq))
    refine r_i2l dL_belief_10 ?_
    refine r_last dL_belief_11 h (fun τ h => ?_)
    refine r_goto 23 dL_belief_12 (by decide) ?_
    refine r_iconst (v := 0) dL_belief_23 rfl rfl ?_
    exact r_iret rfl dL_belief_24 h

theorem m_L_sources {g : zF} (hl0 : g.2.2.2.1.stackTraces = false) {P : Int → zS → Prop} {a0 a1 a2 a3 : Int} {σ : zS} (hobj : σ.1.1 a0 = some (0, 7)) (h : zcase (f_X7_sources a0 a1 a2 σ) [(2, 1)] (fun v τ => @ite _ (zI v) (zID v) (zsi 4 a3 0 v τ fun τ => some (.inl 0, τ)) none) P) : zm g Y_L_sources R_L_sources [(4, a0), (0, a1), (0, a2), (4, a3)] σ (zPc P) := by
  refine zm_ofH (by decide) (by intro q; cases q) (Nat.le_of_ble_eq_true rfl) ?_
  obtain ⟨r, hr, hv, hx⟩ := h
  refine r_aload_n 3 dL_sources_0 rfl ?_
  refine r_iconst (v := 0) dL_sources_1 rfl rfl ?_
  refine r_aload_n 0 dL_sources_2 rfl ?_
  refine r_iload_n 1 dL_sources_3 rfl ?_
  refine r_iload_n 2 dL_sources_4 rfl ?_
  refine r_callVC (K' := Y_X7_sources) (R' := R_X7_sources) (idx := 62) (n := 2) (b := a0) (as := [(0, a1), (0, a2)]) (rest := [(0, 0), (4, a3)]) (cn := 7) (C' := 0) (D' := 0) k0_X7_sources kV_X7_sources kl_L_62 ⟨by decide, by decide⟩ dL_sources_5 rfl rfl (Nat.le_of_ble_eq_true rfl) (by decide) (by decide) rfl hobj ⟨_, hr⟩ (fun r hr => m_X7_sources hl0 ⟨r, hr, hr⟩) (fun ex τ n q hq hn => ?_) (fun v τ hq => ?_)
  · obtain ⟨c, hc, hP⟩ := hx ex τ (Option.some.inj (hr.symm.trans hq))
    rcases List.mem_cons.mp hc with e9 | hc
    · cases e9
      refine ⟨13, ⟨[], _, _, rfl, by decide, by decide, rfl, wl_834, wl_845, fun z hz => by cases hz⟩, ?_⟩
      refine r_astore (L' := (4, (4, (q : Int))) :: [(0, (4, a0)), (1, (0, a1)), (2, (0, a2)), (3, (4, a3))]) dL_sources_13 (by decide) rfl ?_
      refine r_iconst (v := 1) dL_sources_15 rfl rfl ?_
      exact r_iret rfl dL_sources_16 ⟨_, rfl, 1, _, rfl, hP n hn⟩
    · cases hc
  · have h := hv v τ (Option.some.inj (hr.symm.trans hq))
    refine r_i2l dL_sources_8 ?_
    refine r_last dL_sources_9 h (fun τ h => ?_)
    refine r_goto 17 dL_sources_10 (by decide) ?_
    refine r_iconst (v := 0) dL_sources_17 rfl rfl ?_
    exact r_iret rfl dL_sources_18 h

theorem m_L_contradicted {g : zF} (hl0 : g.2.2.2.1.stackTraces = false) {P : Int → zS → Prop} {a0 a1 a2 a3 : Int} {σ : zS} (hobj : σ.1.1 a0 = some (0, 7)) (h : zcase (f_X7_contradicted a0 a1 a2 σ) [(2, 1)] (fun v τ => @ite _ (zI v) (zID v) (zsi 4 a3 0 v τ fun τ => some (.inl 0, τ)) none) P) : zm g Y_L_contradicted R_L_contradicted [(4, a0), (0, a1), (0, a2), (4, a3)] σ (zPc P) := by
  refine zm_ofH (by decide) (by intro q; cases q) (Nat.le_of_ble_eq_true rfl) ?_
  obtain ⟨r, hr, hv, hx⟩ := h
  refine r_aload_n 3 dL_contradicted_0 rfl ?_
  refine r_iconst (v := 0) dL_contradicted_1 rfl rfl ?_
  refine r_aload_n 0 dL_contradicted_2 rfl ?_
  refine r_iload_n 1 dL_contradicted_3 rfl ?_
  refine r_iload_n 2 dL_contradicted_4 rfl ?_
  refine r_callVC (K' := Y_X7_contradicted) (R' := R_X7_contradicted) (idx := 65) (n := 2) (b := a0) (as := [(0, a1), (0, a2)]) (rest := [(0, 0), (4, a3)]) (cn := 7) (C' := 0) (D' := 0) k0_X7_contradicted kV_X7_contradicted kl_L_65 ⟨by decide, by decide⟩ dL_contradicted_5 rfl rfl (Nat.le_of_ble_eq_true rfl) (by decide) (by decide) rfl hobj ⟨_, hr⟩ (fun r hr => m_X7_contradicted hl0 ⟨r, hr, hr⟩) (fun ex τ n q hq hn => ?_) (fun v τ hq => ?_)
  · obtain ⟨c, hc, hP⟩ := hx ex τ (Option.some.inj (hr.symm.trans hq))
    rcases List.mem_cons.mp hc with e9 | hc
    · cases e9
      refine ⟨13, ⟨[], _, _, rfl, by decide, by decide, rfl, wl_834, wl_845, fun z hz => by cases hz⟩, ?_⟩
      refine r_astore (L' := (4, (4, (q : Int))) :: [(0, (4, a0)), (1, (0, a1)), (2, (0, a2)), (3, (4, a3))]) dL_contradicted_13 (by decide) rfl ?_
      refine r_iconst (v := 1) dL_contradicted_15 rfl rfl ?_
      exact r_iret rfl dL_contradicted_16 ⟨_, rfl, 1, _, rfl, hP n hn⟩
    · cases hc
  · have h := hv v τ (Option.some.inj (hr.symm.trans hq))
    refine r_i2l dL_contradicted_8 ?_
    refine r_last dL_contradicted_9 h (fun τ h => ?_)
    refine r_goto 17 dL_contradicted_10 (by decide) ?_
    refine r_iconst (v := 0) dL_contradicted_17 rfl rfl ?_
    exact r_iret rfl dL_contradicted_18 h

theorem m_L_majority {g : zF} (hl0 : g.2.2.2.1.stackTraces = false) {P : Int → zS → Prop} {a0 a1 a2 a3 : Int} {σ : zS} (hobj : σ.1.1 a0 = some (0, 7)) (h : zcase (f_X7_majority a0 a1 a2 σ) [(2, 1)] (fun v τ => @ite _ (zI v) (zID v) (zsi 4 a3 0 v τ fun τ => some (.inl 0, τ)) none) P) : zm g Y_L_majority R_L_majority [(4, a0), (0, a1), (0, a2), (4, a3)] σ (zPc P) := by
  refine zm_ofH (by decide) (by intro q; cases q) (Nat.le_of_ble_eq_true rfl) ?_
  obtain ⟨r, hr, hv, hx⟩ := h
  refine r_aload_n 3 dL_majority_0 rfl ?_
  refine r_iconst (v := 0) dL_majority_1 rfl rfl ?_
  refine r_aload_n 0 dL_majority_2 rfl ?_
  refine r_iload_n 1 dL_majority_3 rfl ?_
  refine r_iload_n 2 dL_majority_4 rfl ?_
  refine r_callVC (K' := Y_X7_majority) (R' := R_X7_majority) (idx := 68) (n := 2) (b := a0) (as := [(0, a1), (0, a2)]) (rest := [(0, 0), (4, a3)]) (cn := 7) (C' := 0) (D' := 0) k0_X7_majority kV_X7_majority kl_L_68 ⟨by decide, by decide⟩ dL_majority_5 rfl rfl (Nat.le_of_ble_eq_true rfl) (by decide) (by decide) rfl hobj ⟨_, hr⟩ (fun r hr => m_X7_majority hl0 ⟨r, hr, hr⟩) (fun ex τ n q hq hn => ?_) (fun v τ hq => ?_)
  · obtain ⟨c, hc, hP⟩ := hx ex τ (Option.some.inj (hr.symm.trans hq))
    rcases List.mem_cons.mp hc with e9 | hc
    · cases e9
      refine ⟨13, ⟨[], _, _, rfl, by decide, by decide, rfl, wl_834, wl_845, fun z hz => by cases hz⟩, ?_⟩
      refine r_astore (L' := (4, (4, (q : Int))) :: [(0, (4, a0)), (1, (0, a1)), (2, (0, a2)), (3, (4, a3))]) dL_majority_13 (by decide) rfl ?_
      refine r_iconst (v := 1) dL_majority_15 rfl rfl ?_
      exact r_iret rfl dL_majority_16 ⟨_, rfl, 1, _, rfl, hP n hn⟩
    · cases hc
  · have h := hv v τ (Option.some.inj (hr.symm.trans hq))
    refine r_i2l dL_majority_8 ?_
    refine r_last dL_majority_9 h (fun τ h => ?_)
    refine r_goto 17 dL_majority_10 (by decide) ?_
    refine r_iconst (v := 0) dL_majority_17 rfl rfl ?_
    exact r_iret rfl dL_majority_18 h

theorem m_L_majorityBound {g : zF} (hl0 : g.2.2.2.1.stackTraces = false) {P : Int → zS → Prop} {a0 a1 a2 a3 a4 : Int} {σ : zS} (hobj : σ.1.1 a0 = some (0, 7)) (h : zcase (f_X7_majorityBound a0 a1 a2 a3 σ) [(2, 1), (1, 2)] (fun v τ => @ite _ (zI v) (zID v) (zsi 4 a4 0 v τ fun τ => some (.inl 0, τ)) none) P) : zm g Y_L_majorityBound R_L_majorityBound [(4, a0), (0, a1), (0, a2), (0, a3), (4, a4)] σ (zPc P) := by
  refine zm_ofH (by decide) (by intro q; cases q) (Nat.le_of_ble_eq_true rfl) ?_
  obtain ⟨r, hr, hv, hx⟩ := h
  refine r_aload 4 dL_majorityBound_0 rfl ?_
  refine r_iconst (v := 0) dL_majorityBound_2 rfl rfl ?_
  refine r_aload_n 0 dL_majorityBound_3 rfl ?_
  refine r_iload_n 1 dL_majorityBound_4 rfl ?_
  refine r_iload_n 2 dL_majorityBound_5 rfl ?_
  refine r_iload_n 3 dL_majorityBound_6 rfl ?_
  refine r_callVC (K' := Y_X7_majorityBound) (R' := R_X7_majorityBound) (idx := 71) (n := 3) (b := a0) (as := [(0, a1), (0, a2), (0, a3)]) (rest := [(0, 0), (4, a4)]) (cn := 7) (C' := 0) (D' := 0) k0_X7_majorityBound kV_X7_majorityBound kl_L_71 ⟨by decide, by decide⟩ dL_majorityBound_7 rfl rfl (Nat.le_of_ble_eq_true rfl) (by decide) (by decide) rfl hobj ⟨_, hr⟩ (fun r hr => m_X7_majorityBound hl0 ⟨r, hr, hr⟩) (fun ex τ n q hq hn => ?_) (fun v τ hq => ?_)
  · obtain ⟨c, hc, hP⟩ := hx ex τ (Option.some.inj (hr.symm.trans hq))
    rcases List.mem_cons.mp hc with e9 | hc
    · cases e9
      refine ⟨15, ⟨[], _, _, rfl, by decide, by decide, rfl, wl_834, wl_845, fun z hz => by cases hz⟩, ?_⟩
      refine r_astore (L' := (5, (4, (q : Int))) :: [(0, (4, a0)), (1, (0, a1)), (2, (0, a2)), (3, (0, a3)), (4, (4, a4))]) dL_majorityBound_15 (by decide) rfl ?_
      refine r_iconst (v := 1) dL_majorityBound_17 rfl rfl ?_
      exact r_iret rfl dL_majorityBound_18 ⟨_, rfl, 1, _, rfl, hP n hn⟩
    rcases List.mem_cons.mp hc with e9 | hc
    · cases e9
      refine ⟨19, ⟨[_], _, _, rfl, by decide, by decide, rfl, wl_795, wl_805, fun z hz => by
        rcases List.mem_cons.mp hz with e8 | hz
        · rw [e8]; exact ⟨by decide, 2, wl_834, by decide⟩
        cases hz⟩, ?_⟩
      refine r_astore (L' := (5, (4, (q : Int))) :: [(0, (4, a0)), (1, (0, a1)), (2, (0, a2)), (3, (0, a3)), (4, (4, a4))]) dL_majorityBound_19 (by decide) rfl ?_
      refine r_iconst (v := 2) dL_majorityBound_21 rfl rfl ?_
      exact r_iret rfl dL_majorityBound_22 ⟨_, rfl, 2, _, rfl, hP n hn⟩
    · cases hc
  · have h := hv v τ (Option.some.inj (hr.symm.trans hq))
    refine r_i2l dL_majorityBound_10 ?_
    refine r_last dL_majorityBound_11 h (fun τ h => ?_)
    refine r_goto 23 dL_majorityBound_12 (by decide) ?_
    refine r_iconst (v := 0) dL_majorityBound_23 rfl rfl ?_
    exact r_iret rfl dL_majorityBound_24 h

theorem m_L_best {g : zF} (hl0 : g.2.2.2.1.stackTraces = false) {P : Int → zS → Prop} {a0 a1 a2 a3 : Int} {σ : zS} (hobj : σ.1.1 a0 = some (0, 7)) (h : zcase (f_X7_best a0 a1 a2 σ) [(2, 1), (1, 2)] (fun v τ => @ite _ (zI v) (zID v) (zsi 4 a3 0 v τ fun τ => some (.inl 0, τ)) none) P) : zm g Y_L_best R_L_best [(4, a0), (0, a1), (0, a2), (4, a3)] σ (zPc P) := by
  refine zm_ofH (by decide) (by intro q; cases q) (Nat.le_of_ble_eq_true rfl) ?_
  obtain ⟨r, hr, hv, hx⟩ := h
  refine r_aload_n 3 dL_best_0 rfl ?_
  refine r_iconst (v := 0) dL_best_1 rfl rfl ?_
  refine r_aload_n 0 dL_best_2 rfl ?_
  refine r_iload_n 1 dL_best_3 rfl ?_
  refine r_iload_n 2 dL_best_4 rfl ?_
  refine r_callVC (K' := Y_X7_best) (R' := R_X7_best) (idx := 74) (n := 2) (b := a0) (as := [(0, a1), (0, a2)]) (rest := [(0, 0), (4, a3)]) (cn := 7) (C' := 0) (D' := 0) k0_X7_best kV_X7_best kl_L_74 ⟨by decide, by decide⟩ dL_best_5 rfl rfl (Nat.le_of_ble_eq_true rfl) (by decide) (by decide) rfl hobj ⟨_, hr⟩ (fun r hr => m_X7_best hl0 ⟨r, hr, hr⟩) (fun ex τ n q hq hn => ?_) (fun v τ hq => ?_)
  · obtain ⟨c, hc, hP⟩ := hx ex τ (Option.some.inj (hr.symm.trans hq))
    rcases List.mem_cons.mp hc with e9 | hc
    · cases e9
      refine ⟨13, ⟨[], _, _, rfl, by decide, by decide, rfl, wl_834, wl_845, fun z hz => by cases hz⟩, ?_⟩
      refine r_astore (L' := (4, (4, (q : Int))) :: [(0, (4, a0)), (1, (0, a1)), (2, (0, a2)), (3, (4, a3))]) dL_best_13 (by decide) rfl ?_
      refine r_iconst (v := 1) dL_best_15 rfl rfl ?_
      exact r_iret rfl dL_best_16 ⟨_, rfl, 1, _, rfl, hP n hn⟩
    rcases List.mem_cons.mp hc with e9 | hc
    · cases e9
      refine ⟨17, ⟨[_], _, _, rfl, by decide, by decide, rfl, wl_795, wl_805, fun z hz => by
        rcases List.mem_cons.mp hz with e8 | hz
        · rw [e8]; exact ⟨by decide, 2, wl_834, by decide⟩
        cases hz⟩, ?_⟩
      refine r_astore (L' := (4, (4, (q : Int))) :: [(0, (4, a0)), (1, (0, a1)), (2, (0, a2)), (3, (4, a3))]) dL_best_17 (by decide) rfl ?_
      refine r_iconst (v := 2) dL_best_19 rfl rfl ?_
      exact r_iret rfl dL_best_20 ⟨_, rfl, 2, _, rfl, hP n hn⟩
    · cases hc
  · have h := hv v τ (Option.some.inj (hr.symm.trans hq))
    refine r_i2l dL_best_8 ?_
    refine r_last dL_best_9 h (fun τ h => ?_)
    refine r_goto 21 dL_best_10 (by decide) ?_
    refine r_iconst (v := 0) dL_best_21 rfl rfl ?_
    exact r_iret rfl dL_best_22 h

theorem m_L_rivals {g : zF} (hl0 : g.2.2.2.1.stackTraces = false) {P : Int → zS → Prop} {a0 a1 a2 : Int} {σ : zS} (hobj : σ.1.1 a0 = some (0, 7)) (h : zcase (f_X7_rivals a0 a1 σ) [(2, 1)] (fun v τ => @ite _ (zI v) (zID v) (zsi 4 a2 0 v τ fun τ => some (.inl 0, τ)) none) P) : zm g Y_L_rivals R_L_rivals [(4, a0), (0, a1), (4, a2)] σ (zPc P) := by
  refine zm_ofH (by decide) (by intro q; cases q) (Nat.le_of_ble_eq_true rfl) ?_
  obtain ⟨r, hr, hv, hx⟩ := h
  refine r_aload_n 2 dL_rivals_0 rfl ?_
  refine r_iconst (v := 0) dL_rivals_1 rfl rfl ?_
  refine r_aload_n 0 dL_rivals_2 rfl ?_
  refine r_iload_n 1 dL_rivals_3 rfl ?_
  refine r_callVC (K' := Y_X7_rivals) (R' := R_X7_rivals) (idx := 77) (n := 1) (b := a0) (as := [(0, a1)]) (rest := [(0, 0), (4, a2)]) (cn := 7) (C' := 0) (D' := 0) k0_X7_rivals kV_X7_rivals kl_L_77 ⟨by decide, by decide⟩ dL_rivals_4 rfl rfl (Nat.le_of_ble_eq_true rfl) (by decide) (by decide) rfl hobj ⟨_, hr⟩ (fun r hr => m_X7_rivals hl0 ⟨r, hr, hr⟩) (fun ex τ n q hq hn => ?_) (fun v τ hq => ?_)
  · obtain ⟨c, hc, hP⟩ := hx ex τ (Option.some.inj (hr.symm.trans hq))
    rcases List.mem_cons.mp hc with e9 | hc
    · cases e9
      refine ⟨12, ⟨[], _, _, rfl, by decide, by decide, rfl, wl_834, wl_845, fun z hz => by cases hz⟩, ?_⟩
      refine r_astore_n (L' := (3, (4, (q : Int))) :: [(0, (4, a0)), (1, (0, a1)), (2, (4, a2))]) dL_rivals_12 (by decide) rfl ?_
      refine r_iconst (v := 1) dL_rivals_13 rfl rfl ?_
      exact r_iret rfl dL_rivals_14 ⟨_, rfl, 1, _, rfl, hP n hn⟩
    · cases hc
  · have h := hv v τ (Option.some.inj (hr.symm.trans hq))
    refine r_i2l dL_rivals_7 ?_
    refine r_last dL_rivals_8 h (fun τ h => ?_)
    refine r_goto 15 dL_rivals_9 (by decide) ?_
    refine r_iconst (v := 0) dL_rivals_15 rfl rfl ?_
    exact r_iret rfl dL_rivals_16 h

theorem m_L_nextProbe {g : zF} (hl0 : g.2.2.2.1.stackTraces = false) {P : Int → zS → Prop} {a0 a1 a2 : Int} {σ : zS} (hobj : σ.1.1 a0 = some (0, 7)) (h : zcase (f_X7_nextProbe a0 a1 σ) [(2, 1)] (fun v τ => @ite _ (zI v) (zID v) (zsi 4 a2 0 v τ fun τ => some (.inl 0, τ)) none) P) : zm g Y_L_nextProbe R_L_nextProbe [(4, a0), (0, a1), (4, a2)] σ (zPc P) := by
  refine zm_ofH (by decide) (by intro q; cases q) (Nat.le_of_ble_eq_true rfl) ?_
  obtain ⟨r, hr, hv, hx⟩ := h
  refine r_aload_n 2 dL_nextProbe_0 rfl ?_
  refine r_iconst (v := 0) dL_nextProbe_1 rfl rfl ?_
  refine r_aload_n 0 dL_nextProbe_2 rfl ?_
  refine r_iload_n 1 dL_nextProbe_3 rfl ?_
  refine r_callVC (K' := Y_X7_nextProbe) (R' := R_X7_nextProbe) (idx := 80) (n := 1) (b := a0) (as := [(0, a1)]) (rest := [(0, 0), (4, a2)]) (cn := 7) (C' := 0) (D' := 0) k0_X7_nextProbe kV_X7_nextProbe kl_L_80 ⟨by decide, by decide⟩ dL_nextProbe_4 rfl rfl (Nat.le_of_ble_eq_true rfl) (by decide) (by decide) rfl hobj ⟨_, hr⟩ (fun r hr => m_X7_nextProbe hl0 ⟨r, hr, hr⟩) (fun ex τ n q hq hn => ?_) (fun v τ hq => ?_)
  · obtain ⟨c, hc, hP⟩ := hx ex τ (Option.some.inj (hr.symm.trans hq))
    rcases List.mem_cons.mp hc with e9 | hc
    · cases e9
      refine ⟨12, ⟨[], _, _, rfl, by decide, by decide, rfl, wl_834, wl_845, fun z hz => by cases hz⟩, ?_⟩
      refine r_astore_n (L' := (3, (4, (q : Int))) :: [(0, (4, a0)), (1, (0, a1)), (2, (4, a2))]) dL_nextProbe_12 (by decide) rfl ?_
      refine r_iconst (v := 1) dL_nextProbe_13 rfl rfl ?_
      exact r_iret rfl dL_nextProbe_14 ⟨_, rfl, 1, _, rfl, hP n hn⟩
    · cases hc
  · have h := hv v τ (Option.some.inj (hr.symm.trans hq))
    refine r_i2l dL_nextProbe_7 ?_
    refine r_last dL_nextProbe_8 h (fun τ h => ?_)
    refine r_goto 15 dL_nextProbe_9 (by decide) ?_
    refine r_iconst (v := 0) dL_nextProbe_15 rfl rfl ?_
    exact r_iret rfl dL_nextProbe_16 h

theorem m_L_regret {g : zF} (hl0 : g.2.2.2.1.stackTraces = false) {P : Int → zS → Prop} {a0 a1 a2 : Int} {σ : zS} (hobj : σ.1.1 a0 = some (0, 7)) (h : zcase (f_X7_regret a0 a1 σ) [(2, 1)] (fun v τ => @ite _ (zI v) (zID v) (zsi 4 a2 0 v τ fun τ => some (.inl 0, τ)) none) P) : zm g Y_L_regret R_L_regret [(4, a0), (0, a1), (4, a2)] σ (zPc P) := by
  refine zm_ofH (by decide) (by intro q; cases q) (Nat.le_of_ble_eq_true rfl) ?_
  obtain ⟨r, hr, hv, hx⟩ := h
  refine r_aload_n 2 dL_regret_0 rfl ?_
  refine r_iconst (v := 0) dL_regret_1 rfl rfl ?_
  refine r_aload_n 0 dL_regret_2 rfl ?_
  refine r_iload_n 1 dL_regret_3 rfl ?_
  refine r_callVC (K' := Y_X7_regret) (R' := R_X7_regret) (idx := 83) (n := 1) (b := a0) (as := [(0, a1)]) (rest := [(0, 0), (4, a2)]) (cn := 7) (C' := 0) (D' := 0) k0_X7_regret kV_X7_regret kl_L_83 ⟨by decide, by decide⟩ dL_regret_4 rfl rfl (Nat.le_of_ble_eq_true rfl) (by decide) (by decide) rfl hobj ⟨_, hr⟩ (fun r hr => m_X7_regret hl0 ⟨r, hr, hr⟩) (fun ex τ n q hq hn => ?_) (fun v τ hq => ?_)
  · obtain ⟨c, hc, hP⟩ := hx ex τ (Option.some.inj (hr.symm.trans hq))
    rcases List.mem_cons.mp hc with e9 | hc
    · cases e9
      refine ⟨12, ⟨[], _, _, rfl, by decide, by decide, rfl, wl_834, wl_845, fun z hz => by cases hz⟩, ?_⟩
      refine r_astore_n (L' := (3, (4, (q : Int))) :: [(0, (4, a0)), (1, (0, a1)), (2, (4, a2))]) dL_regret_12 (by decide) rfl ?_
      refine r_iconst (v := 1) dL_regret_13 rfl rfl ?_
      exact r_iret rfl dL_regret_14 ⟨_, rfl, 1, _, rfl, hP n hn⟩
    · cases hc
  · have h := hv v τ (Option.some.inj (hr.symm.trans hq))
    refine r_i2l dL_regret_7 ?_
    refine r_last dL_regret_8 h (fun τ h => ?_)
    refine r_goto 15 dL_regret_9 (by decide) ?_
    refine r_iconst (v := 0) dL_regret_15 rfl rfl ?_
    exact r_iret rfl dL_regret_16 h

theorem m_L_saved {g : zF} (hl0 : g.2.2.2.1.stackTraces = false) {P : Int → zS → Prop} {a0 a1 a2 : Int} {σ : zS} (hobj : σ.1.1 a0 = some (0, 7)) (h : zcase (f_X7_saved a0 a1 σ) [(2, 1)] (fun v τ => @ite _ (zI v) (zID v) (zsi 4 a2 0 v τ fun τ => some (.inl 0, τ)) none) P) : zm g Y_L_saved R_L_saved [(4, a0), (0, a1), (4, a2)] σ (zPc P) := by
  refine zm_ofH (by decide) (by intro q; cases q) (Nat.le_of_ble_eq_true rfl) ?_
  obtain ⟨r, hr, hv, hx⟩ := h
  refine r_aload_n 2 dL_saved_0 rfl ?_
  refine r_iconst (v := 0) dL_saved_1 rfl rfl ?_
  refine r_aload_n 0 dL_saved_2 rfl ?_
  refine r_iload_n 1 dL_saved_3 rfl ?_
  refine r_callVC (K' := Y_X7_saved) (R' := R_X7_saved) (idx := 86) (n := 1) (b := a0) (as := [(0, a1)]) (rest := [(0, 0), (4, a2)]) (cn := 7) (C' := 0) (D' := 0) k0_X7_saved kV_X7_saved kl_L_86 ⟨by decide, by decide⟩ dL_saved_4 rfl rfl (Nat.le_of_ble_eq_true rfl) (by decide) (by decide) rfl hobj ⟨_, hr⟩ (fun r hr => m_X7_saved hl0 ⟨r, hr, hr⟩) (fun ex τ n q hq hn => ?_) (fun v τ hq => ?_)
  · obtain ⟨c, hc, hP⟩ := hx ex τ (Option.some.inj (hr.symm.trans hq))
    rcases List.mem_cons.mp hc with e9 | hc
    · cases e9
      refine ⟨12, ⟨[], _, _, rfl, by decide, by decide, rfl, wl_834, wl_845, fun z hz => by cases hz⟩, ?_⟩
      refine r_astore_n (L' := (3, (4, (q : Int))) :: [(0, (4, a0)), (1, (0, a1)), (2, (4, a2))]) dL_saved_12 (by decide) rfl ?_
      refine r_iconst (v := 1) dL_saved_13 rfl rfl ?_
      exact r_iret rfl dL_saved_14 ⟨_, rfl, 1, _, rfl, hP n hn⟩
    · cases hc
  · have h := hv v τ (Option.some.inj (hr.symm.trans hq))
    refine r_i2l dL_saved_7 ?_
    refine r_last dL_saved_8 h (fun τ h => ?_)
    refine r_goto 15 dL_saved_9 (by decide) ?_
    refine r_iconst (v := 0) dL_saved_15 rfl rfl ?_
    exact r_iret rfl dL_saved_16 h

theorem m_L_agreeing {g : zF} (hl0 : g.2.2.2.1.stackTraces = false) {P : Int → zS → Prop} {a0 a1 a2 a3 : Int} {σ : zS} (hobj : σ.1.1 a0 = some (0, 7)) (h : zcase (f_X7_agreeing a0 a1 a2 σ) [(2, 1)] (fun v τ => @ite _ (zI v) (zID v) (zsi 4 a3 0 v τ fun τ => some (.inl 0, τ)) none) P) : zm g Y_L_agreeing R_L_agreeing [(4, a0), (0, a1), (0, a2), (4, a3)] σ (zPc P) := by
  refine zm_ofH (by decide) (by intro q; cases q) (Nat.le_of_ble_eq_true rfl) ?_
  obtain ⟨r, hr, hv, hx⟩ := h
  refine r_aload_n 3 dL_agreeing_0 rfl ?_
  refine r_iconst (v := 0) dL_agreeing_1 rfl rfl ?_
  refine r_aload_n 0 dL_agreeing_2 rfl ?_
  refine r_iload_n 1 dL_agreeing_3 rfl ?_
  refine r_iload_n 2 dL_agreeing_4 rfl ?_
  refine r_callVC (K' := Y_X7_agreeing) (R' := R_X7_agreeing) (idx := 89) (n := 2) (b := a0) (as := [(0, a1), (0, a2)]) (rest := [(0, 0), (4, a3)]) (cn := 7) (C' := 0) (D' := 0) k0_X7_agreeing kV_X7_agreeing kl_L_89 ⟨by decide, by decide⟩ dL_agreeing_5 rfl rfl (Nat.le_of_ble_eq_true rfl) (by decide) (by decide) rfl hobj ⟨_, hr⟩ (fun r hr => m_X7_agreeing hl0 ⟨r, hr, hr⟩) (fun ex τ n q hq hn => ?_) (fun v τ hq => ?_)
  · obtain ⟨c, hc, hP⟩ := hx ex τ (Option.some.inj (hr.symm.trans hq))
    rcases List.mem_cons.mp hc with e9 | hc
    · cases e9
      refine ⟨13, ⟨[], _, _, rfl, by decide, by decide, rfl, wl_834, wl_845, fun z hz => by cases hz⟩, ?_⟩
      refine r_astore (L' := (4, (4, (q : Int))) :: [(0, (4, a0)), (1, (0, a1)), (2, (0, a2)), (3, (4, a3))]) dL_agreeing_13 (by decide) rfl ?_
      refine r_iconst (v := 1) dL_agreeing_15 rfl rfl ?_
      exact r_iret rfl dL_agreeing_16 ⟨_, rfl, 1, _, rfl, hP n hn⟩
    · cases hc
  · have h := hv v τ (Option.some.inj (hr.symm.trans hq))
    refine r_i2l dL_agreeing_8 ?_
    refine r_last dL_agreeing_9 h (fun τ h => ?_)
    refine r_goto 17 dL_agreeing_10 (by decide) ?_
    refine r_iconst (v := 0) dL_agreeing_17 rfl rfl ?_
    exact r_iret rfl dL_agreeing_18 h

theorem m_L_common {g : zF} (hl0 : g.2.2.2.1.stackTraces = false) {P : Int → zS → Prop} {a0 a1 a2 a3 : Int} {σ : zS} (hobj : σ.1.1 a0 = some (0, 7)) (h : zcase (f_X7_common a0 a1 a2 σ) [(2, 1), (1, 2)] (fun v τ => @ite _ (zI v) (zID v) (zsi 4 a3 0 v τ fun τ => some (.inl 0, τ)) none) P) : zm g Y_L_common R_L_common [(4, a0), (0, a1), (0, a2), (4, a3)] σ (zPc P) := by
  refine zm_ofH (by decide) (by intro q; cases q) (Nat.le_of_ble_eq_true rfl) ?_
  obtain ⟨r, hr, hv, hx⟩ := h
  refine r_aload_n 3 dL_common_0 rfl ?_
  refine r_iconst (v := 0) dL_common_1 rfl rfl ?_
  refine r_aload_n 0 dL_common_2 rfl ?_
  refine r_iload_n 1 dL_common_3 rfl ?_
  refine r_iload_n 2 dL_common_4 rfl ?_
  refine r_callVC (K' := Y_X7_common) (R' := R_X7_common) (idx := 92) (n := 2) (b := a0) (as := [(0, a1), (0, a2)]) (rest := [(0, 0), (4, a3)]) (cn := 7) (C' := 0) (D' := 0) k0_X7_common kV_X7_common kl_L_92 ⟨by decide, by decide⟩ dL_common_5 rfl rfl (Nat.le_of_ble_eq_true rfl) (by decide) (by decide) rfl hobj ⟨_, hr⟩ (fun r hr => m_X7_common hl0 ⟨r, hr, hr⟩) (fun ex τ n q hq hn => ?_) (fun v τ hq => ?_)
  · obtain ⟨c, hc, hP⟩ := hx ex τ (Option.some.inj (hr.symm.trans hq))
    rcases List.mem_cons.mp hc with e9 | hc
    · cases e9
      refine ⟨13, ⟨[], _, _, rfl, by decide, by decide, rfl, wl_834, wl_845, fun z hz => by cases hz⟩, ?_⟩
      refine r_astore (L' := (4, (4, (q : Int))) :: [(0, (4, a0)), (1, (0, a1)), (2, (0, a2)), (3, (4, a3))]) dL_common_13 (by decide) rfl ?_
      refine r_iconst (v := 1) dL_common_15 rfl rfl ?_
      exact r_iret rfl dL_common_16 ⟨_, rfl, 1, _, rfl, hP n hn⟩
    rcases List.mem_cons.mp hc with e9 | hc
    · cases e9
      refine ⟨17, ⟨[_], _, _, rfl, by decide, by decide, rfl, wl_795, wl_805, fun z hz => by
        rcases List.mem_cons.mp hz with e8 | hz
        · rw [e8]; exact ⟨by decide, 2, wl_834, by decide⟩
        cases hz⟩, ?_⟩
      refine r_astore (L' := (4, (4, (q : Int))) :: [(0, (4, a0)), (1, (0, a1)), (2, (0, a2)), (3, (4, a3))]) dL_common_17 (by decide) rfl ?_
      refine r_iconst (v := 2) dL_common_19 rfl rfl ?_
      exact r_iret rfl dL_common_20 ⟨_, rfl, 2, _, rfl, hP n hn⟩
    · cases hc
  · have h := hv v τ (Option.some.inj (hr.symm.trans hq))
    refine r_i2l dL_common_8 ?_
    refine r_last dL_common_9 h (fun τ h => ?_)
    refine r_goto 21 dL_common_10 (by decide) ?_
    refine r_iconst (v := 0) dL_common_21 rfl rfl ?_
    exact r_iret rfl dL_common_22 h

theorem m_L_account {g : zF} (hl0 : g.2.2.2.1.stackTraces = false) {P : Int → zS → Prop} {a0 a1 a2 a3 : Int} {σ : zS} (hobj : σ.1.1 a0 = some (0, 7)) (h : zcase (f_X7_account a0 a1 a2 σ) [(2, 1), (1, 2)] (fun v τ => @ite _ (zI v) (zID v) (zsi 4 a3 0 v τ fun τ => some (.inl 0, τ)) none) P) : zm g Y_L_account R_L_account [(4, a0), (0, a1), (0, a2), (4, a3)] σ (zPc P) := by
  refine zm_ofH (by decide) (by intro q; cases q) (Nat.le_of_ble_eq_true rfl) ?_
  obtain ⟨r, hr, hv, hx⟩ := h
  refine r_aload_n 3 dL_account_0 rfl ?_
  refine r_iconst (v := 0) dL_account_1 rfl rfl ?_
  refine r_aload_n 0 dL_account_2 rfl ?_
  refine r_iload_n 1 dL_account_3 rfl ?_
  refine r_iload_n 2 dL_account_4 rfl ?_
  refine r_callVC (K' := Y_X7_account) (R' := R_X7_account) (idx := 95) (n := 2) (b := a0) (as := [(0, a1), (0, a2)]) (rest := [(0, 0), (4, a3)]) (cn := 7) (C' := 0) (D' := 0) k0_X7_account kV_X7_account kl_L_95 ⟨by decide, by decide⟩ dL_account_5 rfl rfl (Nat.le_of_ble_eq_true rfl) (by decide) (by decide) rfl hobj ⟨_, hr⟩ (fun r hr => m_X7_account hl0 ⟨r, hr, hr⟩) (fun ex τ n q hq hn => ?_) (fun v τ hq => ?_)
  · obtain ⟨c, hc, hP⟩ := hx ex τ (Option.some.inj (hr.symm.trans hq))
    rcases List.mem_cons.mp hc with e9 | hc
    · cases e9
      refine ⟨13, ⟨[], _, _, rfl, by decide, by decide, rfl, wl_834, wl_845, fun z hz => by cases hz⟩, ?_⟩
      refine r_astore (L' := (4, (4, (q : Int))) :: [(0, (4, a0)), (1, (0, a1)), (2, (0, a2)), (3, (4, a3))]) dL_account_13 (by decide) rfl ?_
      refine r_iconst (v := 1) dL_account_15 rfl rfl ?_
      exact r_iret rfl dL_account_16 ⟨_, rfl, 1, _, rfl, hP n hn⟩
    rcases List.mem_cons.mp hc with e9 | hc
    · cases e9
      refine ⟨17, ⟨[_], _, _, rfl, by decide, by decide, rfl, wl_795, wl_805, fun z hz => by
        rcases List.mem_cons.mp hz with e8 | hz
        · rw [e8]; exact ⟨by decide, 2, wl_834, by decide⟩
        cases hz⟩, ?_⟩
      refine r_astore (L' := (4, (4, (q : Int))) :: [(0, (4, a0)), (1, (0, a1)), (2, (0, a2)), (3, (4, a3))]) dL_account_17 (by decide) rfl ?_
      refine r_iconst (v := 2) dL_account_19 rfl rfl ?_
      exact r_iret rfl dL_account_20 ⟨_, rfl, 2, _, rfl, hP n hn⟩
    · cases hc
  · have h := hv v τ (Option.some.inj (hr.symm.trans hq))
    refine r_i2l dL_account_8 ?_
    refine r_last dL_account_9 h (fun τ h => ?_)
    refine r_goto 21 dL_account_10 (by decide) ?_
    refine r_iconst (v := 0) dL_account_21 rfl rfl ?_
    exact r_iret rfl dL_account_22 h

theorem m_L_message {g : zF} (hl0 : g.2.2.2.1.stackTraces = false) {P : Int → zS → Prop} {a0 a1 a2 a3 : Int} {σ : zS} (hobj : σ.1.1 a0 = some (0, 7)) (h : zcase (f_X7_message a0 a1 a2 σ) [(1, 1), (3, 2)] (fun v τ => @ite _ (zI v) (zID v) (zsi 4 a3 0 v τ fun τ => some (.inl 0, τ)) none) P) : zm g Y_L_message R_L_message [(4, a0), (0, a1), (0, a2), (4, a3)] σ (zPc P) := by
  refine zm_ofH (by decide) (by intro q; cases q) (Nat.le_of_ble_eq_true rfl) ?_
  obtain ⟨r, hr, hv, hx⟩ := h
  refine r_aload_n 3 dL_message_0 rfl ?_
  refine r_iconst (v := 0) dL_message_1 rfl rfl ?_
  refine r_aload_n 0 dL_message_2 rfl ?_
  refine r_iload_n 1 dL_message_3 rfl ?_
  refine r_iload_n 2 dL_message_4 rfl ?_
  refine r_callVC (K' := Y_X7_message) (R' := R_X7_message) (idx := 98) (n := 2) (b := a0) (as := [(0, a1), (0, a2)]) (rest := [(0, 0), (4, a3)]) (cn := 7) (C' := 0) (D' := 0) k0_X7_message kV_X7_message kl_L_98 ⟨by decide, by decide⟩ dL_message_5 rfl rfl (Nat.le_of_ble_eq_true rfl) (by decide) (by decide) rfl hobj ⟨_, hr⟩ (fun r hr => m_X7_message hl0 ⟨r, hr, hr⟩) (fun ex τ n q hq hn => ?_) (fun v τ hq => ?_)
  · obtain ⟨c, hc, hP⟩ := hx ex τ (Option.some.inj (hr.symm.trans hq))
    rcases List.mem_cons.mp hc with e9 | hc
    · cases e9
      refine ⟨13, ⟨[], _, _, rfl, by decide, by decide, rfl, wl_795, wl_805, fun z hz => by cases hz⟩, ?_⟩
      refine r_astore (L' := (4, (4, (q : Int))) :: [(0, (4, a0)), (1, (0, a1)), (2, (0, a2)), (3, (4, a3))]) dL_message_13 (by decide) rfl ?_
      refine r_iconst (v := 1) dL_message_15 rfl rfl ?_
      exact r_iret rfl dL_message_16 ⟨_, rfl, 1, _, rfl, hP n hn⟩
    rcases List.mem_cons.mp hc with e9 | hc
    · cases e9
      refine ⟨17, ⟨[_], _, _, rfl, by decide, by decide, rfl, wl_1132, wl_1139, fun z hz => by
        rcases List.mem_cons.mp hz with e8 | hz
        · rw [e8]; exact ⟨by decide, 1, wl_795, by decide⟩
        cases hz⟩, ?_⟩
      refine r_astore (L' := (4, (4, (q : Int))) :: [(0, (4, a0)), (1, (0, a1)), (2, (0, a2)), (3, (4, a3))]) dL_message_17 (by decide) rfl ?_
      refine r_iconst (v := 2) dL_message_19 rfl rfl ?_
      exact r_iret rfl dL_message_20 ⟨_, rfl, 2, _, rfl, hP n hn⟩
    · cases hc
  · have h := hv v τ (Option.some.inj (hr.symm.trans hq))
    refine r_i2l dL_message_8 ?_
    refine r_last dL_message_9 h (fun τ h => ?_)
    refine r_goto 21 dL_message_10 (by decide) ?_
    refine r_iconst (v := 0) dL_message_21 rfl rfl ?_
    exact r_iret rfl dL_message_22 h

theorem m_L_standing {g : zF} (hl0 : g.2.2.2.1.stackTraces = false) {P : Int → zS → Prop} {a0 a1 a2 : Int} {σ : zS} (hobj : σ.1.1 a0 = some (0, 7)) (h : zcase (f_X7_standing a0 a1 σ) [(2, 1)] (fun v τ => @ite _ (vf_n64 (FP.f2d (UInt32.ofNat v.toNat))) (by unfold vf_n64; infer_instance) (zsi 5 a2 0 (zfD v) τ fun τ => some (.inl 0, τ)) none) P) : zm g Y_L_standing R_L_standing [(4, a0), (0, a1), (4, a2)] σ (zPc P) := by
  refine zm_ofH (by decide) (by intro q; cases q) (Nat.le_of_ble_eq_true rfl) ?_
  obtain ⟨r, hr, hv, hx⟩ := h
  refine r_aload_n 2 dL_standing_0 rfl ?_
  refine r_iconst (v := 0) dL_standing_1 rfl rfl ?_
  refine r_aload_n 0 dL_standing_2 rfl ?_
  refine r_iload_n 1 dL_standing_3 rfl ?_
  refine r_callVC (K' := Y_X7_standing) (R' := R_X7_standing) (idx := 103) (n := 1) (b := a0) (as := [(0, a1)]) (rest := [(0, 0), (4, a2)]) (cn := 7) (C' := 0) (D' := 0) k0_X7_standing kV_X7_standing kl_L_103 ⟨by decide, by decide⟩ dL_standing_4 rfl rfl (Nat.le_of_ble_eq_true rfl) (by decide) (by decide) rfl hobj ⟨_, hr⟩ (fun r hr => m_X7_standing hl0 ⟨r, hr, hr⟩) (fun ex τ n q hq hn => ?_) (fun v τ hq => ?_)
  · obtain ⟨c, hc, hP⟩ := hx ex τ (Option.some.inj (hr.symm.trans hq))
    rcases List.mem_cons.mp hc with e9 | hc
    · cases e9
      refine ⟨12, ⟨[], _, _, rfl, by decide, by decide, rfl, wl_834, wl_845, fun z hz => by cases hz⟩, ?_⟩
      refine r_astore_n (L' := (3, (4, (q : Int))) :: [(0, (4, a0)), (1, (0, a1)), (2, (4, a2))]) dL_standing_12 (by decide) rfl ?_
      refine r_iconst (v := 1) dL_standing_13 rfl rfl ?_
      exact r_iret rfl dL_standing_14 ⟨_, rfl, 1, _, rfl, hP n hn⟩
    · cases hc
  · have h := hv v τ (Option.some.inj (hr.symm.trans hq))
    refine r_f2d dL_standing_7 h (fun h => ?_)
    refine r_dast dL_standing_8 h (fun τ h => ?_)
    refine r_goto 15 dL_standing_9 (by decide) ?_
    refine r_iconst (v := 0) dL_standing_15 rfl rfl ?_
    exact r_iret rfl dL_standing_16 h

theorem m_L_beliefIf {g : zF} (hl0 : g.2.2.2.1.stackTraces = false) {P : Int → zS → Prop} {a0 a1 a2 a3 a4 a5 a6 : Int} {σ : zS} (hobj : σ.1.1 a0 = some (0, 7)) (h : zcase (f_X7_beliefIf a0 a1 a2 a3 a4 a5 σ) [(2, 1), (1, 2)] (fun v τ => @ite _ (zI v) (zID v) (zsi 4 a6 0 v τ fun τ => some (.inl 0, τ)) none) P) : zm g Y_L_beliefIf R_L_beliefIf [(4, a0), (0, a1), (0, a2), (0, a3), (0, a4), (0, a5), (4, a6)] σ (zPc P) := by
  refine zm_ofH (by decide) (by intro q; cases q) (Nat.le_of_ble_eq_true rfl) ?_
  obtain ⟨r, hr, hv, hx⟩ := h
  refine r_aload 6 dL_beliefIf_0 rfl ?_
  refine r_iconst (v := 0) dL_beliefIf_2 rfl rfl ?_
  refine r_aload_n 0 dL_beliefIf_3 rfl ?_
  refine r_iload_n 1 dL_beliefIf_4 rfl ?_
  refine r_iload_n 2 dL_beliefIf_5 rfl ?_
  refine r_iload_n 3 dL_beliefIf_6 rfl ?_
  refine r_iload 4 dL_beliefIf_7 rfl ?_
  refine r_iload 5 dL_beliefIf_9 rfl ?_
  refine r_callVC (K' := Y_X7_beliefIf) (R' := R_X7_beliefIf) (idx := 107) (n := 5) (b := a0) (as := [(0, a1), (0, a2), (0, a3), (0, a4), (0, a5)]) (rest := [(0, 0), (4, a6)]) (cn := 7) (C' := 0) (D' := 0) k0_X7_beliefIf kV_X7_beliefIf kl_L_107 ⟨by decide, by decide⟩ dL_beliefIf_11 rfl rfl (Nat.le_of_ble_eq_true rfl) (by decide) (by decide) rfl hobj ⟨_, hr⟩ (fun r hr => m_X7_beliefIf hl0 ⟨r, hr, hr⟩) (fun ex τ n q hq hn => ?_) (fun v τ hq => ?_)
  · obtain ⟨c, hc, hP⟩ := hx ex τ (Option.some.inj (hr.symm.trans hq))
    rcases List.mem_cons.mp hc with e9 | hc
    · cases e9
      refine ⟨19, ⟨[], _, _, rfl, by decide, by decide, rfl, wl_834, wl_845, fun z hz => by cases hz⟩, ?_⟩
      refine r_astore (L' := (7, (4, (q : Int))) :: [(0, (4, a0)), (1, (0, a1)), (2, (0, a2)), (3, (0, a3)), (4, (0, a4)), (5, (0, a5)), (6, (4, a6))]) dL_beliefIf_19 (by decide) rfl ?_
      refine r_iconst (v := 1) dL_beliefIf_21 rfl rfl ?_
      exact r_iret rfl dL_beliefIf_22 ⟨_, rfl, 1, _, rfl, hP n hn⟩
    rcases List.mem_cons.mp hc with e9 | hc
    · cases e9
      refine ⟨23, ⟨[_], _, _, rfl, by decide, by decide, rfl, wl_795, wl_805, fun z hz => by
        rcases List.mem_cons.mp hz with e8 | hz
        · rw [e8]; exact ⟨by decide, 2, wl_834, by decide⟩
        cases hz⟩, ?_⟩
      refine r_astore (L' := (7, (4, (q : Int))) :: [(0, (4, a0)), (1, (0, a1)), (2, (0, a2)), (3, (0, a3)), (4, (0, a4)), (5, (0, a5)), (6, (4, a6))]) dL_beliefIf_23 (by decide) rfl ?_
      refine r_iconst (v := 2) dL_beliefIf_25 rfl rfl ?_
      exact r_iret rfl dL_beliefIf_26 ⟨_, rfl, 2, _, rfl, hP n hn⟩
    · cases hc
  · have h := hv v τ (Option.some.inj (hr.symm.trans hq))
    refine r_i2l dL_beliefIf_14 ?_
    refine r_last dL_beliefIf_15 h (fun τ h => ?_)
    refine r_goto 27 dL_beliefIf_16 (by decide) ?_
    refine r_iconst (v := 0) dL_beliefIf_27 rfl rfl ?_
    exact r_iret rfl dL_beliefIf_28 h

theorem m_L_trustIf {g : zF} (hl0 : g.2.2.2.1.stackTraces = false) {P : Int → zS → Prop} {a0 a1 a2 a3 a4 a5 a6 : Int} {σ : zS} (hobj : σ.1.1 a0 = some (0, 7)) (h : zcase (f_X7_trustIf a0 a1 a2 a3 a4 a5 σ) [(2, 1), (1, 2)] (fun v τ => @ite _ (zI v) (zID v) (zsi 4 a6 0 v τ fun τ => some (.inl 0, τ)) none) P) : zm g Y_L_trustIf R_L_trustIf [(4, a0), (0, a1), (0, a2), (0, a3), (0, a4), (0, a5), (4, a6)] σ (zPc P) := by
  refine zm_ofH (by decide) (by intro q; cases q) (Nat.le_of_ble_eq_true rfl) ?_
  obtain ⟨r, hr, hv, hx⟩ := h
  refine r_aload 6 dL_trustIf_0 rfl ?_
  refine r_iconst (v := 0) dL_trustIf_2 rfl rfl ?_
  refine r_aload_n 0 dL_trustIf_3 rfl ?_
  refine r_iload_n 1 dL_trustIf_4 rfl ?_
  refine r_iload_n 2 dL_trustIf_5 rfl ?_
  refine r_iload_n 3 dL_trustIf_6 rfl ?_
  refine r_iload 4 dL_trustIf_7 rfl ?_
  refine r_iload 5 dL_trustIf_9 rfl ?_
  refine r_callVC (K' := Y_X7_trustIf) (R' := R_X7_trustIf) (idx := 110) (n := 5) (b := a0) (as := [(0, a1), (0, a2), (0, a3), (0, a4), (0, a5)]) (rest := [(0, 0), (4, a6)]) (cn := 7) (C' := 0) (D' := 0) k0_X7_trustIf kV_X7_trustIf kl_L_110 ⟨by decide, by decide⟩ dL_trustIf_11 rfl rfl (Nat.le_of_ble_eq_true rfl) (by decide) (by decide) rfl hobj ⟨_, hr⟩ (fun r hr => m_X7_trustIf hl0 ⟨r, hr, hr⟩) (fun ex τ n q hq hn => ?_) (fun v τ hq => ?_)
  · obtain ⟨c, hc, hP⟩ := hx ex τ (Option.some.inj (hr.symm.trans hq))
    rcases List.mem_cons.mp hc with e9 | hc
    · cases e9
      refine ⟨19, ⟨[], _, _, rfl, by decide, by decide, rfl, wl_834, wl_845, fun z hz => by cases hz⟩, ?_⟩
      refine r_astore (L' := (7, (4, (q : Int))) :: [(0, (4, a0)), (1, (0, a1)), (2, (0, a2)), (3, (0, a3)), (4, (0, a4)), (5, (0, a5)), (6, (4, a6))]) dL_trustIf_19 (by decide) rfl ?_
      refine r_iconst (v := 1) dL_trustIf_21 rfl rfl ?_
      exact r_iret rfl dL_trustIf_22 ⟨_, rfl, 1, _, rfl, hP n hn⟩
    rcases List.mem_cons.mp hc with e9 | hc
    · cases e9
      refine ⟨23, ⟨[_], _, _, rfl, by decide, by decide, rfl, wl_795, wl_805, fun z hz => by
        rcases List.mem_cons.mp hz with e8 | hz
        · rw [e8]; exact ⟨by decide, 2, wl_834, by decide⟩
        cases hz⟩, ?_⟩
      refine r_astore (L' := (7, (4, (q : Int))) :: [(0, (4, a0)), (1, (0, a1)), (2, (0, a2)), (3, (0, a3)), (4, (0, a4)), (5, (0, a5)), (6, (4, a6))]) dL_trustIf_23 (by decide) rfl ?_
      refine r_iconst (v := 2) dL_trustIf_25 rfl rfl ?_
      exact r_iret rfl dL_trustIf_26 ⟨_, rfl, 2, _, rfl, hP n hn⟩
    · cases hc
  · have h := hv v τ (Option.some.inj (hr.symm.trans hq))
    refine r_i2l dL_trustIf_14 ?_
    refine r_last dL_trustIf_15 h (fun τ h => ?_)
    refine r_goto 27 dL_trustIf_16 (by decide) ?_
    refine r_iconst (v := 0) dL_trustIf_27 rfl rfl ?_
    exact r_iret rfl dL_trustIf_28 h

theorem m_L_informed {g : zF} (hl0 : g.2.2.2.1.stackTraces = false) {P : Int → zS → Prop} {a0 a1 a2 a3 a4 : Int} {σ : zS} (hobj : σ.1.1 a0 = some (0, 7)) (h : zcase (f_X7_informed a0 a1 a2 a3 σ) [(2, 1), (1, 2)] (fun v τ => @ite _ (zI v) (zID v) (zsi 4 a4 0 v τ fun τ => some (.inl 0, τ)) none) P) : zm g Y_L_informed R_L_informed [(4, a0), (0, a1), (0, a2), (0, a3), (4, a4)] σ (zPc P) := by
  refine zm_ofH (by decide) (by intro q; cases q) (Nat.le_of_ble_eq_true rfl) ?_
  obtain ⟨r, hr, hv, hx⟩ := h
  refine r_aload 4 dL_informed_0 rfl ?_
  refine r_iconst (v := 0) dL_informed_2 rfl rfl ?_
  refine r_aload_n 0 dL_informed_3 rfl ?_
  refine r_iload_n 1 dL_informed_4 rfl ?_
  refine r_iload_n 2 dL_informed_5 rfl ?_
  refine r_iload_n 3 dL_informed_6 rfl ?_
  refine r_callVC (K' := Y_X7_informed) (R' := R_X7_informed) (idx := 113) (n := 3) (b := a0) (as := [(0, a1), (0, a2), (0, a3)]) (rest := [(0, 0), (4, a4)]) (cn := 7) (C' := 0) (D' := 0) k0_X7_informed kV_X7_informed kl_L_113 ⟨by decide, by decide⟩ dL_informed_7 rfl rfl (Nat.le_of_ble_eq_true rfl) (by decide) (by decide) rfl hobj ⟨_, hr⟩ (fun r hr => m_X7_informed hl0 ⟨r, hr, hr⟩) (fun ex τ n q hq hn => ?_) (fun v τ hq => ?_)
  · obtain ⟨c, hc, hP⟩ := hx ex τ (Option.some.inj (hr.symm.trans hq))
    rcases List.mem_cons.mp hc with e9 | hc
    · cases e9
      refine ⟨15, ⟨[], _, _, rfl, by decide, by decide, rfl, wl_834, wl_845, fun z hz => by cases hz⟩, ?_⟩
      refine r_astore (L' := (5, (4, (q : Int))) :: [(0, (4, a0)), (1, (0, a1)), (2, (0, a2)), (3, (0, a3)), (4, (4, a4))]) dL_informed_15 (by decide) rfl ?_
      refine r_iconst (v := 1) dL_informed_17 rfl rfl ?_
      exact r_iret rfl dL_informed_18 ⟨_, rfl, 1, _, rfl, hP n hn⟩
    rcases List.mem_cons.mp hc with e9 | hc
    · cases e9
      refine ⟨19, ⟨[_], _, _, rfl, by decide, by decide, rfl, wl_795, wl_805, fun z hz => by
        rcases List.mem_cons.mp hz with e8 | hz
        · rw [e8]; exact ⟨by decide, 2, wl_834, by decide⟩
        cases hz⟩, ?_⟩
      refine r_astore (L' := (5, (4, (q : Int))) :: [(0, (4, a0)), (1, (0, a1)), (2, (0, a2)), (3, (0, a3)), (4, (4, a4))]) dL_informed_19 (by decide) rfl ?_
      refine r_iconst (v := 2) dL_informed_21 rfl rfl ?_
      exact r_iret rfl dL_informed_22 ⟨_, rfl, 2, _, rfl, hP n hn⟩
    · cases hc
  · have h := hv v τ (Option.some.inj (hr.symm.trans hq))
    refine r_i2l dL_informed_10 ?_
    refine r_last dL_informed_11 h (fun τ h => ?_)
    refine r_goto 23 dL_informed_12 (by decide) ?_
    refine r_iconst (v := 0) dL_informed_23 rfl rfl ?_
    exact r_iret rfl dL_informed_24 h

theorem m_L_widthAfter {g : zF} (hl0 : g.2.2.2.1.stackTraces = false) {P : Int → zS → Prop} {a0 a1 a2 a3 a4 : Int} {σ : zS} (hobj : σ.1.1 a0 = some (0, 7)) (h : zcase (f_X7_widthAfter a0 a1 a2 a3 σ) [(2, 1), (1, 2)] (fun v τ => @ite _ (zI v) (zID v) (zsi 4 a4 0 v τ fun τ => some (.inl 0, τ)) none) P) : zm g Y_L_widthAfter R_L_widthAfter [(4, a0), (0, a1), (0, a2), (0, a3), (4, a4)] σ (zPc P) := by
  refine zm_ofH (by decide) (by intro q; cases q) (Nat.le_of_ble_eq_true rfl) ?_
  obtain ⟨r, hr, hv, hx⟩ := h
  refine r_aload 4 dL_widthAfter_0 rfl ?_
  refine r_iconst (v := 0) dL_widthAfter_2 rfl rfl ?_
  refine r_aload_n 0 dL_widthAfter_3 rfl ?_
  refine r_iload_n 1 dL_widthAfter_4 rfl ?_
  refine r_iload_n 2 dL_widthAfter_5 rfl ?_
  refine r_iload_n 3 dL_widthAfter_6 rfl ?_
  refine r_callVC (K' := Y_X7_widthAfter) (R' := R_X7_widthAfter) (idx := 116) (n := 3) (b := a0) (as := [(0, a1), (0, a2), (0, a3)]) (rest := [(0, 0), (4, a4)]) (cn := 7) (C' := 0) (D' := 0) k0_X7_widthAfter kV_X7_widthAfter kl_L_116 ⟨by decide, by decide⟩ dL_widthAfter_7 rfl rfl (Nat.le_of_ble_eq_true rfl) (by decide) (by decide) rfl hobj ⟨_, hr⟩ (fun r hr => m_X7_widthAfter hl0 ⟨r, hr, hr⟩) (fun ex τ n q hq hn => ?_) (fun v τ hq => ?_)
  · obtain ⟨c, hc, hP⟩ := hx ex τ (Option.some.inj (hr.symm.trans hq))
    rcases List.mem_cons.mp hc with e9 | hc
    · cases e9
      refine ⟨15, ⟨[], _, _, rfl, by decide, by decide, rfl, wl_834, wl_845, fun z hz => by cases hz⟩, ?_⟩
      refine r_astore (L' := (5, (4, (q : Int))) :: [(0, (4, a0)), (1, (0, a1)), (2, (0, a2)), (3, (0, a3)), (4, (4, a4))]) dL_widthAfter_15 (by decide) rfl ?_
      refine r_iconst (v := 1) dL_widthAfter_17 rfl rfl ?_
      exact r_iret rfl dL_widthAfter_18 ⟨_, rfl, 1, _, rfl, hP n hn⟩
    rcases List.mem_cons.mp hc with e9 | hc
    · cases e9
      refine ⟨19, ⟨[_], _, _, rfl, by decide, by decide, rfl, wl_795, wl_805, fun z hz => by
        rcases List.mem_cons.mp hz with e8 | hz
        · rw [e8]; exact ⟨by decide, 2, wl_834, by decide⟩
        cases hz⟩, ?_⟩
      refine r_astore (L' := (5, (4, (q : Int))) :: [(0, (4, a0)), (1, (0, a1)), (2, (0, a2)), (3, (0, a3)), (4, (4, a4))]) dL_widthAfter_19 (by decide) rfl ?_
      refine r_iconst (v := 2) dL_widthAfter_21 rfl rfl ?_
      exact r_iret rfl dL_widthAfter_22 ⟨_, rfl, 2, _, rfl, hP n hn⟩
    · cases hc
  · have h := hv v τ (Option.some.inj (hr.symm.trans hq))
    refine r_i2l dL_widthAfter_10 ?_
    refine r_last dL_widthAfter_11 h (fun τ h => ?_)
    refine r_goto 23 dL_widthAfter_12 (by decide) ?_
    refine r_iconst (v := 0) dL_widthAfter_23 rfl rfl ?_
    exact r_iret rfl dL_widthAfter_24 h

theorem m_L_widthWithout {g : zF} (hl0 : g.2.2.2.1.stackTraces = false) {P : Int → zS → Prop} {a0 a1 a2 a3 a4 : Int} {σ : zS} (hobj : σ.1.1 a0 = some (0, 7)) (h : zcase (f_X7_widthWithout a0 a1 a2 a3 σ) [(2, 1)] (fun v τ => @ite _ (zI v) (zID v) (zsi 4 a4 0 v τ fun τ => some (.inl 0, τ)) none) P) : zm g Y_L_widthWithout R_L_widthWithout [(4, a0), (0, a1), (0, a2), (0, a3), (4, a4)] σ (zPc P) := by
  refine zm_ofH (by decide) (by intro q; cases q) (Nat.le_of_ble_eq_true rfl) ?_
  obtain ⟨r, hr, hv, hx⟩ := h
  refine r_aload 4 dL_widthWithout_0 rfl ?_
  refine r_iconst (v := 0) dL_widthWithout_2 rfl rfl ?_
  refine r_aload_n 0 dL_widthWithout_3 rfl ?_
  refine r_iload_n 1 dL_widthWithout_4 rfl ?_
  refine r_iload_n 2 dL_widthWithout_5 rfl ?_
  refine r_iload_n 3 dL_widthWithout_6 rfl ?_
  refine r_callVC (K' := Y_X7_widthWithout) (R' := R_X7_widthWithout) (idx := 119) (n := 3) (b := a0) (as := [(0, a1), (0, a2), (0, a3)]) (rest := [(0, 0), (4, a4)]) (cn := 7) (C' := 0) (D' := 0) k0_X7_widthWithout kV_X7_widthWithout kl_L_119 ⟨by decide, by decide⟩ dL_widthWithout_7 rfl rfl (Nat.le_of_ble_eq_true rfl) (by decide) (by decide) rfl hobj ⟨_, hr⟩ (fun r hr => m_X7_widthWithout hl0 ⟨r, hr, hr⟩) (fun ex τ n q hq hn => ?_) (fun v τ hq => ?_)
  · obtain ⟨c, hc, hP⟩ := hx ex τ (Option.some.inj (hr.symm.trans hq))
    rcases List.mem_cons.mp hc with e9 | hc
    · cases e9
      refine ⟨15, ⟨[], _, _, rfl, by decide, by decide, rfl, wl_834, wl_845, fun z hz => by cases hz⟩, ?_⟩
      refine r_astore (L' := (5, (4, (q : Int))) :: [(0, (4, a0)), (1, (0, a1)), (2, (0, a2)), (3, (0, a3)), (4, (4, a4))]) dL_widthWithout_15 (by decide) rfl ?_
      refine r_iconst (v := 1) dL_widthWithout_17 rfl rfl ?_
      exact r_iret rfl dL_widthWithout_18 ⟨_, rfl, 1, _, rfl, hP n hn⟩
    · cases hc
  · have h := hv v τ (Option.some.inj (hr.symm.trans hq))
    refine r_i2l dL_widthWithout_10 ?_
    refine r_last dL_widthWithout_11 h (fun τ h => ?_)
    refine r_goto 19 dL_widthWithout_12 (by decide) ?_
    refine r_iconst (v := 0) dL_widthWithout_19 rfl rfl ?_
    exact r_iret rfl dL_widthWithout_20 h

theorem m_L_mostUseful {g : zF} (hl0 : g.2.2.2.1.stackTraces = false) {P : Int → zS → Prop} {a0 a1 a2 : Int} {σ : zS} (hobj : σ.1.1 a0 = some (0, 7)) (h : zcase (f_X7_mostUseful a0 a1 σ) [(2, 1)] (fun v τ => @ite _ (zI v) (zID v) (zsi 4 a2 0 v τ fun τ => some (.inl 0, τ)) none) P) : zm g Y_L_mostUseful R_L_mostUseful [(4, a0), (0, a1), (4, a2)] σ (zPc P) := by
  refine zm_ofH (by decide) (by intro q; cases q) (Nat.le_of_ble_eq_true rfl) ?_
  obtain ⟨r, hr, hv, hx⟩ := h
  refine r_aload_n 2 dL_mostUseful_0 rfl ?_
  refine r_iconst (v := 0) dL_mostUseful_1 rfl rfl ?_
  refine r_aload_n 0 dL_mostUseful_2 rfl ?_
  refine r_iload_n 1 dL_mostUseful_3 rfl ?_
  refine r_callVC (K' := Y_X7_mostUseful) (R' := R_X7_mostUseful) (idx := 122) (n := 1) (b := a0) (as := [(0, a1)]) (rest := [(0, 0), (4, a2)]) (cn := 7) (C' := 0) (D' := 0) k0_X7_mostUseful kV_X7_mostUseful kl_L_122 ⟨by decide, by decide⟩ dL_mostUseful_4 rfl rfl (Nat.le_of_ble_eq_true rfl) (by decide) (by decide) rfl hobj ⟨_, hr⟩ (fun r hr => m_X7_mostUseful hl0 ⟨r, hr, hr⟩) (fun ex τ n q hq hn => ?_) (fun v τ hq => ?_)
  · obtain ⟨c, hc, hP⟩ := hx ex τ (Option.some.inj (hr.symm.trans hq))
    rcases List.mem_cons.mp hc with e9 | hc
    · cases e9
      refine ⟨12, ⟨[], _, _, rfl, by decide, by decide, rfl, wl_834, wl_845, fun z hz => by cases hz⟩, ?_⟩
      refine r_astore_n (L' := (3, (4, (q : Int))) :: [(0, (4, a0)), (1, (0, a1)), (2, (4, a2))]) dL_mostUseful_12 (by decide) rfl ?_
      refine r_iconst (v := 1) dL_mostUseful_13 rfl rfl ?_
      exact r_iret rfl dL_mostUseful_14 ⟨_, rfl, 1, _, rfl, hP n hn⟩
    · cases hc
  · have h := hv v τ (Option.some.inj (hr.symm.trans hq))
    refine r_i2l dL_mostUseful_7 ?_
    refine r_last dL_mostUseful_8 h (fun τ h => ?_)
    refine r_goto 15 dL_mostUseful_9 (by decide) ?_
    refine r_iconst (v := 0) dL_mostUseful_15 rfl rfl ?_
    exact r_iret rfl dL_mostUseful_16 h

theorem m_L_bestThen {g : zF} (hl0 : g.2.2.2.1.stackTraces = false) {P : Int → zS → Prop} {a0 a1 a2 : Int} {σ : zS} (hobj : σ.1.1 a0 = some (0, 7)) (h : zcase (f_X7_bestThen a0 a1 σ) [(2, 1)] (fun v τ => @ite _ (zI v) (zID v) (zsi 4 a2 0 v τ fun τ => some (.inl 0, τ)) none) P) : zm g Y_L_bestThen R_L_bestThen [(4, a0), (0, a1), (4, a2)] σ (zPc P) := by
  refine zm_ofH (by decide) (by intro q; cases q) (Nat.le_of_ble_eq_true rfl) ?_
  obtain ⟨r, hr, hv, hx⟩ := h
  refine r_aload_n 2 dL_bestThen_0 rfl ?_
  refine r_iconst (v := 0) dL_bestThen_1 rfl rfl ?_
  refine r_aload_n 0 dL_bestThen_2 rfl ?_
  refine r_iload_n 1 dL_bestThen_3 rfl ?_
  refine r_callVC (K' := Y_X7_bestThen) (R' := R_X7_bestThen) (idx := 125) (n := 1) (b := a0) (as := [(0, a1)]) (rest := [(0, 0), (4, a2)]) (cn := 7) (C' := 0) (D' := 0) k0_X7_bestThen kV_X7_bestThen kl_L_125 ⟨by decide, by decide⟩ dL_bestThen_4 rfl rfl (Nat.le_of_ble_eq_true rfl) (by decide) (by decide) rfl hobj ⟨_, hr⟩ (fun r hr => m_X7_bestThen hl0 ⟨r, hr, hr⟩) (fun ex τ n q hq hn => ?_) (fun v τ hq => ?_)
  · obtain ⟨c, hc, hP⟩ := hx ex τ (Option.some.inj (hr.symm.trans hq))
    rcases List.mem_cons.mp hc with e9 | hc
    · cases e9
      refine ⟨12, ⟨[], _, _, rfl, by decide, by decide, rfl, wl_834, wl_845, fun z hz => by cases hz⟩, ?_⟩
      refine r_astore_n (L' := (3, (4, (q : Int))) :: [(0, (4, a0)), (1, (0, a1)), (2, (4, a2))]) dL_bestThen_12 (by decide) rfl ?_
      refine r_iconst (v := 1) dL_bestThen_13 rfl rfl ?_
      exact r_iret rfl dL_bestThen_14 ⟨_, rfl, 1, _, rfl, hP n hn⟩
    · cases hc
  · have h := hv v τ (Option.some.inj (hr.symm.trans hq))
    refine r_i2l dL_bestThen_7 ?_
    refine r_last dL_bestThen_8 h (fun τ h => ?_)
    refine r_goto 15 dL_bestThen_9 (by decide) ?_
    refine r_iconst (v := 0) dL_bestThen_15 rfl rfl ?_
    exact r_iret rfl dL_bestThen_16 h

theorem m_L_probe {g : zF} (hl0 : g.2.2.2.1.stackTraces = false) {P : Int → zS → Prop} {a0 a1 a2 a3 a4 a5 : Int} {σ : zS} (hobj : σ.1.1 a0 = some (0, 7)) (h : zcase (f_X7_probe a0 a1 a2 a3 a4 σ) [(2, 1), (1, 2)] (fun v τ => @ite _ (zI v) (zID v) (zsi 4 a5 0 v τ fun τ => some (.inl 0, τ)) none) P) : zm g Y_L_probe R_L_probe [(4, a0), (0, a1), (0, a2), (0, a3), (0, a4), (4, a5)] σ (zPc P) := by
  refine zm_ofH (by decide) (by intro q; cases q) (Nat.le_of_ble_eq_true rfl) ?_
  obtain ⟨r, hr, hv, hx⟩ := h
  refine r_aload 5 dL_probe_0 rfl ?_
  refine r_iconst (v := 0) dL_probe_2 rfl rfl ?_
  refine r_aload_n 0 dL_probe_3 rfl ?_
  refine r_iload_n 1 dL_probe_4 rfl ?_
  refine r_iload_n 2 dL_probe_5 rfl ?_
  refine r_iload_n 3 dL_probe_6 rfl ?_
  refine r_iload 4 dL_probe_7 rfl ?_
  refine r_callVC (K' := Y_X7_probe) (R' := R_X7_probe) (idx := 128) (n := 4) (b := a0) (as := [(0, a1), (0, a2), (0, a3), (0, a4)]) (rest := [(0, 0), (4, a5)]) (cn := 7) (C' := 0) (D' := 0) k0_X7_probe kV_X7_probe kl_L_128 ⟨by decide, by decide⟩ dL_probe_9 rfl rfl (Nat.le_of_ble_eq_true rfl) (by decide) (by decide) rfl hobj ⟨_, hr⟩ (fun r hr => m_X7_probe hl0 ⟨r, hr, hr⟩) (fun ex τ n q hq hn => ?_) (fun v τ hq => ?_)
  · obtain ⟨c, hc, hP⟩ := hx ex τ (Option.some.inj (hr.symm.trans hq))
    rcases List.mem_cons.mp hc with e9 | hc
    · cases e9
      refine ⟨17, ⟨[], _, _, rfl, by decide, by decide, rfl, wl_834, wl_845, fun z hz => by cases hz⟩, ?_⟩
      refine r_astore (L' := (6, (4, (q : Int))) :: [(0, (4, a0)), (1, (0, a1)), (2, (0, a2)), (3, (0, a3)), (4, (0, a4)), (5, (4, a5))]) dL_probe_17 (by decide) rfl ?_
      refine r_iconst (v := 1) dL_probe_19 rfl rfl ?_
      exact r_iret rfl dL_probe_20 ⟨_, rfl, 1, _, rfl, hP n hn⟩
    rcases List.mem_cons.mp hc with e9 | hc
    · cases e9
      refine ⟨21, ⟨[_], _, _, rfl, by decide, by decide, rfl, wl_795, wl_805, fun z hz => by
        rcases List.mem_cons.mp hz with e8 | hz
        · rw [e8]; exact ⟨by decide, 2, wl_834, by decide⟩
        cases hz⟩, ?_⟩
      refine r_astore (L' := (6, (4, (q : Int))) :: [(0, (4, a0)), (1, (0, a1)), (2, (0, a2)), (3, (0, a3)), (4, (0, a4)), (5, (4, a5))]) dL_probe_21 (by decide) rfl ?_
      refine r_iconst (v := 2) dL_probe_23 rfl rfl ?_
      exact r_iret rfl dL_probe_24 ⟨_, rfl, 2, _, rfl, hP n hn⟩
    · cases hc
  · have h := hv v τ (Option.some.inj (hr.symm.trans hq))
    refine r_i2l dL_probe_12 ?_
    refine r_last dL_probe_13 h (fun τ h => ?_)
    refine r_goto 25 dL_probe_14 (by decide) ?_
    refine r_iconst (v := 0) dL_probe_25 rfl rfl ?_
    exact r_iret rfl dL_probe_26 h

theorem m_L_share {g : zF} (hl0 : g.2.2.2.1.stackTraces = false) {P : Int → zS → Prop} {a0 a1 a2 : Int} {σ : zS} (hobj : σ.1.1 a0 = some (0, 7)) (h : zcase (f_X7_share a0 a1 σ) [(2, 1)] (fun v τ => @ite _ (zI v) (zID v) (zsi 4 a2 0 v τ fun τ => some (.inl 0, τ)) none) P) : zm g Y_L_share R_L_share [(4, a0), (0, a1), (4, a2)] σ (zPc P) := by
  refine zm_ofH (by decide) (by intro q; cases q) (Nat.le_of_ble_eq_true rfl) ?_
  obtain ⟨r, hr, hv, hx⟩ := h
  refine r_aload_n 2 dL_share_0 rfl ?_
  refine r_iconst (v := 0) dL_share_1 rfl rfl ?_
  refine r_aload_n 0 dL_share_2 rfl ?_
  refine r_iload_n 1 dL_share_3 rfl ?_
  refine r_callVC (K' := Y_X7_share) (R' := R_X7_share) (idx := 132) (n := 1) (b := a0) (as := [(0, a1)]) (rest := [(0, 0), (4, a2)]) (cn := 7) (C' := 0) (D' := 0) k0_X7_share kV_X7_share kl_L_132 ⟨by decide, by decide⟩ dL_share_4 rfl rfl (Nat.le_of_ble_eq_true rfl) (by decide) (by decide) rfl hobj ⟨_, hr⟩ (fun r hr => m_X7_share hl0 ⟨r, hr, hr⟩) (fun ex τ n q hq hn => ?_) (fun v τ hq => ?_)
  · obtain ⟨c, hc, hP⟩ := hx ex τ (Option.some.inj (hr.symm.trans hq))
    rcases List.mem_cons.mp hc with e9 | hc
    · cases e9
      refine ⟨12, ⟨[], _, _, rfl, by decide, by decide, rfl, wl_834, wl_845, fun z hz => by cases hz⟩, ?_⟩
      refine r_astore_n (L' := (3, (4, (q : Int))) :: [(0, (4, a0)), (1, (0, a1)), (2, (4, a2))]) dL_share_12 (by decide) rfl ?_
      refine r_iconst (v := 1) dL_share_13 rfl rfl ?_
      exact r_iret rfl dL_share_14 ⟨_, rfl, 1, _, rfl, hP n hn⟩
    · cases hc
  · have h := hv v τ (Option.some.inj (hr.symm.trans hq))
    refine r_i2l dL_share_7 ?_
    refine r_last dL_share_8 h (fun τ h => ?_)
    refine r_goto 15 dL_share_9 (by decide) ?_
    refine r_iconst (v := 0) dL_share_15 rfl rfl ?_
    exact r_iret rfl dL_share_16 h

theorem m_L_relay {g : zF} (hl0 : g.2.2.2.1.stackTraces = false) {P : Int → zS → Prop} {a0 a1 a2 : Int} {σ : zS} (hobj : σ.1.1 a0 = some (0, 7)) (h : zcase (f_X7_relay a0 a1 σ) [(2, 1)] (fun v τ => @ite _ (zI v) (zID v) (zsi 4 a2 0 v τ fun τ => some (.inl 0, τ)) none) P) : zm g Y_L_relay R_L_relay [(4, a0), (0, a1), (4, a2)] σ (zPc P) := by
  refine zm_ofH (by decide) (by intro q; cases q) (Nat.le_of_ble_eq_true rfl) ?_
  obtain ⟨r, hr, hv, hx⟩ := h
  refine r_aload_n 2 dL_relay_0 rfl ?_
  refine r_iconst (v := 0) dL_relay_1 rfl rfl ?_
  refine r_aload_n 0 dL_relay_2 rfl ?_
  refine r_iload_n 1 dL_relay_3 rfl ?_
  refine r_callVC (K' := Y_X7_relay) (R' := R_X7_relay) (idx := 135) (n := 1) (b := a0) (as := [(0, a1)]) (rest := [(0, 0), (4, a2)]) (cn := 7) (C' := 0) (D' := 0) k0_X7_relay kV_X7_relay kl_L_135 ⟨by decide, by decide⟩ dL_relay_4 rfl rfl (Nat.le_of_ble_eq_true rfl) (by decide) (by decide) rfl hobj ⟨_, hr⟩ (fun r hr => m_X7_relay hl0 ⟨r, hr, hr⟩) (fun ex τ n q hq hn => ?_) (fun v τ hq => ?_)
  · obtain ⟨c, hc, hP⟩ := hx ex τ (Option.some.inj (hr.symm.trans hq))
    rcases List.mem_cons.mp hc with e9 | hc
    · cases e9
      refine ⟨12, ⟨[], _, _, rfl, by decide, by decide, rfl, wl_834, wl_845, fun z hz => by cases hz⟩, ?_⟩
      refine r_astore_n (L' := (3, (4, (q : Int))) :: [(0, (4, a0)), (1, (0, a1)), (2, (4, a2))]) dL_relay_12 (by decide) rfl ?_
      refine r_iconst (v := 1) dL_relay_13 rfl rfl ?_
      exact r_iret rfl dL_relay_14 ⟨_, rfl, 1, _, rfl, hP n hn⟩
    · cases hc
  · have h := hv v τ (Option.some.inj (hr.symm.trans hq))
    refine r_i2l dL_relay_7 ?_
    refine r_last dL_relay_8 h (fun τ h => ?_)
    refine r_goto 15 dL_relay_9 (by decide) ?_
    refine r_iconst (v := 0) dL_relay_15 rfl rfl ?_
    exact r_iret rfl dL_relay_16 h

theorem m_L_deliver {g : zF} (hl0 : g.2.2.2.1.stackTraces = false) {P : Int → zS → Prop} {a0 a1 a2 : Int} {σ : zS} (hobj : σ.1.1 a0 = some (0, 7)) (h : zcase (f_X7_deliver a0 a1 σ) [(1, 1)] (fun v τ => @ite _ (zI v) (zID v) (zsi 4 a2 0 v τ fun τ => some (.inl 0, τ)) none) P) : zm g Y_L_deliver R_L_deliver [(4, a0), (0, a1), (4, a2)] σ (zPc P) := by
  refine zm_ofH (by decide) (by intro q; cases q) (Nat.le_of_ble_eq_true rfl) ?_
  obtain ⟨r, hr, hv, hx⟩ := h
  refine r_aload_n 2 dL_deliver_0 rfl ?_
  refine r_iconst (v := 0) dL_deliver_1 rfl rfl ?_
  refine r_aload_n 0 dL_deliver_2 rfl ?_
  refine r_iload_n 1 dL_deliver_3 rfl ?_
  refine r_callVC (K' := Y_X7_deliver) (R' := R_X7_deliver) (idx := 138) (n := 1) (b := a0) (as := [(0, a1)]) (rest := [(0, 0), (4, a2)]) (cn := 7) (C' := 0) (D' := 0) k0_X7_deliver kV_X7_deliver kl_L_138 ⟨by decide, by decide⟩ dL_deliver_4 rfl rfl (Nat.le_of_ble_eq_true rfl) (by decide) (by decide) rfl hobj ⟨_, hr⟩ (fun r hr => m_X7_deliver hl0 ⟨r, hr, hr⟩) (fun ex τ n q hq hn => ?_) (fun v τ hq => ?_)
  · obtain ⟨c, hc, hP⟩ := hx ex τ (Option.some.inj (hr.symm.trans hq))
    rcases List.mem_cons.mp hc with e9 | hc
    · cases e9
      refine ⟨12, ⟨[], _, _, rfl, by decide, by decide, rfl, wl_795, wl_805, fun z hz => by cases hz⟩, ?_⟩
      refine r_astore_n (L' := (3, (4, (q : Int))) :: [(0, (4, a0)), (1, (0, a1)), (2, (4, a2))]) dL_deliver_12 (by decide) rfl ?_
      refine r_iconst (v := 1) dL_deliver_13 rfl rfl ?_
      exact r_iret rfl dL_deliver_14 ⟨_, rfl, 1, _, rfl, hP n hn⟩
    · cases hc
  · have h := hv v τ (Option.some.inj (hr.symm.trans hq))
    refine r_i2l dL_deliver_7 ?_
    refine r_last dL_deliver_8 h (fun τ h => ?_)
    refine r_goto 15 dL_deliver_9 (by decide) ?_
    refine r_iconst (v := 0) dL_deliver_15 rfl rfl ?_
    exact r_iret rfl dL_deliver_16 h

theorem m_L_lose {g : zF} (hl0 : g.2.2.2.1.stackTraces = false) {P : Int → zS → Prop} {a0 a1 : Int} {σ : zS} (hobj : σ.1.1 a0 = some (0, 7)) (h : zcase (f_X7_lose a0 σ) [(0, 1)] (fun v τ => @ite _ (zI v) (zID v) (zsi 4 a1 0 v τ fun τ => some (.inl 0, τ)) none) P) : zm g Y_L_lose R_L_lose [(4, a0), (4, a1)] σ (zPc P) := by
  refine zm_ofH (by decide) (by intro q; cases q) (Nat.le_of_ble_eq_true rfl) ?_
  obtain ⟨r, hr, hv, hx⟩ := h
  refine r_aload_n 1 dL_lose_0 rfl ?_
  refine r_iconst (v := 0) dL_lose_1 rfl rfl ?_
  refine r_aload_n 0 dL_lose_2 rfl ?_
  refine r_callVC (K' := Y_X7_lose) (R' := R_X7_lose) (idx := 141) (n := 0) (b := a0) (as := []) (rest := [(0, 0), (4, a1)]) (cn := 7) (C' := 0) (D' := 0) k0_X7_lose kV_X7_lose kl_L_141 ⟨by decide, by decide⟩ dL_lose_3 rfl rfl (Nat.le_of_ble_eq_true rfl) (by decide) (by decide) rfl hobj ⟨_, hr⟩ (fun r hr => m_X7_lose hl0 ⟨r, hr, hr⟩) (fun ex τ n q hq hn => ?_) (fun v τ hq => ?_)
  · obtain ⟨c, hc, hP⟩ := hx ex τ (Option.some.inj (hr.symm.trans hq))
    rcases List.mem_cons.mp hc with e9 | hc
    · cases e9
      refine ⟨11, ⟨[], _, _, rfl, by decide, by decide, rfl, wl_711, wl_718, fun z hz => by cases hz⟩, ?_⟩
      refine r_astore_n (L' := (2, (4, (q : Int))) :: [(0, (4, a0)), (1, (4, a1))]) dL_lose_11 (by decide) rfl ?_
      refine r_iconst (v := 1) dL_lose_12 rfl rfl ?_
      exact r_iret rfl dL_lose_13 ⟨_, rfl, 1, _, rfl, hP n hn⟩
    · cases hc
  · have h := hv v τ (Option.some.inj (hr.symm.trans hq))
    refine r_i2l dL_lose_6 ?_
    refine r_last dL_lose_7 h (fun τ h => ?_)
    refine r_goto 14 dL_lose_8 (by decide) ?_
    refine r_iconst (v := 0) dL_lose_14 rfl rfl ?_
    exact r_iret rfl dL_lose_15 h

theorem m_L_exchange {g : zF} (hl0 : g.2.2.2.1.stackTraces = false) {P : Int → zS → Prop} {a0 a1 a2 : Int} {σ : zS} (hobj : σ.1.1 a0 = some (0, 7)) (h : zcase (f_X7_exchange a0 a1 σ) [(1, 1)] (fun v τ => @ite _ (zI v) (zID v) (zsi 4 a2 0 v τ fun τ => some (.inl 0, τ)) none) P) : zm g Y_L_exchange R_L_exchange [(4, a0), (0, a1), (4, a2)] σ (zPc P) := by
  refine zm_ofH (by decide) (by intro q; cases q) (Nat.le_of_ble_eq_true rfl) ?_
  obtain ⟨r, hr, hv, hx⟩ := h
  refine r_aload_n 2 dL_exchange_0 rfl ?_
  refine r_iconst (v := 0) dL_exchange_1 rfl rfl ?_
  refine r_aload_n 0 dL_exchange_2 rfl ?_
  refine r_iload_n 1 dL_exchange_3 rfl ?_
  refine r_callVC (K' := Y_X7_exchange) (R' := R_X7_exchange) (idx := 145) (n := 1) (b := a0) (as := [(0, a1)]) (rest := [(0, 0), (4, a2)]) (cn := 7) (C' := 0) (D' := 0) k0_X7_exchange kV_X7_exchange kl_L_145 ⟨by decide, by decide⟩ dL_exchange_4 rfl rfl (Nat.le_of_ble_eq_true rfl) (by decide) (by decide) rfl hobj ⟨_, hr⟩ (fun r hr => m_X7_exchange hl0 ⟨r, hr, hr⟩) (fun ex τ n q hq hn => ?_) (fun v τ hq => ?_)
  · obtain ⟨c, hc, hP⟩ := hx ex τ (Option.some.inj (hr.symm.trans hq))
    rcases List.mem_cons.mp hc with e9 | hc
    · cases e9
      refine ⟨12, ⟨[], _, _, rfl, by decide, by decide, rfl, wl_795, wl_805, fun z hz => by cases hz⟩, ?_⟩
      refine r_astore_n (L' := (3, (4, (q : Int))) :: [(0, (4, a0)), (1, (0, a1)), (2, (4, a2))]) dL_exchange_12 (by decide) rfl ?_
      refine r_iconst (v := 1) dL_exchange_13 rfl rfl ?_
      exact r_iret rfl dL_exchange_14 ⟨_, rfl, 1, _, rfl, hP n hn⟩
    · cases hc
  · have h := hv v τ (Option.some.inj (hr.symm.trans hq))
    refine r_i2l dL_exchange_7 ?_
    refine r_last dL_exchange_8 h (fun τ h => ?_)
    refine r_goto 15 dL_exchange_9 (by decide) ?_
    refine r_iconst (v := 0) dL_exchange_15 rfl rfl ?_
    exact r_iret rfl dL_exchange_16 h

theorem m_L_pass {g : zF} (hl0 : g.2.2.2.1.stackTraces = false) {P : Int → zS → Prop} {a0 a1 a2 : Int} {σ : zS} (hobj : σ.1.1 a0 = some (0, 7)) (h : zcase (f_X7_pass a0 a1 σ) [(1, 1)] (fun v τ => @ite _ (zI v) (zID v) (zsi 4 a2 0 v τ fun τ => some (.inl 0, τ)) none) P) : zm g Y_L_pass R_L_pass [(4, a0), (0, a1), (4, a2)] σ (zPc P) := by
  refine zm_ofH (by decide) (by intro q; cases q) (Nat.le_of_ble_eq_true rfl) ?_
  obtain ⟨r, hr, hv, hx⟩ := h
  refine r_aload_n 2 dL_pass_0 rfl ?_
  refine r_iconst (v := 0) dL_pass_1 rfl rfl ?_
  refine r_aload_n 0 dL_pass_2 rfl ?_
  refine r_iload_n 1 dL_pass_3 rfl ?_
  refine r_callVC (K' := Y_X7_pass) (R' := R_X7_pass) (idx := 148) (n := 1) (b := a0) (as := [(0, a1)]) (rest := [(0, 0), (4, a2)]) (cn := 7) (C' := 0) (D' := 0) k0_X7_pass kV_X7_pass kl_L_148 ⟨by decide, by decide⟩ dL_pass_4 rfl rfl (Nat.le_of_ble_eq_true rfl) (by decide) (by decide) rfl hobj ⟨_, hr⟩ (fun r hr => m_X7_pass hl0 ⟨r, hr, hr⟩) (fun ex τ n q hq hn => ?_) (fun v τ hq => ?_)
  · obtain ⟨c, hc, hP⟩ := hx ex τ (Option.some.inj (hr.symm.trans hq))
    rcases List.mem_cons.mp hc with e9 | hc
    · cases e9
      refine ⟨12, ⟨[], _, _, rfl, by decide, by decide, rfl, wl_795, wl_805, fun z hz => by cases hz⟩, ?_⟩
      refine r_astore_n (L' := (3, (4, (q : Int))) :: [(0, (4, a0)), (1, (0, a1)), (2, (4, a2))]) dL_pass_12 (by decide) rfl ?_
      refine r_iconst (v := 1) dL_pass_13 rfl rfl ?_
      exact r_iret rfl dL_pass_14 ⟨_, rfl, 1, _, rfl, hP n hn⟩
    · cases hc
  · have h := hv v τ (Option.some.inj (hr.symm.trans hq))
    refine r_i2l dL_pass_7 ?_
    refine r_last dL_pass_8 h (fun τ h => ?_)
    refine r_goto 15 dL_pass_9 (by decide) ?_
    refine r_iconst (v := 0) dL_pass_15 rfl rfl ?_
    exact r_iret rfl dL_pass_16 h

theorem m_L_link {g : zF} (hl0 : g.2.2.2.1.stackTraces = false) {P : Int → zS → Prop} {a0 a1 a2 a3 a4 : Int} {σ : zS} (hobj : σ.1.1 a0 = some (0, 7)) (h : zcase (f_X7_link a0 a1 a2 a3 σ) [(2, 1), (1, 2)] (fun v τ => if v = 0 then @ite _ (zI 0) (zID 0) (zsi 4 a4 0 0 τ fun τ => some (.inl 0, τ)) none else @ite _ (zI 1) (zID 1) (zsi 4 a4 0 1 τ fun τ => some (.inl 0, τ)) none) P) : zm g Y_L_link R_L_link [(4, a0), (0, a1), (0, a2), (0, a3), (4, a4)] σ (zPc P) := by
  refine zm_ofH (by decide) (by intro q; cases q) (Nat.le_of_ble_eq_true rfl) ?_
  obtain ⟨r, hr, hv, hx⟩ := h
  refine r_aload 4 dL_link_0 rfl ?_
  refine r_iconst (v := 0) dL_link_2 rfl rfl ?_
  refine r_aload_n 0 dL_link_3 rfl ?_
  refine r_iload_n 1 dL_link_4 rfl ?_
  refine r_iload_n 2 dL_link_5 rfl ?_
  refine r_iload_n 3 dL_link_6 rfl ?_
  refine r_callVC (K' := Y_X7_link) (R' := R_X7_link) (idx := 151) (n := 3) (b := a0) (as := [(0, a1), (0, a2), (0, a3)]) (rest := [(0, 0), (4, a4)]) (cn := 7) (C' := 0) (D' := 0) k0_X7_link kV_X7_link kl_L_151 ⟨by decide, by decide⟩ dL_link_7 rfl rfl (Nat.le_of_ble_eq_true rfl) (by decide) (by decide) rfl hobj ⟨_, hr⟩ (fun r hr => m_X7_link hl0 ⟨r, hr, hr⟩) (fun ex τ n q hq hn => ?_) (fun v τ hq => ?_)
  · obtain ⟨c, hc, hP⟩ := hx ex τ (Option.some.inj (hr.symm.trans hq))
    rcases List.mem_cons.mp hc with e9 | hc
    · cases e9
      refine ⟨22, ⟨[], _, _, rfl, by decide, by decide, rfl, wl_834, wl_845, fun z hz => by cases hz⟩, ?_⟩
      refine r_astore (L' := (5, (4, (q : Int))) :: [(0, (4, a0)), (1, (0, a1)), (2, (0, a2)), (3, (0, a3)), (4, (4, a4))]) dL_link_22 (by decide) rfl ?_
      refine r_iconst (v := 1) dL_link_24 rfl rfl ?_
      exact r_iret rfl dL_link_25 ⟨_, rfl, 1, _, rfl, hP n hn⟩
    rcases List.mem_cons.mp hc with e9 | hc
    · cases e9
      refine ⟨26, ⟨[_], _, _, rfl, by decide, by decide, rfl, wl_795, wl_805, fun z hz => by
        rcases List.mem_cons.mp hz with e8 | hz
        · rw [e8]; exact ⟨by decide, 2, wl_834, by decide⟩
        cases hz⟩, ?_⟩
      refine r_astore (L' := (5, (4, (q : Int))) :: [(0, (4, a0)), (1, (0, a1)), (2, (0, a2)), (3, (0, a3)), (4, (4, a4))]) dL_link_26 (by decide) rfl ?_
      refine r_iconst (v := 2) dL_link_28 rfl rfl ?_
      exact r_iret rfl dL_link_29 ⟨_, rfl, 2, _, rfl, hP n hn⟩
    · cases hc
  · have h := hv v τ (Option.some.inj (hr.symm.trans hq))
    refine r_if_eq 17 dL_link_10 (by decide) h (fun h => ?_) (fun h => ?_)
    · refine r_lconst dL_link_17 ?_
      refine r_last dL_link_18 h (fun τ h => ?_)
      refine r_goto 30 dL_link_19 (by decide) ?_
      refine r_iconst (v := 0) dL_link_30 rfl rfl ?_
      exact r_iret rfl dL_link_31 h
    · refine r_lconst dL_link_13 ?_
      refine r_goto 18 dL_link_14 (by decide) ?_
      refine r_last dL_link_18 h (fun τ h => ?_)
      refine r_goto 30 dL_link_19 (by decide) ?_
      refine r_iconst (v := 0) dL_link_30 rfl rfl ?_
      exact r_iret rfl dL_link_31 h

theorem m_L_setTrust {g : zF} (hl0 : g.2.2.2.1.stackTraces = false) {P : Int → zS → Prop} {a0 a1 a2 a3 a4 : Int} {σ : zS} (hobj : σ.1.1 a0 = some (0, 7)) (h : zcase (f_X7_setTrust a0 a1 a2 a3 σ) [(2, 1), (1, 2), (0, 3)] (fun v τ => @ite _ (zI v) (zID v) (zsi 4 a4 0 v τ fun τ => some (.inl 0, τ)) none) P) : zm g Y_L_setTrust R_L_setTrust [(4, a0), (0, a1), (0, a2), (0, a3), (4, a4)] σ (zPc P) := by
  refine zm_ofH (by decide) (by intro q; cases q) (Nat.le_of_ble_eq_true rfl) ?_
  obtain ⟨r, hr, hv, hx⟩ := h
  refine r_aload 4 dL_setTrust_0 rfl ?_
  refine r_iconst (v := 0) dL_setTrust_2 rfl rfl ?_
  refine r_aload_n 0 dL_setTrust_3 rfl ?_
  refine r_iload_n 1 dL_setTrust_4 rfl ?_
  refine r_iload_n 2 dL_setTrust_5 rfl ?_
  refine r_iload_n 3 dL_setTrust_6 rfl ?_
  refine r_callVC (K' := Y_X7_setTrust) (R' := R_X7_setTrust) (idx := 155) (n := 3) (b := a0) (as := [(0, a1), (0, a2), (0, a3)]) (rest := [(0, 0), (4, a4)]) (cn := 7) (C' := 0) (D' := 0) k0_X7_setTrust kV_X7_setTrust kl_L_155 ⟨by decide, by decide⟩ dL_setTrust_7 rfl rfl (Nat.le_of_ble_eq_true rfl) (by decide) (by decide) rfl hobj ⟨_, hr⟩ (fun r hr => m_X7_setTrust hl0 ⟨r, hr, hr⟩) (fun ex τ n q hq hn => ?_) (fun v τ hq => ?_)
  · obtain ⟨c, hc, hP⟩ := hx ex τ (Option.some.inj (hr.symm.trans hq))
    rcases List.mem_cons.mp hc with e9 | hc
    · cases e9
      refine ⟨15, ⟨[], _, _, rfl, by decide, by decide, rfl, wl_834, wl_845, fun z hz => by cases hz⟩, ?_⟩
      refine r_astore (L' := (5, (4, (q : Int))) :: [(0, (4, a0)), (1, (0, a1)), (2, (0, a2)), (3, (0, a3)), (4, (4, a4))]) dL_setTrust_15 (by decide) rfl ?_
      refine r_iconst (v := 1) dL_setTrust_17 rfl rfl ?_
      exact r_iret rfl dL_setTrust_18 ⟨_, rfl, 1, _, rfl, hP n hn⟩
    rcases List.mem_cons.mp hc with e9 | hc
    · cases e9
      refine ⟨19, ⟨[_], _, _, rfl, by decide, by decide, rfl, wl_795, wl_805, fun z hz => by
        rcases List.mem_cons.mp hz with e8 | hz
        · rw [e8]; exact ⟨by decide, 2, wl_834, by decide⟩
        cases hz⟩, ?_⟩
      refine r_astore (L' := (5, (4, (q : Int))) :: [(0, (4, a0)), (1, (0, a1)), (2, (0, a2)), (3, (0, a3)), (4, (4, a4))]) dL_setTrust_19 (by decide) rfl ?_
      refine r_iconst (v := 2) dL_setTrust_21 rfl rfl ?_
      exact r_iret rfl dL_setTrust_22 ⟨_, rfl, 2, _, rfl, hP n hn⟩
    rcases List.mem_cons.mp hc with e9 | hc
    · cases e9
      refine ⟨23, ⟨[_, _], _, _, rfl, by decide, by decide, rfl, wl_711, wl_718, fun z hz => by
        rcases List.mem_cons.mp hz with e8 | hz
        · rw [e8]; exact ⟨by decide, 2, wl_834, by decide⟩
        rcases List.mem_cons.mp hz with e8 | hz
        · rw [e8]; exact ⟨by decide, 1, wl_795, by decide⟩
        cases hz⟩, ?_⟩
      refine r_astore (L' := (5, (4, (q : Int))) :: [(0, (4, a0)), (1, (0, a1)), (2, (0, a2)), (3, (0, a3)), (4, (4, a4))]) dL_setTrust_23 (by decide) rfl ?_
      refine r_iconst (v := 3) dL_setTrust_25 rfl rfl ?_
      exact r_iret rfl dL_setTrust_26 ⟨_, rfl, 3, _, rfl, hP n hn⟩
    · cases hc
  · have h := hv v τ (Option.some.inj (hr.symm.trans hq))
    refine r_i2l dL_setTrust_10 ?_
    refine r_last dL_setTrust_11 h (fun τ h => ?_)
    refine r_goto 27 dL_setTrust_12 (by decide) ?_
    refine r_iconst (v := 0) dL_setTrust_27 rfl rfl ?_
    exact r_iret rfl dL_setTrust_28 h

theorem m_L_setRule {g : zF} (hl0 : g.2.2.2.1.stackTraces = false) {P : Int → zS → Prop} {a0 a1 a2 a3 : Int} {σ : zS} (hobj : σ.1.1 a0 = some (0, 7)) (h : zcase (f_X7_setRule a0 a1 a2 σ) [(1, 1)] (fun v τ => @ite _ (zI v) (zID v) (zsi 4 a3 0 v τ fun τ => some (.inl 0, τ)) none) P) : zm g Y_L_setRule R_L_setRule [(4, a0), (0, a1), (0, a2), (4, a3)] σ (zPc P) := by
  refine zm_ofH (by decide) (by intro q; cases q) (Nat.le_of_ble_eq_true rfl) ?_
  obtain ⟨r, hr, hv, hx⟩ := h
  refine r_aload_n 3 dL_setRule_0 rfl ?_
  refine r_iconst (v := 0) dL_setRule_1 rfl rfl ?_
  refine r_aload_n 0 dL_setRule_2 rfl ?_
  refine r_iload_n 1 dL_setRule_3 rfl ?_
  refine r_iload_n 2 dL_setRule_4 rfl ?_
  refine r_callVC (K' := Y_X7_setRule) (R' := R_X7_setRule) (idx := 158) (n := 2) (b := a0) (as := [(0, a1), (0, a2)]) (rest := [(0, 0), (4, a3)]) (cn := 7) (C' := 0) (D' := 0) k0_X7_setRule kV_X7_setRule kl_L_158 ⟨by decide, by decide⟩ dL_setRule_5 rfl rfl (Nat.le_of_ble_eq_true rfl) (by decide) (by decide) rfl hobj ⟨_, hr⟩ (fun r hr => m_X7_setRule hl0 ⟨r, hr, hr⟩) (fun ex τ n q hq hn => ?_) (fun v τ hq => ?_)
  · obtain ⟨c, hc, hP⟩ := hx ex τ (Option.some.inj (hr.symm.trans hq))
    rcases List.mem_cons.mp hc with e9 | hc
    · cases e9
      refine ⟨13, ⟨[], _, _, rfl, by decide, by decide, rfl, wl_795, wl_805, fun z hz => by cases hz⟩, ?_⟩
      refine r_astore (L' := (4, (4, (q : Int))) :: [(0, (4, a0)), (1, (0, a1)), (2, (0, a2)), (3, (4, a3))]) dL_setRule_13 (by decide) rfl ?_
      refine r_iconst (v := 1) dL_setRule_15 rfl rfl ?_
      exact r_iret rfl dL_setRule_16 ⟨_, rfl, 1, _, rfl, hP n hn⟩
    · cases hc
  · have h := hv v τ (Option.some.inj (hr.symm.trans hq))
    refine r_i2l dL_setRule_8 ?_
    refine r_last dL_setRule_9 h (fun τ h => ?_)
    refine r_goto 17 dL_setRule_10 (by decide) ?_
    refine r_iconst (v := 0) dL_setRule_17 rfl rfl ?_
    exact r_iret rfl dL_setRule_18 h

theorem m_L_forget {g : zF} (hl0 : g.2.2.2.1.stackTraces = false) {P : Int → zS → Prop} {a0 a1 a2 a3 : Int} {σ : zS} (hobj : σ.1.1 a0 = some (0, 7)) (h : zcase (f_X7_forget a0 a1 a2 σ) [(2, 1)] (fun v τ => @ite _ (zI v) (zID v) (zsi 4 a3 0 v τ fun τ => some (.inl 0, τ)) none) P) : zm g Y_L_forget R_L_forget [(4, a0), (0, a1), (0, a2), (4, a3)] σ (zPc P) := by
  refine zm_ofH (by decide) (by intro q; cases q) (Nat.le_of_ble_eq_true rfl) ?_
  obtain ⟨r, hr, hv, hx⟩ := h
  refine r_aload_n 3 dL_forget_0 rfl ?_
  refine r_iconst (v := 0) dL_forget_1 rfl rfl ?_
  refine r_aload_n 0 dL_forget_2 rfl ?_
  refine r_iload_n 1 dL_forget_3 rfl ?_
  refine r_iload_n 2 dL_forget_4 rfl ?_
  refine r_callVC (K' := Y_X7_forget) (R' := R_X7_forget) (idx := 161) (n := 2) (b := a0) (as := [(0, a1), (0, a2)]) (rest := [(0, 0), (4, a3)]) (cn := 7) (C' := 0) (D' := 0) k0_X7_forget kV_X7_forget kl_L_161 ⟨by decide, by decide⟩ dL_forget_5 rfl rfl (Nat.le_of_ble_eq_true rfl) (by decide) (by decide) rfl hobj ⟨_, hr⟩ (fun r hr => m_X7_forget hl0 ⟨r, hr, hr⟩) (fun ex τ n q hq hn => ?_) (fun v τ hq => ?_)
  · obtain ⟨c, hc, hP⟩ := hx ex τ (Option.some.inj (hr.symm.trans hq))
    rcases List.mem_cons.mp hc with e9 | hc
    · cases e9
      refine ⟨13, ⟨[], _, _, rfl, by decide, by decide, rfl, wl_834, wl_845, fun z hz => by cases hz⟩, ?_⟩
      refine r_astore (L' := (4, (4, (q : Int))) :: [(0, (4, a0)), (1, (0, a1)), (2, (0, a2)), (3, (4, a3))]) dL_forget_13 (by decide) rfl ?_
      refine r_iconst (v := 1) dL_forget_15 rfl rfl ?_
      exact r_iret rfl dL_forget_16 ⟨_, rfl, 1, _, rfl, hP n hn⟩
    · cases hc
  · have h := hv v τ (Option.some.inj (hr.symm.trans hq))
    refine r_i2l dL_forget_8 ?_
    refine r_last dL_forget_9 h (fun τ h => ?_)
    refine r_goto 17 dL_forget_10 (by decide) ?_
    refine r_iconst (v := 0) dL_forget_17 rfl rfl ?_
    exact r_iret rfl dL_forget_18 h

theorem m_L_cleanse {g : zF} (hl0 : g.2.2.2.1.stackTraces = false) {P : Int → zS → Prop} {a0 a1 a2 : Int} {σ : zS} (hobj : σ.1.1 a0 = some (0, 7)) (h : zcase (f_X7_cleanse a0 a1 σ) [(2, 1)] (fun v τ => @ite _ (zI v) (zID v) (zsi 4 a2 0 v τ fun τ => some (.inl 0, τ)) none) P) : zm g Y_L_cleanse R_L_cleanse [(4, a0), (0, a1), (4, a2)] σ (zPc P) := by
  refine zm_ofH (by decide) (by intro q; cases q) (Nat.le_of_ble_eq_true rfl) ?_
  obtain ⟨r, hr, hv, hx⟩ := h
  refine r_aload_n 2 dL_cleanse_0 rfl ?_
  refine r_iconst (v := 0) dL_cleanse_1 rfl rfl ?_
  refine r_aload_n 0 dL_cleanse_2 rfl ?_
  refine r_iload_n 1 dL_cleanse_3 rfl ?_
  refine r_callVC (K' := Y_X7_cleanse) (R' := R_X7_cleanse) (idx := 164) (n := 1) (b := a0) (as := [(0, a1)]) (rest := [(0, 0), (4, a2)]) (cn := 7) (C' := 0) (D' := 0) k0_X7_cleanse kV_X7_cleanse kl_L_164 ⟨by decide, by decide⟩ dL_cleanse_4 rfl rfl (Nat.le_of_ble_eq_true rfl) (by decide) (by decide) rfl hobj ⟨_, hr⟩ (fun r hr => m_X7_cleanse hl0 ⟨r, hr, hr⟩) (fun ex τ n q hq hn => ?_) (fun v τ hq => ?_)
  · obtain ⟨c, hc, hP⟩ := hx ex τ (Option.some.inj (hr.symm.trans hq))
    rcases List.mem_cons.mp hc with e9 | hc
    · cases e9
      refine ⟨12, ⟨[], _, _, rfl, by decide, by decide, rfl, wl_834, wl_845, fun z hz => by cases hz⟩, ?_⟩
      refine r_astore_n (L' := (3, (4, (q : Int))) :: [(0, (4, a0)), (1, (0, a1)), (2, (4, a2))]) dL_cleanse_12 (by decide) rfl ?_
      refine r_iconst (v := 1) dL_cleanse_13 rfl rfl ?_
      exact r_iret rfl dL_cleanse_14 ⟨_, rfl, 1, _, rfl, hP n hn⟩
    · cases hc
  · have h := hv v τ (Option.some.inj (hr.symm.trans hq))
    refine r_i2l dL_cleanse_7 ?_
    refine r_last dL_cleanse_8 h (fun τ h => ?_)
    refine r_goto 15 dL_cleanse_9 (by decide) ?_
    refine r_iconst (v := 0) dL_cleanse_15 rfl rfl ?_
    exact r_iret rfl dL_cleanse_16 h

theorem m_L_keep {g : zF} (hl0 : g.2.2.2.1.stackTraces = false) {P : Int → zS → Prop} {a0 a1 a2 : Int} {σ : zS} (hobj : σ.1.1 a0 = some (0, 7)) (h : zcase (f_X7_keep a0 a1 σ) [(2, 1)] (fun v τ => @ite _ (zI v) (zID v) (zsi 4 a2 0 v τ fun τ => some (.inl 0, τ)) none) P) : zm g Y_L_keep R_L_keep [(4, a0), (0, a1), (4, a2)] σ (zPc P) := by
  refine zm_ofH (by decide) (by intro q; cases q) (Nat.le_of_ble_eq_true rfl) ?_
  obtain ⟨r, hr, hv, hx⟩ := h
  refine r_aload_n 2 dL_keep_0 rfl ?_
  refine r_iconst (v := 0) dL_keep_1 rfl rfl ?_
  refine r_aload_n 0 dL_keep_2 rfl ?_
  refine r_iload_n 1 dL_keep_3 rfl ?_
  refine r_callVC (K' := Y_X7_keep) (R' := R_X7_keep) (idx := 167) (n := 1) (b := a0) (as := [(0, a1)]) (rest := [(0, 0), (4, a2)]) (cn := 7) (C' := 0) (D' := 0) k0_X7_keep kV_X7_keep kl_L_167 ⟨by decide, by decide⟩ dL_keep_4 rfl rfl (Nat.le_of_ble_eq_true rfl) (by decide) (by decide) rfl hobj ⟨_, hr⟩ (fun r hr => m_X7_keep hl0 ⟨r, hr, hr⟩) (fun ex τ n q hq hn => ?_) (fun v τ hq => ?_)
  · obtain ⟨c, hc, hP⟩ := hx ex τ (Option.some.inj (hr.symm.trans hq))
    rcases List.mem_cons.mp hc with e9 | hc
    · cases e9
      refine ⟨12, ⟨[], _, _, rfl, by decide, by decide, rfl, wl_834, wl_845, fun z hz => by cases hz⟩, ?_⟩
      refine r_astore_n (L' := (3, (4, (q : Int))) :: [(0, (4, a0)), (1, (0, a1)), (2, (4, a2))]) dL_keep_12 (by decide) rfl ?_
      refine r_iconst (v := 1) dL_keep_13 rfl rfl ?_
      exact r_iret rfl dL_keep_14 ⟨_, rfl, 1, _, rfl, hP n hn⟩
    · cases hc
  · have h := hv v τ (Option.some.inj (hr.symm.trans hq))
    refine r_i2l dL_keep_7 ?_
    refine r_last dL_keep_8 h (fun τ h => ?_)
    refine r_goto 15 dL_keep_9 (by decide) ?_
    refine r_iconst (v := 0) dL_keep_15 rfl rfl ?_
    exact r_iret rfl dL_keep_16 h

theorem m_L_restore {g : zF} (hl0 : g.2.2.2.1.stackTraces = false) {P : Int → zS → Prop} {a0 a1 a2 : Int} {σ : zS} (hobj : σ.1.1 a0 = some (0, 7)) (h : zcase (f_X7_restore a0 a1 σ) [(2, 1), (0, 2)] (fun v τ => @ite _ (zI v) (zID v) (zsi 4 a2 0 v τ fun τ => some (.inl 0, τ)) none) P) : zm g Y_L_restore R_L_restore [(4, a0), (0, a1), (4, a2)] σ (zPc P) := by
  refine zm_ofH (by decide) (by intro q; cases q) (Nat.le_of_ble_eq_true rfl) ?_
  obtain ⟨r, hr, hv, hx⟩ := h
  refine r_aload_n 2 dL_restore_0 rfl ?_
  refine r_iconst (v := 0) dL_restore_1 rfl rfl ?_
  refine r_aload_n 0 dL_restore_2 rfl ?_
  refine r_iload_n 1 dL_restore_3 rfl ?_
  refine r_callVC (K' := Y_X7_restore) (R' := R_X7_restore) (idx := 170) (n := 1) (b := a0) (as := [(0, a1)]) (rest := [(0, 0), (4, a2)]) (cn := 7) (C' := 0) (D' := 0) k0_X7_restore kV_X7_restore kl_L_170 ⟨by decide, by decide⟩ dL_restore_4 rfl rfl (Nat.le_of_ble_eq_true rfl) (by decide) (by decide) rfl hobj ⟨_, hr⟩ (fun r hr => m_X7_restore hl0 ⟨r, hr, hr⟩) (fun ex τ n q hq hn => ?_) (fun v τ hq => ?_)
  · obtain ⟨c, hc, hP⟩ := hx ex τ (Option.some.inj (hr.symm.trans hq))
    rcases List.mem_cons.mp hc with e9 | hc
    · cases e9
      refine ⟨12, ⟨[], _, _, rfl, by decide, by decide, rfl, wl_834, wl_845, fun z hz => by cases hz⟩, ?_⟩
      refine r_astore_n (L' := (3, (4, (q : Int))) :: [(0, (4, a0)), (1, (0, a1)), (2, (4, a2))]) dL_restore_12 (by decide) rfl ?_
      refine r_iconst (v := 1) dL_restore_13 rfl rfl ?_
      exact r_iret rfl dL_restore_14 ⟨_, rfl, 1, _, rfl, hP n hn⟩
    rcases List.mem_cons.mp hc with e9 | hc
    · cases e9
      refine ⟨15, ⟨[_], _, _, rfl, by decide, by decide, rfl, wl_711, wl_718, fun z hz => by
        rcases List.mem_cons.mp hz with e8 | hz
        · rw [e8]; exact ⟨by decide, 2, wl_834, by decide⟩
        cases hz⟩, ?_⟩
      refine r_astore_n (L' := (3, (4, (q : Int))) :: [(0, (4, a0)), (1, (0, a1)), (2, (4, a2))]) dL_restore_15 (by decide) rfl ?_
      refine r_iconst (v := 2) dL_restore_16 rfl rfl ?_
      exact r_iret rfl dL_restore_17 ⟨_, rfl, 2, _, rfl, hP n hn⟩
    · cases hc
  · have h := hv v τ (Option.some.inj (hr.symm.trans hq))
    refine r_i2l dL_restore_7 ?_
    refine r_last dL_restore_8 h (fun τ h => ?_)
    refine r_goto 18 dL_restore_9 (by decide) ?_
    refine r_iconst (v := 0) dL_restore_18 rfl rfl ?_
    exact r_iret rfl dL_restore_19 h

theorem m_L_undo {g : zF} (hl0 : g.2.2.2.1.stackTraces = false) {P : Int → zS → Prop} {a0 a1 : Int} {σ : zS} (hobj : σ.1.1 a0 = some (0, 7)) (h : zcase (f_X7_undo a0 σ) [(0, 1)] (fun v τ => @ite _ (zI v) (zID v) (zsi 4 a1 0 v τ fun τ => some (.inl 0, τ)) none) P) : zm g Y_L_undo R_L_undo [(4, a0), (4, a1)] σ (zPc P) := by
  refine zm_ofH (by decide) (by intro q; cases q) (Nat.le_of_ble_eq_true rfl) ?_
  obtain ⟨r, hr, hv, hx⟩ := h
  refine r_aload_n 1 dL_undo_0 rfl ?_
  refine r_iconst (v := 0) dL_undo_1 rfl rfl ?_
  refine r_aload_n 0 dL_undo_2 rfl ?_
  refine r_callVC (K' := Y_X7_undo) (R' := R_X7_undo) (idx := 173) (n := 0) (b := a0) (as := []) (rest := [(0, 0), (4, a1)]) (cn := 7) (C' := 0) (D' := 0) k0_X7_undo kV_X7_undo kl_L_173 ⟨by decide, by decide⟩ dL_undo_3 rfl rfl (Nat.le_of_ble_eq_true rfl) (by decide) (by decide) rfl hobj ⟨_, hr⟩ (fun r hr => m_X7_undo hl0 ⟨r, hr, hr⟩) (fun ex τ n q hq hn => ?_) (fun v τ hq => ?_)
  · obtain ⟨c, hc, hP⟩ := hx ex τ (Option.some.inj (hr.symm.trans hq))
    rcases List.mem_cons.mp hc with e9 | hc
    · cases e9
      refine ⟨11, ⟨[], _, _, rfl, by decide, by decide, rfl, wl_711, wl_718, fun z hz => by cases hz⟩, ?_⟩
      refine r_astore_n (L' := (2, (4, (q : Int))) :: [(0, (4, a0)), (1, (4, a1))]) dL_undo_11 (by decide) rfl ?_
      refine r_iconst (v := 1) dL_undo_12 rfl rfl ?_
      exact r_iret rfl dL_undo_13 ⟨_, rfl, 1, _, rfl, hP n hn⟩
    · cases hc
  · have h := hv v τ (Option.some.inj (hr.symm.trans hq))
    refine r_i2l dL_undo_6 ?_
    refine r_last dL_undo_7 h (fun τ h => ?_)
    refine r_goto 14 dL_undo_8 (by decide) ?_
    refine r_iconst (v := 0) dL_undo_14 rfl rfl ?_
    exact r_iret rfl dL_undo_15 h

theorem m_L_writeBeliefs {g : zF} (hl0 : g.2.2.2.1.stackTraces = false) {P : Int → zS → Prop} {a0 a1 a2 : Int} {σ : zS} (hobj : σ.1.1 a0 = some (0, 7)) (h : zcase (f_X7_writeBeliefs a0 a1 σ) [(2, 1)] (fun v τ => @ite _ (zI v) (zID v) (zsi 4 a2 0 v τ fun τ => some (.inl 0, τ)) none) P) : zm g Y_L_writeBeliefs R_L_writeBeliefs [(4, a0), (0, a1), (4, a2)] σ (zPc P) := by
  refine zm_ofH (by decide) (by intro q; cases q) (Nat.le_of_ble_eq_true rfl) ?_
  obtain ⟨r, hr, hv, hx⟩ := h
  refine r_aload_n 2 dL_writeBeliefs_0 rfl ?_
  refine r_iconst (v := 0) dL_writeBeliefs_1 rfl rfl ?_
  refine r_aload_n 0 dL_writeBeliefs_2 rfl ?_
  refine r_iload_n 1 dL_writeBeliefs_3 rfl ?_
  refine r_callVC (K' := Y_X7_writeBeliefs) (R' := R_X7_writeBeliefs) (idx := 176) (n := 1) (b := a0) (as := [(0, a1)]) (rest := [(0, 0), (4, a2)]) (cn := 7) (C' := 0) (D' := 0) k0_X7_writeBeliefs kV_X7_writeBeliefs kl_L_176 ⟨by decide, by decide⟩ dL_writeBeliefs_4 rfl rfl (Nat.le_of_ble_eq_true rfl) (by decide) (by decide) rfl hobj ⟨_, hr⟩ (fun r hr => m_X7_writeBeliefs hl0 ⟨r, hr, hr⟩) (fun ex τ n q hq hn => ?_) (fun v τ hq => ?_)
  · obtain ⟨c, hc, hP⟩ := hx ex τ (Option.some.inj (hr.symm.trans hq))
    rcases List.mem_cons.mp hc with e9 | hc
    · cases e9
      refine ⟨12, ⟨[], _, _, rfl, by decide, by decide, rfl, wl_834, wl_845, fun z hz => by cases hz⟩, ?_⟩
      refine r_astore_n (L' := (3, (4, (q : Int))) :: [(0, (4, a0)), (1, (0, a1)), (2, (4, a2))]) dL_writeBeliefs_12 (by decide) rfl ?_
      refine r_iconst (v := 1) dL_writeBeliefs_13 rfl rfl ?_
      exact r_iret rfl dL_writeBeliefs_14 ⟨_, rfl, 1, _, rfl, hP n hn⟩
    · cases hc
  · have h := hv v τ (Option.some.inj (hr.symm.trans hq))
    refine r_i2l dL_writeBeliefs_7 ?_
    refine r_last dL_writeBeliefs_8 h (fun τ h => ?_)
    refine r_goto 15 dL_writeBeliefs_9 (by decide) ?_
    refine r_iconst (v := 0) dL_writeBeliefs_15 rfl rfl ?_
    exact r_iret rfl dL_writeBeliefs_16 h

theorem m_L_writeReports {g : zF} (hl0 : g.2.2.2.1.stackTraces = false) {P : Int → zS → Prop} {a0 a1 a2 : Int} {σ : zS} (hobj : σ.1.1 a0 = some (0, 7)) (h : zcase (f_X7_writeReports a0 a1 σ) [(2, 1)] (fun v τ => @ite _ (zI v) (zID v) (zsi 4 a2 0 v τ fun τ => some (.inl 0, τ)) none) P) : zm g Y_L_writeReports R_L_writeReports [(4, a0), (0, a1), (4, a2)] σ (zPc P) := by
  refine zm_ofH (by decide) (by intro q; cases q) (Nat.le_of_ble_eq_true rfl) ?_
  obtain ⟨r, hr, hv, hx⟩ := h
  refine r_aload_n 2 dL_writeReports_0 rfl ?_
  refine r_iconst (v := 0) dL_writeReports_1 rfl rfl ?_
  refine r_aload_n 0 dL_writeReports_2 rfl ?_
  refine r_iload_n 1 dL_writeReports_3 rfl ?_
  refine r_callVC (K' := Y_X7_writeReports) (R' := R_X7_writeReports) (idx := 179) (n := 1) (b := a0) (as := [(0, a1)]) (rest := [(0, 0), (4, a2)]) (cn := 7) (C' := 0) (D' := 0) k0_X7_writeReports kV_X7_writeReports kl_L_179 ⟨by decide, by decide⟩ dL_writeReports_4 rfl rfl (Nat.le_of_ble_eq_true rfl) (by decide) (by decide) rfl hobj ⟨_, hr⟩ (fun r hr => m_X7_writeReports hl0 ⟨r, hr, hr⟩) (fun ex τ n q hq hn => ?_) (fun v τ hq => ?_)
  · obtain ⟨c, hc, hP⟩ := hx ex τ (Option.some.inj (hr.symm.trans hq))
    rcases List.mem_cons.mp hc with e9 | hc
    · cases e9
      refine ⟨12, ⟨[], _, _, rfl, by decide, by decide, rfl, wl_834, wl_845, fun z hz => by cases hz⟩, ?_⟩
      refine r_astore_n (L' := (3, (4, (q : Int))) :: [(0, (4, a0)), (1, (0, a1)), (2, (4, a2))]) dL_writeReports_12 (by decide) rfl ?_
      refine r_iconst (v := 1) dL_writeReports_13 rfl rfl ?_
      exact r_iret rfl dL_writeReports_14 ⟨_, rfl, 1, _, rfl, hP n hn⟩
    · cases hc
  · have h := hv v τ (Option.some.inj (hr.symm.trans hq))
    refine r_i2l dL_writeReports_7 ?_
    refine r_last dL_writeReports_8 h (fun τ h => ?_)
    refine r_goto 15 dL_writeReports_9 (by decide) ?_
    refine r_iconst (v := 0) dL_writeReports_15 rfl rfl ?_
    exact r_iret rfl dL_writeReports_16 h

theorem m_L_outputByte {g : zF} (hl0 : g.2.2.2.1.stackTraces = false) {P : Int → zS → Prop} {a0 a1 a2 : Int} {σ : zS} (hobj : σ.1.1 a0 = some (0, 7)) (h : zcase (f_X7_outputByte a0 a1 σ) [(2, 1)] (fun v τ => @ite _ (zI v) (zID v) (zsi 4 a2 0 v τ fun τ => some (.inl 0, τ)) none) P) : zm g Y_L_outputByte R_L_outputByte [(4, a0), (0, a1), (4, a2)] σ (zPc P) := by
  refine zm_ofH (by decide) (by intro q; cases q) (Nat.le_of_ble_eq_true rfl) ?_
  obtain ⟨r, hr, hv, hx⟩ := h
  refine r_aload_n 2 dL_outputByte_0 rfl ?_
  refine r_iconst (v := 0) dL_outputByte_1 rfl rfl ?_
  refine r_aload_n 0 dL_outputByte_2 rfl ?_
  refine r_iload_n 1 dL_outputByte_3 rfl ?_
  refine r_callVC (K' := Y_X7_outputByte) (R' := R_X7_outputByte) (idx := 182) (n := 1) (b := a0) (as := [(0, a1)]) (rest := [(0, 0), (4, a2)]) (cn := 7) (C' := 0) (D' := 0) k0_X7_outputByte kV_X7_outputByte kl_L_182 ⟨by decide, by decide⟩ dL_outputByte_4 rfl rfl (Nat.le_of_ble_eq_true rfl) (by decide) (by decide) rfl hobj ⟨_, hr⟩ (fun r hr => m_X7_outputByte hl0 ⟨r, hr, hr⟩) (fun ex τ n q hq hn => ?_) (fun v τ hq => ?_)
  · obtain ⟨c, hc, hP⟩ := hx ex τ (Option.some.inj (hr.symm.trans hq))
    rcases List.mem_cons.mp hc with e9 | hc
    · cases e9
      refine ⟨12, ⟨[], _, _, rfl, by decide, by decide, rfl, wl_834, wl_845, fun z hz => by cases hz⟩, ?_⟩
      refine r_astore_n (L' := (3, (4, (q : Int))) :: [(0, (4, a0)), (1, (0, a1)), (2, (4, a2))]) dL_outputByte_12 (by decide) rfl ?_
      refine r_iconst (v := 1) dL_outputByte_13 rfl rfl ?_
      exact r_iret rfl dL_outputByte_14 ⟨_, rfl, 1, _, rfl, hP n hn⟩
    · cases hc
  · have h := hv v τ (Option.some.inj (hr.symm.trans hq))
    refine r_i2l dL_outputByte_7 ?_
    refine r_last dL_outputByte_8 h (fun τ h => ?_)
    refine r_goto 15 dL_outputByte_9 (by decide) ?_
    refine r_iconst (v := 0) dL_outputByte_15 rfl rfl ?_
    exact r_iret rfl dL_outputByte_16 h
