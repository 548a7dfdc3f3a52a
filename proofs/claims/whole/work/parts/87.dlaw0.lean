theorem dL_append_0 : decode cL_append 0 = .ok (.aload 6, 2) := by decide +kernel
theorem dL_append_2 : decode cL_append 2 = .ok (.iconst 0, 1) := by decide +kernel
theorem dL_append_3 : decode cL_append 3 = .ok (.aload_n 0, 1) := by decide +kernel
theorem dL_append_4 : decode cL_append 4 = .ok (.iload_n 1, 1) := by decide +kernel
theorem dL_append_5 : decode cL_append 5 = .ok (.iload_n 2, 1) := by decide +kernel
theorem dL_append_6 : decode cL_append 6 = .ok (.iload_n 3, 1) := by decide +kernel
theorem dL_append_7 : decode cL_append 7 = .ok (.iload 4, 2) := by decide +kernel
theorem dL_append_9 : decode cL_append 9 = .ok (.iload 5, 2) := by decide +kernel
theorem dL_append_11 : decode cL_append 11 = .ok (.invokevirtual 7, 3) := by decide +kernel
theorem dL_append_14 : decode cL_append 14 = .ok (.i2l, 1) := by decide +kernel
theorem dL_append_15 : decode cL_append 15 = .ok (.lastore, 1) := by decide +kernel
theorem dL_append_16 : decode cL_append 16 = .ok (.goto 7, 3) := by decide +kernel
theorem dL_append_19 : decode cL_append 19 = .ok (.astore 7, 2) := by decide +kernel
theorem dL_append_21 : decode cL_append 21 = .ok (.iconst 1, 1) := by decide +kernel
theorem dL_append_22 : decode cL_append 22 = .ok (.ireturn, 1) := by decide +kernel
theorem dL_append_23 : decode cL_append 23 = .ok (.iconst 0, 1) := by decide +kernel
theorem dL_append_24 : decode cL_append 24 = .ok (.ireturn, 1) := by decide +kernel
theorem dL_truncate_0 : decode cL_truncate 0 = .ok (.aload_n 0, 1) := by decide +kernel
theorem dL_truncate_1 : decode cL_truncate 1 = .ok (.iload_n 1, 1) := by decide +kernel
theorem dL_truncate_2 : decode cL_truncate 2 = .ok (.invokevirtual 15, 3) := by decide +kernel
theorem dL_truncate_5 : decode cL_truncate 5 = .ok (.goto 6, 3) := by decide +kernel
theorem dL_truncate_8 : decode cL_truncate 8 = .ok (.astore_n 2, 1) := by decide +kernel
theorem dL_truncate_9 : decode cL_truncate 9 = .ok (.iconst 1, 1) := by decide +kernel
theorem dL_truncate_10 : decode cL_truncate 10 = .ok (.ireturn, 1) := by decide +kernel
theorem dL_truncate_11 : decode cL_truncate 11 = .ok (.iconst 0, 1) := by decide +kernel
theorem dL_truncate_12 : decode cL_truncate 12 = .ok (.ireturn, 1) := by decide +kernel
theorem dL_property_0 : decode cL_property 0 = .ok (.aload_n 2, 1) := by decide +kernel
theorem dL_property_1 : decode cL_property 1 = .ok (.iconst 0, 1) := by decide +kernel
theorem dL_property_2 : decode cL_property 2 = .ok (.aload_n 0, 1) := by decide +kernel
theorem dL_property_3 : decode cL_property 3 = .ok (.iload_n 1, 1) := by decide +kernel
theorem dL_property_4 : decode cL_property 4 = .ok (.invokevirtual 21, 3) := by decide +kernel
theorem dL_property_7 : decode cL_property 7 = .ok (.i2l, 1) := by decide +kernel
theorem dL_property_8 : decode cL_property 8 = .ok (.lastore, 1) := by decide +kernel
theorem dL_property_9 : decode cL_property 9 = .ok (.goto 6, 3) := by decide +kernel
theorem dL_property_12 : decode cL_property 12 = .ok (.astore_n 3, 1) := by decide +kernel
theorem dL_property_13 : decode cL_property 13 = .ok (.iconst 1, 1) := by decide +kernel
theorem dL_property_14 : decode cL_property 14 = .ok (.ireturn, 1) := by decide +kernel
theorem dL_property_15 : decode cL_property 15 = .ok (.iconst 0, 1) := by decide +kernel
theorem dL_property_16 : decode cL_property 16 = .ok (.ireturn, 1) := by decide +kernel
theorem dL_trust_0 : decode cL_trust 0 = .ok (.aload_n 3, 1) := by decide +kernel
theorem dL_trust_1 : decode cL_trust 1 = .ok (.iconst 0, 1) := by decide +kernel
theorem dL_trust_2 : decode cL_trust 2 = .ok (.aload_n 0, 1) := by decide +kernel
theorem dL_trust_3 : decode cL_trust 3 = .ok (.iload_n 1, 1) := by decide +kernel
theorem dL_trust_4 : decode cL_trust 4 = .ok (.iload_n 2, 1) := by decide +kernel
theorem dL_trust_5 : decode cL_trust 5 = .ok (.invokevirtual 25, 3) := by decide +kernel
theorem dL_trust_8 : decode cL_trust 8 = .ok (.i2l, 1) := by decide +kernel
theorem dL_trust_9 : decode cL_trust 9 = .ok (.lastore, 1) := by decide +kernel
theorem dL_trust_10 : decode cL_trust 10 = .ok (.goto 7, 3) := by decide +kernel
theorem dL_trust_13 : decode cL_trust 13 = .ok (.astore 4, 2) := by decide +kernel
theorem dL_trust_15 : decode cL_trust 15 = .ok (.iconst 1, 1) := by decide +kernel
theorem dL_trust_16 : decode cL_trust 16 = .ok (.ireturn, 1) := by decide +kernel
theorem dL_trust_17 : decode cL_trust 17 = .ok (.iconst 0, 1) := by decide +kernel
theorem dL_trust_18 : decode cL_trust 18 = .ok (.ireturn, 1) := by decide +kernel
theorem dL_neighbors_0 : decode cL_neighbors 0 = .ok (.aload_n 2, 1) := by decide +kernel
theorem dL_neighbors_1 : decode cL_neighbors 1 = .ok (.iconst 0, 1) := by decide +kernel
theorem dL_neighbors_2 : decode cL_neighbors 2 = .ok (.aload_n 0, 1) := by decide +kernel
theorem dL_neighbors_3 : decode cL_neighbors 3 = .ok (.iload_n 1, 1) := by decide +kernel
theorem dL_neighbors_4 : decode cL_neighbors 4 = .ok (.invokevirtual 31, 3) := by decide +kernel
theorem dL_neighbors_7 : decode cL_neighbors 7 = .ok (.i2l, 1) := by decide +kernel
theorem dL_neighbors_8 : decode cL_neighbors 8 = .ok (.lastore, 1) := by decide +kernel
theorem dL_neighbors_9 : decode cL_neighbors 9 = .ok (.goto 6, 3) := by decide +kernel
theorem dL_neighbors_12 : decode cL_neighbors 12 = .ok (.astore_n 3, 1) := by decide +kernel
theorem dL_neighbors_13 : decode cL_neighbors 13 = .ok (.iconst 1, 1) := by decide +kernel
theorem dL_neighbors_14 : decode cL_neighbors 14 = .ok (.ireturn, 1) := by decide +kernel
theorem dL_neighbors_15 : decode cL_neighbors 15 = .ok (.iconst 0, 1) := by decide +kernel
theorem dL_neighbors_16 : decode cL_neighbors 16 = .ok (.ireturn, 1) := by decide +kernel
theorem dL_distance_0 : decode cL_distance 0 = .ok (.aload_n 3, 1) := by decide +kernel
theorem dL_distance_1 : decode cL_distance 1 = .ok (.iconst 0, 1) := by decide +kernel
theorem dL_distance_2 : decode cL_distance 2 = .ok (.aload_n 0, 1) := by decide +kernel
theorem dL_distance_3 : decode cL_distance 3 = .ok (.iload_n 1, 1) := by decide +kernel
theorem dL_distance_4 : decode cL_distance 4 = .ok (.iload_n 2, 1) := by decide +kernel
theorem dL_distance_5 : decode cL_distance 5 = .ok (.invokevirtual 34, 3) := by decide +kernel
theorem dL_distance_8 : decode cL_distance 8 = .ok (.i2l, 1) := by decide +kernel
theorem dL_distance_9 : decode cL_distance 9 = .ok (.lastore, 1) := by decide +kernel
theorem dL_distance_10 : decode cL_distance 10 = .ok (.goto 7, 3) := by decide +kernel
theorem dL_distance_13 : decode cL_distance 13 = .ok (.astore 4, 2) := by decide +kernel
theorem dL_distance_15 : decode cL_distance 15 = .ok (.iconst 1, 1) := by decide +kernel
theorem dL_distance_16 : decode cL_distance 16 = .ok (.ireturn, 1) := by decide +kernel
theorem dL_distance_17 : decode cL_distance 17 = .ok (.iconst 0, 1) := by decide +kernel
theorem dL_distance_18 : decode cL_distance 18 = .ok (.ireturn, 1) := by decide +kernel
theorem dL_bottleneck_0 : decode cL_bottleneck 0 = .ok (.aload_n 3, 1) := by decide +kernel
theorem dL_bottleneck_1 : decode cL_bottleneck 1 = .ok (.iconst 0, 1) := by decide +kernel
theorem dL_bottleneck_2 : decode cL_bottleneck 2 = .ok (.aload_n 0, 1) := by decide +kernel
theorem dL_bottleneck_3 : decode cL_bottleneck 3 = .ok (.iload_n 1, 1) := by decide +kernel
theorem dL_bottleneck_4 : decode cL_bottleneck 4 = .ok (.iload_n 2, 1) := by decide +kernel
theorem dL_bottleneck_5 : decode cL_bottleneck 5 = .ok (.invokevirtual 37, 3) := by decide +kernel
theorem dL_bottleneck_8 : decode cL_bottleneck 8 = .ok (.i2l, 1) := by decide +kernel
theorem dL_bottleneck_9 : decode cL_bottleneck 9 = .ok (.lastore, 1) := by decide +kernel
theorem dL_bottleneck_10 : decode cL_bottleneck 10 = .ok (.goto 7, 3) := by decide +kernel
theorem dL_bottleneck_13 : decode cL_bottleneck 13 = .ok (.astore 4, 2) := by decide +kernel
theorem dL_bottleneck_15 : decode cL_bottleneck 15 = .ok (.iconst 1, 1) := by decide +kernel
theorem dL_bottleneck_16 : decode cL_bottleneck 16 = .ok (.ireturn, 1) := by decide +kernel
theorem dL_bottleneck_17 : decode cL_bottleneck 17 = .ok (.iconst 0, 1) := by decide +kernel
theorem dL_bottleneck_18 : decode cL_bottleneck 18 = .ok (.ireturn, 1) := by decide +kernel
theorem dL_mostTrusted_0 : decode cL_mostTrusted 0 = .ok (.aload_n 2, 1) := by decide +kernel
theorem dL_mostTrusted_1 : decode cL_mostTrusted 1 = .ok (.iconst 0, 1) := by decide +kernel
theorem dL_mostTrusted_2 : decode cL_mostTrusted 2 = .ok (.aload_n 0, 1) := by decide +kernel
theorem dL_mostTrusted_3 : decode cL_mostTrusted 3 = .ok (.iload_n 1, 1) := by decide +kernel
theorem dL_mostTrusted_4 : decode cL_mostTrusted 4 = .ok (.invokevirtual 40, 3) := by decide +kernel
theorem dL_mostTrusted_7 : decode cL_mostTrusted 7 = .ok (.i2l, 1) := by decide +kernel
theorem dL_mostTrusted_8 : decode cL_mostTrusted 8 = .ok (.lastore, 1) := by decide +kernel
theorem dL_mostTrusted_9 : decode cL_mostTrusted 9 = .ok (.goto 6, 3) := by decide +kernel
theorem dL_mostTrusted_12 : decode cL_mostTrusted 12 = .ok (.astore_n 3, 1) := by decide +kernel
theorem dL_mostTrusted_13 : decode cL_mostTrusted 13 = .ok (.iconst 1, 1) := by decide +kernel
theorem dL_mostTrusted_14 : decode cL_mostTrusted 14 = .ok (.ireturn, 1) := by decide +kernel
theorem dL_mostTrusted_15 : decode cL_mostTrusted 15 = .ok (.iconst 0, 1) := by decide +kernel
theorem dL_mostTrusted_16 : decode cL_mostTrusted 16 = .ok (.ireturn, 1) := by decide +kernel
theorem dL_reports_0 : decode cL_reports 0 = .ok (.aload_n 2, 1) := by decide +kernel
theorem dL_reports_1 : decode cL_reports 1 = .ok (.iconst 0, 1) := by decide +kernel
theorem dL_reports_2 : decode cL_reports 2 = .ok (.aload_n 0, 1) := by decide +kernel
theorem dL_reports_3 : decode cL_reports 3 = .ok (.iload_n 1, 1) := by decide +kernel
theorem dL_reports_4 : decode cL_reports 4 = .ok (.invokevirtual 43, 3) := by decide +kernel
theorem dL_reports_7 : decode cL_reports 7 = .ok (.i2l, 1) := by decide +kernel
theorem dL_reports_8 : decode cL_reports 8 = .ok (.lastore, 1) := by decide +kernel
theorem dL_reports_9 : decode cL_reports 9 = .ok (.goto 6, 3) := by decide +kernel
theorem dL_reports_12 : decode cL_reports 12 = .ok (.astore_n 3, 1) := by decide +kernel
theorem dL_reports_13 : decode cL_reports 13 = .ok (.iconst 1, 1) := by decide +kernel
theorem dL_reports_14 : decode cL_reports 14 = .ok (.ireturn, 1) := by decide +kernel
theorem dL_reports_15 : decode cL_reports 15 = .ok (.iconst 0, 1) := by decide +kernel
theorem dL_reports_16 : decode cL_reports 16 = .ok (.ireturn, 1) := by decide +kernel
theorem dL_report_0 : decode cL_report 0 = .ok (.aload 4, 2) := by decide +kernel
theorem dL_report_2 : decode cL_report 2 = .ok (.iconst 0, 1) := by decide +kernel
theorem dL_report_3 : decode cL_report 3 = .ok (.aload_n 0, 1) := by decide +kernel
theorem dL_report_4 : decode cL_report 4 = .ok (.iload_n 1, 1) := by decide +kernel
theorem dL_report_5 : decode cL_report 5 = .ok (.iload_n 2, 1) := by decide +kernel
theorem dL_report_6 : decode cL_report 6 = .ok (.iload_n 3, 1) := by decide +kernel
theorem dL_report_7 : decode cL_report 7 = .ok (.invokevirtual 46, 3) := by decide +kernel
theorem dL_report_10 : decode cL_report 10 = .ok (.i2l, 1) := by decide +kernel
theorem dL_report_11 : decode cL_report 11 = .ok (.lastore, 1) := by decide +kernel
theorem dL_report_12 : decode cL_report 12 = .ok (.goto 11, 3) := by decide +kernel
theorem dL_report_15 : decode cL_report 15 = .ok (.astore 5, 2) := by decide +kernel
theorem dL_report_17 : decode cL_report 17 = .ok (.iconst 1, 1) := by decide +kernel
theorem dL_report_18 : decode cL_report 18 = .ok (.ireturn, 1) := by decide +kernel
theorem dL_report_19 : decode cL_report 19 = .ok (.astore 5, 2) := by decide +kernel
theorem dL_report_21 : decode cL_report 21 = .ok (.iconst 2, 1) := by decide +kernel
theorem dL_report_22 : decode cL_report 22 = .ok (.ireturn, 1) := by decide +kernel
theorem dL_report_23 : decode cL_report 23 = .ok (.iconst 0, 1) := by decide +kernel
theorem dL_report_24 : decode cL_report 24 = .ok (.ireturn, 1) := by decide +kernel
theorem dL_status_0 : decode cL_status 0 = .ok (.aload_n 3, 1) := by decide +kernel
theorem dL_status_1 : decode cL_status 1 = .ok (.iconst 0, 1) := by decide +kernel
theorem dL_status_2 : decode cL_status 2 = .ok (.aload_n 0, 1) := by decide +kernel
theorem dL_status_3 : decode cL_status 3 = .ok (.iload_n 1, 1) := by decide +kernel
theorem dL_status_4 : decode cL_status 4 = .ok (.iload_n 2, 1) := by decide +kernel
theorem dL_status_5 : decode cL_status 5 = .ok (.invokevirtual 50, 3) := by decide +kernel
theorem dL_status_8 : decode cL_status 8 = .ok (.i2l, 1) := by decide +kernel
theorem dL_status_9 : decode cL_status 9 = .ok (.lastore, 1) := by decide +kernel
theorem dL_status_10 : decode cL_status 10 = .ok (.goto 7, 3) := by decide +kernel
theorem dL_status_13 : decode cL_status 13 = .ok (.astore 4, 2) := by decide +kernel
theorem dL_status_15 : decode cL_status 15 = .ok (.iconst 1, 1) := by decide +kernel
theorem dL_status_16 : decode cL_status 16 = .ok (.ireturn, 1) := by decide +kernel
theorem dL_status_17 : decode cL_status 17 = .ok (.iconst 0, 1) := by decide +kernel
theorem dL_status_18 : decode cL_status 18 = .ok (.ireturn, 1) := by decide +kernel
theorem dL_moved_0 : decode cL_moved 0 = .ok (.aload 4, 2) := by decide +kernel
theorem dL_moved_2 : decode cL_moved 2 = .ok (.iconst 0, 1) := by decide +kernel
theorem dL_moved_3 : decode cL_moved 3 = .ok (.aload_n 0, 1) := by decide +kernel
theorem dL_moved_4 : decode cL_moved 4 = .ok (.iload_n 1, 1) := by decide +kernel
theorem dL_moved_5 : decode cL_moved 5 = .ok (.iload_n 2, 1) := by decide +kernel
theorem dL_moved_6 : decode cL_moved 6 = .ok (.iload_n 3, 1) := by decide +kernel
theorem dL_moved_7 : decode cL_moved 7 = .ok (.invokevirtual 53, 3) := by decide +kernel
theorem dL_moved_10 : decode cL_moved 10 = .ok (.i2l, 1) := by decide +kernel
theorem dL_moved_11 : decode cL_moved 11 = .ok (.lastore, 1) := by decide +kernel
theorem dL_moved_12 : decode cL_moved 12 = .ok (.goto 11, 3) := by decide +kernel
theorem dL_moved_15 : decode cL_moved 15 = .ok (.astore 5, 2) := by decide +kernel
theorem dL_moved_17 : decode cL_moved 17 = .ok (.iconst 1, 1) := by decide +kernel
theorem dL_moved_18 : decode cL_moved 18 = .ok (.ireturn, 1) := by decide +kernel
theorem dL_moved_19 : decode cL_moved 19 = .ok (.astore 5, 2) := by decide +kernel
theorem dL_moved_21 : decode cL_moved 21 = .ok (.iconst 2, 1) := by decide +kernel
theorem dL_moved_22 : decode cL_moved 22 = .ok (.ireturn, 1) := by decide +kernel
theorem dL_moved_23 : decode cL_moved 23 = .ok (.iconst 0, 1) := by decide +kernel
theorem dL_moved_24 : decode cL_moved 24 = .ok (.ireturn, 1) := by decide +kernel
theorem dL_own_0 : decode cL_own 0 = .ok (.aload_n 3, 1) := by decide +kernel
theorem dL_own_1 : decode cL_own 1 = .ok (.iconst 0, 1) := by decide +kernel
theorem dL_own_2 : decode cL_own 2 = .ok (.aload_n 0, 1) := by decide +kernel
theorem dL_own_3 : decode cL_own 3 = .ok (.iload_n 1, 1) := by decide +kernel
theorem dL_own_4 : decode cL_own 4 = .ok (.iload_n 2, 1) := by decide +kernel
theorem dL_own_5 : decode cL_own 5 = .ok (.invokevirtual 56, 3) := by decide +kernel
theorem dL_own_8 : decode cL_own 8 = .ok (.i2l, 1) := by decide +kernel
theorem dL_own_9 : decode cL_own 9 = .ok (.lastore, 1) := by decide +kernel
theorem dL_own_10 : decode cL_own 10 = .ok (.goto 7, 3) := by decide +kernel
theorem dL_own_13 : decode cL_own 13 = .ok (.astore 4, 2) := by decide +kernel
theorem dL_own_15 : decode cL_own 15 = .ok (.iconst 1, 1) := by decide +kernel
theorem dL_own_16 : decode cL_own 16 = .ok (.ireturn, 1) := by decide +kernel
theorem dL_own_17 : decode cL_own 17 = .ok (.iconst 0, 1) := by decide +kernel
theorem dL_own_18 : decode cL_own 18 = .ok (.ireturn, 1) := by decide +kernel
theorem dL_belief_0 : decode cL_belief 0 = .ok (.aload 4, 2) := by decide +kernel
theorem dL_belief_2 : decode cL_belief 2 = .ok (.iconst 0, 1) := by decide +kernel
theorem dL_belief_3 : decode cL_belief 3 = .ok (.aload_n 0, 1) := by decide +kernel
theorem dL_belief_4 : decode cL_belief 4 = .ok (.iload_n 1, 1) := by decide +kernel
theorem dL_belief_5 : decode cL_belief 5 = .ok (.iload_n 2, 1) := by decide +kernel
theorem dL_belief_6 : decode cL_belief 6 = .ok (.iload_n 3, 1) := by decide +kernel
theorem dL_belief_7 : decode cL_belief 7 = .ok (.invokevirtual 59, 3) := by decide +kernel
theorem dL_belief_10 : decode cL_belief 10 = .ok (.i2l, 1) := by decide +kernel
theorem dL_belief_11 : decode cL_belief 11 = .ok (.lastore, 1) := by decide +kernel
theorem dL_belief_12 : decode cL_belief 12 = .ok (.goto 11, 3) := by decide +kernel
theorem dL_belief_15 : decode cL_belief 15 = .ok (.astore 5, 2) := by decide +kernel
theorem dL_belief_17 : decode cL_belief 17 = .ok (.iconst 1, 1) := by decide +kernel
theorem dL_belief_18 : decode cL_belief 18 = .ok (.ireturn, 1) := by decide +kernel
theorem dL_belief_19 : decode cL_belief 19 = .ok (.astore 5, 2) := by decide +kernel
theorem dL_belief_21 : decode cL_belief 21 = .ok (.iconst 2, 1) := by decide +kernel
theorem dL_belief_22 : decode cL_belief 22 = .ok (.ireturn, 1) := by decide +kernel
theorem dL_belief_23 : decode cL_belief 23 = .ok (.iconst 0, 1) := by decide +kernel
theorem dL_belief_24 : decode cL_belief 24 = .ok (.ireturn, 1) := by decide +kernel
theorem dL_sources_0 : decode cL_sources 0 = .ok (.aload_n 3, 1) := by decide +kernel
theorem dL_sources_1 : decode cL_sources 1 = .ok (.iconst 0, 1) := by decide +kernel
theorem dL_sources_2 : decode cL_sources 2 = .ok (.aload_n 0, 1) := by decide +kernel
theorem dL_sources_3 : decode cL_sources 3 = .ok (.iload_n 1, 1) := by decide +kernel
theorem dL_sources_4 : decode cL_sources 4 = .ok (.iload_n 2, 1) := by decide +kernel
theorem dL_sources_5 : decode cL_sources 5 = .ok (.invokevirtual 62, 3) := by decide +kernel
theorem dL_sources_8 : decode cL_sources 8 = .ok (.i2l, 1) := by decide +kernel
theorem dL_sources_9 : decode cL_sources 9 = .ok (.lastore, 1) := by decide +kernel
theorem dL_sources_10 : decode cL_sources 10 = .ok (.goto 7, 3) := by decide +kernel
theorem dL_sources_13 : decode cL_sources 13 = .ok (.astore 4, 2) := by decide +kernel
theorem dL_sources_15 : decode cL_sources 15 = .ok (.iconst 1, 1) := by decide +kernel
theorem dL_sources_16 : decode cL_sources 16 = .ok (.ireturn, 1) := by decide +kernel
theorem dL_sources_17 : decode cL_sources 17 = .ok (.iconst 0, 1) := by decide +kernel
theorem dL_sources_18 : decode cL_sources 18 = .ok (.ireturn, 1) := by decide +kernel
theorem dL_contradicted_0 : decode cL_contradicted 0 = .ok (.aload_n 3, 1) := by decide +kernel
theorem dL_contradicted_1 : decode cL_contradicted 1 = .ok (.iconst 0, 1) := by decide +kernel
theorem dL_contradicted_2 : decode cL_contradicted 2 = .ok (.aload_n 0, 1) := by decide +kernel
theorem dL_contradicted_3 : decode cL_contradicted 3 = .ok (.iload_n 1, 1) := by decide +kernel
theorem dL_contradicted_4 : decode cL_contradicted 4 = .ok (.iload_n 2, 1) := by decide +kernel
theorem dL_contradicted_5 : decode cL_contradicted 5 = .ok (.invokevirtual 65, 3) := by decide +kernel
theorem dL_contradicted_8 : decode cL_contradicted 8 = .ok (.i2l, 1) := by decide +kernel
theorem dL_contradicted_9 : decode cL_contradicted 9 = .ok (.lastore, 1) := by decide +kernel
theorem dL_contradicted_10 : decode cL_contradicted 10 = .ok (.goto 7, 3) := by decide +kernel
theorem dL_contradicted_13 : decode cL_contradicted 13 = .ok (.astore 4, 2) := by decide +kernel
theorem dL_contradicted_15 : decode cL_contradicted 15 = .ok (.iconst 1, 1) := by decide +kernel
theorem dL_contradicted_16 : decode cL_contradicted 16 = .ok (.ireturn, 1) := by decide +kernel
theorem dL_contradicted_17 : decode cL_contradicted 17 = .ok (.iconst 0, 1) := by decide +kernel
theorem dL_contradicted_18 : decode cL_contradicted 18 = .ok (.ireturn, 1) := by decide +kernel
theorem dL_majority_0 : decode cL_majority 0 = .ok (.aload_n 3, 1) := by decide +kernel
theorem dL_majority_1 : decode cL_majority 1 = .ok (.iconst 0, 1) := by decide +kernel
theorem dL_majority_2 : decode cL_majority 2 = .ok (.aload_n 0, 1) := by decide +kernel
theorem dL_majority_3 : decode cL_majority 3 = .ok (.iload_n 1, 1) := by decide +kernel
theorem dL_majority_4 : decode cL_majority 4 = .ok (.iload_n 2, 1) := by decide +kernel
theorem dL_majority_5 : decode cL_majority 5 = .ok (.invokevirtual 68, 3) := by decide +kernel
theorem dL_majority_8 : decode cL_majority 8 = .ok (.i2l, 1) := by decide +kernel
theorem dL_majority_9 : decode cL_majority 9 = .ok (.lastore, 1) := by decide +kernel
theorem dL_majority_10 : decode cL_majority 10 = .ok (.goto 7, 3) := by decide +kernel
theorem dL_majority_13 : decode cL_majority 13 = .ok (.astore 4, 2) := by decide +kernel
theorem dL_majority_15 : decode cL_majority 15 = .ok (.iconst 1, 1) := by decide +kernel
theorem dL_majority_16 : decode cL_majority 16 = .ok (.ireturn, 1) := by decide +kernel
theorem dL_majority_17 : decode cL_majority 17 = .ok (.iconst 0, 1) := by decide +kernel
theorem dL_majority_18 : decode cL_majority 18 = .ok (.ireturn, 1) := by decide +kernel
theorem dL_majorityBound_0 : decode cL_majorityBound 0 = .ok (.aload 4, 2) := by decide +kernel
theorem dL_majorityBound_2 : decode cL_majorityBound 2 = .ok (.iconst 0, 1) := by decide +kernel
theorem dL_majorityBound_3 : decode cL_majorityBound 3 = .ok (.aload_n 0, 1) := by decide +kernel
theorem dL_majorityBound_4 : decode cL_majorityBound 4 = .ok (.iload_n 1, 1) := by decide +kernel
theorem dL_majorityBound_5 : decode cL_majorityBound 5 = .ok (.iload_n 2, 1) := by decide +kernel
theorem dL_majorityBound_6 : decode cL_majorityBound 6 = .ok (.iload_n 3, 1) := by decide +kernel
theorem dL_majorityBound_7 : decode cL_majorityBound 7 = .ok (.invokevirtual 71, 3) := by decide +kernel
theorem dL_majorityBound_10 : decode cL_majorityBound 10 = .ok (.i2l, 1) := by decide +kernel
theorem dL_majorityBound_11 : decode cL_majorityBound 11 = .ok (.lastore, 1) := by decide +kernel
theorem dL_majorityBound_12 : decode cL_majorityBound 12 = .ok (.goto 11, 3) := by decide +kernel
theorem dL_majorityBound_15 : decode cL_majorityBound 15 = .ok (.astore 5, 2) := by decide +kernel
theorem dL_majorityBound_17 : decode cL_majorityBound 17 = .ok (.iconst 1, 1) := by decide +kernel
theorem dL_majorityBound_18 : decode cL_majorityBound 18 = .ok (.ireturn, 1) := by decide +kernel
theorem dL_majorityBound_19 : decode cL_majorityBound 19 = .ok (.astore 5, 2) := by decide +kernel
theorem dL_majorityBound_21 : decode cL_majorityBound 21 = .ok (.iconst 2, 1) := by decide +kernel
theorem dL_majorityBound_22 : decode cL_majorityBound 22 = .ok (.ireturn, 1) := by decide +kernel
theorem dL_majorityBound_23 : decode cL_majorityBound 23 = .ok (.iconst 0, 1) := by decide +kernel
theorem dL_majorityBound_24 : decode cL_majorityBound 24 = .ok (.ireturn, 1) := by decide +kernel
theorem dL_best_0 : decode cL_best 0 = .ok (.aload_n 3, 1) := by decide +kernel
theorem dL_best_1 : decode cL_best 1 = .ok (.iconst 0, 1) := by decide +kernel
theorem dL_best_2 : decode cL_best 2 = .ok (.aload_n 0, 1) := by decide +kernel
theorem dL_best_3 : decode cL_best 3 = .ok (.iload_n 1, 1) := by decide +kernel
theorem dL_best_4 : decode cL_best 4 = .ok (.iload_n 2, 1) := by decide +kernel
theorem dL_best_5 : decode cL_best 5 = .ok (.invokevirtual 74, 3) := by decide +kernel
theorem dL_best_8 : decode cL_best 8 = .ok (.i2l, 1) := by decide +kernel
theorem dL_best_9 : decode cL_best 9 = .ok (.lastore, 1) := by decide +kernel
theorem dL_best_10 : decode cL_best 10 = .ok (.goto 11, 3) := by decide +kernel
theorem dL_best_13 : decode cL_best 13 = .ok (.astore 4, 2) := by decide +kernel
theorem dL_best_15 : decode cL_best 15 = .ok (.iconst 1, 1) := by decide +kernel
theorem dL_best_16 : decode cL_best 16 = .ok (.ireturn, 1) := by decide +kernel
theorem dL_best_17 : decode cL_best 17 = .ok (.astore 4, 2) := by decide +kernel
theorem dL_best_19 : decode cL_best 19 = .ok (.iconst 2, 1) := by decide +kernel
theorem dL_best_20 : decode cL_best 20 = .ok (.ireturn, 1) := by decide +kernel
theorem dL_best_21 : decode cL_best 21 = .ok (.iconst 0, 1) := by decide +kernel
theorem dL_best_22 : decode cL_best 22 = .ok (.ireturn, 1) := by decide +kernel
theorem dL_rivals_0 : decode cL_rivals 0 = .ok (.aload_n 2, 1) := by decide +kernel
theorem dL_rivals_1 : decode cL_rivals 1 = .ok (.iconst 0, 1) := by decide +kernel
theorem dL_rivals_2 : decode cL_rivals 2 = .ok (.aload_n 0, 1) := by decide +kernel
theorem dL_rivals_3 : decode cL_rivals 3 = .ok (.iload_n 1, 1) := by decide +kernel
theorem dL_rivals_4 : decode cL_rivals 4 = .ok (.invokevirtual 77, 3) := by decide +kernel
theorem dL_rivals_7 : decode cL_rivals 7 = .ok (.i2l, 1) := by decide +kernel
theorem dL_rivals_8 : decode cL_rivals 8 = .ok (.lastore, 1) := by decide +kernel
theorem dL_rivals_9 : decode cL_rivals 9 = .ok (.goto 6, 3) := by decide +kernel
theorem dL_rivals_12 : decode cL_rivals 12 = .ok (.astore_n 3, 1) := by decide +kernel
theorem dL_rivals_13 : decode cL_rivals 13 = .ok (.iconst 1, 1) := by decide +kernel
theorem dL_rivals_14 : decode cL_rivals 14 = .ok (.ireturn, 1) := by decide +kernel
theorem dL_rivals_15 : decode cL_rivals 15 = .ok (.iconst 0, 1) := by decide +kernel
theorem dL_rivals_16 : decode cL_rivals 16 = .ok (.ireturn, 1) := by decide +kernel
theorem dL_nextProbe_0 : decode cL_nextProbe 0 = .ok (.aload_n 2, 1) := by decide +kernel
theorem dL_nextProbe_1 : decode cL_nextProbe 1 = .ok (.iconst 0, 1) := by decide +kernel
theorem dL_nextProbe_2 : decode cL_nextProbe 2 = .ok (.aload_n 0, 1) := by decide +kernel
theorem dL_nextProbe_3 : decode cL_nextProbe 3 = .ok (.iload_n 1, 1) := by decide +kernel
theorem dL_nextProbe_4 : decode cL_nextProbe 4 = .ok (.invokevirtual 80, 3) := by decide +kernel
theorem dL_nextProbe_7 : decode cL_nextProbe 7 = .ok (.i2l, 1) := by decide +kernel
theorem dL_nextProbe_8 : decode cL_nextProbe 8 = .ok (.lastore, 1) := by decide +kernel
theorem dL_nextProbe_9 : decode cL_nextProbe 9 = .ok (.goto 6, 3) := by decide +kernel
theorem dL_nextProbe_12 : decode cL_nextProbe 12 = .ok (.astore_n 3, 1) := by decide +kernel
theorem dL_nextProbe_13 : decode cL_nextProbe 13 = .ok (.iconst 1, 1) := by decide +kernel
theorem dL_nextProbe_14 : decode cL_nextProbe 14 = .ok (.ireturn, 1) := by decide +kernel
theorem dL_nextProbe_15 : decode cL_nextProbe 15 = .ok (.iconst 0, 1) := by decide +kernel
theorem dL_nextProbe_16 : decode cL_nextProbe 16 = .ok (.ireturn, 1) := by decide +kernel
theorem dL_regret_0 : decode cL_regret 0 = .ok (.aload_n 2, 1) := by decide +kernel
theorem dL_regret_1 : decode cL_regret 1 = .ok (.iconst 0, 1) := by decide +kernel
theorem dL_regret_2 : decode cL_regret 2 = .ok (.aload_n 0, 1) := by decide +kernel
theorem dL_regret_3 : decode cL_regret 3 = .ok (.iload_n 1, 1) := by decide +kernel
theorem dL_regret_4 : decode cL_regret 4 = .ok (.invokevirtual 83, 3) := by decide +kernel
theorem dL_regret_7 : decode cL_regret 7 = .ok (.i2l, 1) := by decide +kernel
theorem dL_regret_8 : decode cL_regret 8 = .ok (.lastore, 1) := by decide +kernel
theorem dL_regret_9 : decode cL_regret 9 = .ok (.goto 6, 3) := by decide +kernel
theorem dL_regret_12 : decode cL_regret 12 = .ok (.astore_n 3, 1) := by decide +kernel
theorem dL_regret_13 : decode cL_regret 13 = .ok (.iconst 1, 1) := by decide +kernel
theorem dL_regret_14 : decode cL_regret 14 = .ok (.ireturn, 1) := by decide +kernel
theorem dL_regret_15 : decode cL_regret 15 = .ok (.iconst 0, 1) := by decide +kernel
theorem dL_regret_16 : decode cL_regret 16 = .ok (.ireturn, 1) := by decide +kernel
theorem dL_saved_0 : decode cL_saved 0 = .ok (.aload_n 2, 1) := by decide +kernel
theorem dL_saved_1 : decode cL_saved 1 = .ok (.iconst 0, 1) := by decide +kernel
theorem dL_saved_2 : decode cL_saved 2 = .ok (.aload_n 0, 1) := by decide +kernel
theorem dL_saved_3 : decode cL_saved 3 = .ok (.iload_n 1, 1) := by decide +kernel
theorem dL_saved_4 : decode cL_saved 4 = .ok (.invokevirtual 86, 3) := by decide +kernel
theorem dL_saved_7 : decode cL_saved 7 = .ok (.i2l, 1) := by decide +kernel
theorem dL_saved_8 : decode cL_saved 8 = .ok (.lastore, 1) := by decide +kernel
theorem dL_saved_9 : decode cL_saved 9 = .ok (.goto 6, 3) := by decide +kernel
theorem dL_saved_12 : decode cL_saved 12 = .ok (.astore_n 3, 1) := by decide +kernel
theorem dL_saved_13 : decode cL_saved 13 = .ok (.iconst 1, 1) := by decide +kernel
theorem dL_saved_14 : decode cL_saved 14 = .ok (.ireturn, 1) := by decide +kernel
theorem dL_saved_15 : decode cL_saved 15 = .ok (.iconst 0, 1) := by decide +kernel
theorem dL_saved_16 : decode cL_saved 16 = .ok (.ireturn, 1) := by decide +kernel
theorem dL_agreeing_0 : decode cL_agreeing 0 = .ok (.aload_n 3, 1) := by decide +kernel
theorem dL_agreeing_1 : decode cL_agreeing 1 = .ok (.iconst 0, 1) := by decide +kernel
theorem dL_agreeing_2 : decode cL_agreeing 2 = .ok (.aload_n 0, 1) := by decide +kernel
theorem dL_agreeing_3 : decode cL_agreeing 3 = .ok (.iload_n 1, 1) := by decide +kernel
theorem dL_agreeing_4 : decode cL_agreeing 4 = .ok (.iload_n 2, 1) := by decide +kernel
theorem dL_agreeing_5 : decode cL_agreeing 5 = .ok (.invokevirtual 89, 3) := by decide +kernel
theorem dL_agreeing_8 : decode cL_agreeing 8 = .ok (.i2l, 1) := by decide +kernel
theorem dL_agreeing_9 : decode cL_agreeing 9 = .ok (.lastore, 1) := by decide +kernel
theorem dL_agreeing_10 : decode cL_agreeing 10 = .ok (.goto 7, 3) := by decide +kernel
theorem dL_agreeing_13 : decode cL_agreeing 13 = .ok (.astore 4, 2) := by decide +kernel
theorem dL_agreeing_15 : decode cL_agreeing 15 = .ok (.iconst 1, 1) := by decide +kernel
theorem dL_agreeing_16 : decode cL_agreeing 16 = .ok (.ireturn, 1) := by decide +kernel
theorem dL_agreeing_17 : decode cL_agreeing 17 = .ok (.iconst 0, 1) := by decide +kernel
theorem dL_agreeing_18 : decode cL_agreeing 18 = .ok (.ireturn, 1) := by decide +kernel
theorem dL_common_0 : decode cL_common 0 = .ok (.aload_n 3, 1) := by decide +kernel
theorem dL_common_1 : decode cL_common 1 = .ok (.iconst 0, 1) := by decide +kernel
theorem dL_common_2 : decode cL_common 2 = .ok (.aload_n 0, 1) := by decide +kernel
theorem dL_common_3 : decode cL_common 3 = .ok (.iload_n 1, 1) := by decide +kernel
theorem dL_common_4 : decode cL_common 4 = .ok (.iload_n 2, 1) := by decide +kernel
theorem dL_common_5 : decode cL_common 5 = .ok (.invokevirtual 92, 3) := by decide +kernel
theorem dL_common_8 : decode cL_common 8 = .ok (.i2l, 1) := by decide +kernel
theorem dL_common_9 : decode cL_common 9 = .ok (.lastore, 1) := by decide +kernel
theorem dL_common_10 : decode cL_common 10 = .ok (.goto 11, 3) := by decide +kernel
theorem dL_common_13 : decode cL_common 13 = .ok (.astore 4, 2) := by decide +kernel
theorem dL_common_15 : decode cL_common 15 = .ok (.iconst 1, 1) := by decide +kernel
theorem dL_common_16 : decode cL_common 16 = .ok (.ireturn, 1) := by decide +kernel
theorem dL_common_17 : decode cL_common 17 = .ok (.astore 4, 2) := by decide +kernel
theorem dL_common_19 : decode cL_common 19 = .ok (.iconst 2, 1) := by decide +kernel
theorem dL_common_20 : decode cL_common 20 = .ok (.ireturn, 1) := by decide +kernel
theorem dL_common_21 : decode cL_common 21 = .ok (.iconst 0, 1) := by decide +kernel
theorem dL_common_22 : decode cL_common 22 = .ok (.ireturn, 1) := by decide +kernel
theorem dL_account_0 : decode cL_account 0 = .ok (.aload_n 3, 1) := by decide +kernel
theorem dL_account_1 : decode cL_account 1 = .ok (.iconst 0, 1) := by decide +kernel
theorem dL_account_2 : decode cL_account 2 = .ok (.aload_n 0, 1) := by decide +kernel
theorem dL_account_3 : decode cL_account 3 = .ok (.iload_n 1, 1) := by decide +kernel
theorem dL_account_4 : decode cL_account 4 = .ok (.iload_n 2, 1) := by decide +kernel
theorem dL_account_5 : decode cL_account 5 = .ok (.invokevirtual 95, 3) := by decide +kernel
theorem dL_account_8 : decode cL_account 8 = .ok (.i2l, 1) := by decide +kernel
theorem dL_account_9 : decode cL_account 9 = .ok (.lastore, 1) := by decide +kernel
theorem dL_account_10 : decode cL_account 10 = .ok (.goto 11, 3) := by decide +kernel
theorem dL_account_13 : decode cL_account 13 = .ok (.astore 4, 2) := by decide +kernel
theorem dL_account_15 : decode cL_account 15 = .ok (.iconst 1, 1) := by decide +kernel
theorem dL_account_16 : decode cL_account 16 = .ok (.ireturn, 1) := by decide +kernel
theorem dL_account_17 : decode cL_account 17 = .ok (.astore 4, 2) := by decide +kernel
theorem dL_account_19 : decode cL_account 19 = .ok (.iconst 2, 1) := by decide +kernel
theorem dL_account_20 : decode cL_account 20 = .ok (.ireturn, 1) := by decide +kernel
theorem dL_account_21 : decode cL_account 21 = .ok (.iconst 0, 1) := by decide +kernel
theorem dL_account_22 : decode cL_account 22 = .ok (.ireturn, 1) := by decide +kernel
theorem dL_message_0 : decode cL_message 0 = .ok (.aload_n 3, 1) := by decide +kernel
theorem dL_message_1 : decode cL_message 1 = .ok (.iconst 0, 1) := by decide +kernel
theorem dL_message_2 : decode cL_message 2 = .ok (.aload_n 0, 1) := by decide +kernel
theorem dL_message_3 : decode cL_message 3 = .ok (.iload_n 1, 1) := by decide +kernel
theorem dL_message_4 : decode cL_message 4 = .ok (.iload_n 2, 1) := by decide +kernel
theorem dL_message_5 : decode cL_message 5 = .ok (.invokevirtual 98, 3) := by decide +kernel
theorem dL_message_8 : decode cL_message 8 = .ok (.i2l, 1) := by decide +kernel
theorem dL_message_9 : decode cL_message 9 = .ok (.lastore, 1) := by decide +kernel
theorem dL_message_10 : decode cL_message 10 = .ok (.goto 11, 3) := by decide +kernel
theorem dL_message_13 : decode cL_message 13 = .ok (.astore 4, 2) := by decide +kernel
theorem dL_message_15 : decode cL_message 15 = .ok (.iconst 1, 1) := by decide +kernel
theorem dL_message_16 : decode cL_message 16 = .ok (.ireturn, 1) := by decide +kernel
theorem dL_message_17 : decode cL_message 17 = .ok (.astore 4, 2) := by decide +kernel
theorem dL_message_19 : decode cL_message 19 = .ok (.iconst 2, 1) := by decide +kernel
theorem dL_message_20 : decode cL_message 20 = .ok (.ireturn, 1) := by decide +kernel
theorem dL_message_21 : decode cL_message 21 = .ok (.iconst 0, 1) := by decide +kernel
theorem dL_message_22 : decode cL_message 22 = .ok (.ireturn, 1) := by decide +kernel
theorem dL_standing_0 : decode cL_standing 0 = .ok (.aload_n 2, 1) := by decide +kernel
theorem dL_standing_1 : decode cL_standing 1 = .ok (.iconst 0, 1) := by decide +kernel
theorem dL_standing_2 : decode cL_standing 2 = .ok (.aload_n 0, 1) := by decide +kernel
theorem dL_standing_3 : decode cL_standing 3 = .ok (.iload_n 1, 1) := by decide +kernel
theorem dL_standing_4 : decode cL_standing 4 = .ok (.invokevirtual 103, 3) := by decide +kernel
theorem dL_standing_7 : decode cL_standing 7 = .ok (.f2d, 1) := by decide +kernel
theorem dL_standing_8 : decode cL_standing 8 = .ok (.dastore, 1) := by decide +kernel
theorem dL_standing_9 : decode cL_standing 9 = .ok (.goto 6, 3) := by decide +kernel
theorem dL_standing_12 : decode cL_standing 12 = .ok (.astore_n 3, 1) := by decide +kernel
theorem dL_standing_13 : decode cL_standing 13 = .ok (.iconst 1, 1) := by decide +kernel
theorem dL_standing_14 : decode cL_standing 14 = .ok (.ireturn, 1) := by decide +kernel
theorem dL_standing_15 : decode cL_standing 15 = .ok (.iconst 0, 1) := by decide +kernel
theorem dL_standing_16 : decode cL_standing 16 = .ok (.ireturn, 1) := by decide +kernel
theorem dL_beliefIf_0 : decode cL_beliefIf 0 = .ok (.aload 6, 2) := by decide +kernel
theorem dL_beliefIf_2 : decode cL_beliefIf 2 = .ok (.iconst 0, 1) := by decide +kernel
theorem dL_beliefIf_3 : decode cL_beliefIf 3 = .ok (.aload_n 0, 1) := by decide +kernel
theorem dL_beliefIf_4 : decode cL_beliefIf 4 = .ok (.iload_n 1, 1) := by decide +kernel
theorem dL_beliefIf_5 : decode cL_beliefIf 5 = .ok (.iload_n 2, 1) := by decide +kernel
theorem dL_beliefIf_6 : decode cL_beliefIf 6 = .ok (.iload_n 3, 1) := by decide +kernel
theorem dL_beliefIf_7 : decode cL_beliefIf 7 = .ok (.iload 4, 2) := by decide +kernel
theorem dL_beliefIf_9 : decode cL_beliefIf 9 = .ok (.iload 5, 2) := by decide +kernel
theorem dL_beliefIf_11 : decode cL_beliefIf 11 = .ok (.invokevirtual 107, 3) := by decide +kernel
theorem dL_beliefIf_14 : decode cL_beliefIf 14 = .ok (.i2l, 1) := by decide +kernel
theorem dL_beliefIf_15 : decode cL_beliefIf 15 = .ok (.lastore, 1) := by decide +kernel
theorem dL_beliefIf_16 : decode cL_beliefIf 16 = .ok (.goto 11, 3) := by decide +kernel
theorem dL_beliefIf_19 : decode cL_beliefIf 19 = .ok (.astore 7, 2) := by decide +kernel
theorem dL_beliefIf_21 : decode cL_beliefIf 21 = .ok (.iconst 1, 1) := by decide +kernel
theorem dL_beliefIf_22 : decode cL_beliefIf 22 = .ok (.ireturn, 1) := by decide +kernel
theorem dL_beliefIf_23 : decode cL_beliefIf 23 = .ok (.astore 7, 2) := by decide +kernel
theorem dL_beliefIf_25 : decode cL_beliefIf 25 = .ok (.iconst 2, 1) := by decide +kernel
theorem dL_beliefIf_26 : decode cL_beliefIf 26 = .ok (.ireturn, 1) := by decide +kernel
theorem dL_beliefIf_27 : decode cL_beliefIf 27 = .ok (.iconst 0, 1) := by decide +kernel
theorem dL_beliefIf_28 : decode cL_beliefIf 28 = .ok (.ireturn, 1) := by decide +kernel
theorem dL_trustIf_0 : decode cL_trustIf 0 = .ok (.aload 6, 2) := by decide +kernel
theorem dL_trustIf_2 : decode cL_trustIf 2 = .ok (.iconst 0, 1) := by decide +kernel
theorem dL_trustIf_3 : decode cL_trustIf 3 = .ok (.aload_n 0, 1) := by decide +kernel
theorem dL_trustIf_4 : decode cL_trustIf 4 = .ok (.iload_n 1, 1) := by decide +kernel
theorem dL_trustIf_5 : decode cL_trustIf 5 = .ok (.iload_n 2, 1) := by decide +kernel
theorem dL_trustIf_6 : decode cL_trustIf 6 = .ok (.iload_n 3, 1) := by decide +kernel
theorem dL_trustIf_7 : decode cL_trustIf 7 = .ok (.iload 4, 2) := by decide +kernel
theorem dL_trustIf_9 : decode cL_trustIf 9 = .ok (.iload 5, 2) := by decide +kernel
theorem dL_trustIf_11 : decode cL_trustIf 11 = .ok (.invokevirtual 110, 3) := by decide +kernel
theorem dL_trustIf_14 : decode cL_trustIf 14 = .ok (.i2l, 1) := by decide +kernel
theorem dL_trustIf_15 : decode cL_trustIf 15 = .ok (.lastore, 1) := by decide +kernel
theorem dL_trustIf_16 : decode cL_trustIf 16 = .ok (.goto 11, 3) := by decide +kernel
theorem dL_trustIf_19 : decode cL_trustIf 19 = .ok (.astore 7, 2) := by decide +kernel
theorem dL_trustIf_21 : decode cL_trustIf 21 = .ok (.iconst 1, 1) := by decide +kernel
theorem dL_trustIf_22 : decode cL_trustIf 22 = .ok (.ireturn, 1) := by decide +kernel
theorem dL_trustIf_23 : decode cL_trustIf 23 = .ok (.astore 7, 2) := by decide +kernel
theorem dL_trustIf_25 : decode cL_trustIf 25 = .ok (.iconst 2, 1) := by decide +kernel
theorem dL_trustIf_26 : decode cL_trustIf 26 = .ok (.ireturn, 1) := by decide +kernel
theorem dL_trustIf_27 : decode cL_trustIf 27 = .ok (.iconst 0, 1) := by decide +kernel
theorem dL_trustIf_28 : decode cL_trustIf 28 = .ok (.ireturn, 1) := by decide +kernel
theorem dL_informed_0 : decode cL_informed 0 = .ok (.aload 4, 2) := by decide +kernel
theorem dL_informed_2 : decode cL_informed 2 = .ok (.iconst 0, 1) := by decide +kernel
theorem dL_informed_3 : decode cL_informed 3 = .ok (.aload_n 0, 1) := by decide +kernel
theorem dL_informed_4 : decode cL_informed 4 = .ok (.iload_n 1, 1) := by decide +kernel
theorem dL_informed_5 : decode cL_informed 5 = .ok (.iload_n 2, 1) := by decide +kernel
theorem dL_informed_6 : decode cL_informed 6 = .ok (.iload_n 3, 1) := by decide +kernel
theorem dL_informed_7 : decode cL_informed 7 = .ok (.invokevirtual 113, 3) := by decide +kernel
theorem dL_informed_10 : decode cL_informed 10 = .ok (.i2l, 1) := by decide +kernel
theorem dL_informed_11 : decode cL_informed 11 = .ok (.lastore, 1) := by decide +kernel
theorem dL_informed_12 : decode cL_informed 12 = .ok (.goto 11, 3) := by decide +kernel
theorem dL_informed_15 : decode cL_informed 15 = .ok (.astore 5, 2) := by decide +kernel
theorem dL_informed_17 : decode cL_informed 17 = .ok (.iconst 1, 1) := by decide +kernel
theorem dL_informed_18 : decode cL_informed 18 = .ok (.ireturn, 1) := by decide +kernel
theorem dL_informed_19 : decode cL_informed 19 = .ok (.astore 5, 2) := by decide +kernel
theorem dL_informed_21 : decode cL_informed 21 = .ok (.iconst 2, 1) := by decide +kernel
theorem dL_informed_22 : decode cL_informed 22 = .ok (.ireturn, 1) := by decide +kernel
theorem dL_informed_23 : decode cL_informed 23 = .ok (.iconst 0, 1) := by decide +kernel
theorem dL_informed_24 : decode cL_informed 24 = .ok (.ireturn, 1) := by decide +kernel
theorem dL_widthAfter_0 : decode cL_widthAfter 0 = .ok (.aload 4, 2) := by decide +kernel
theorem dL_widthAfter_2 : decode cL_widthAfter 2 = .ok (.iconst 0, 1) := by decide +kernel
theorem dL_widthAfter_3 : decode cL_widthAfter 3 = .ok (.aload_n 0, 1) := by decide +kernel
theorem dL_widthAfter_4 : decode cL_widthAfter 4 = .ok (.iload_n 1, 1) := by decide +kernel
theorem dL_widthAfter_5 : decode cL_widthAfter 5 = .ok (.iload_n 2, 1) := by decide +kernel
theorem dL_widthAfter_6 : decode cL_widthAfter 6 = .ok (.iload_n 3, 1) := by decide +kernel
theorem dL_widthAfter_7 : decode cL_widthAfter 7 = .ok (.invokevirtual 116, 3) := by decide +kernel
theorem dL_widthAfter_10 : decode cL_widthAfter 10 = .ok (.i2l, 1) := by decide +kernel
theorem dL_widthAfter_11 : decode cL_widthAfter 11 = .ok (.lastore, 1) := by decide +kernel
theorem dL_widthAfter_12 : decode cL_widthAfter 12 = .ok (.goto 11, 3) := by decide +kernel
theorem dL_widthAfter_15 : decode cL_widthAfter 15 = .ok (.astore 5, 2) := by decide +kernel
theorem dL_widthAfter_17 : decode cL_widthAfter 17 = .ok (.iconst 1, 1) := by decide +kernel
theorem dL_widthAfter_18 : decode cL_widthAfter 18 = .ok (.ireturn, 1) := by decide +kernel
theorem dL_widthAfter_19 : decode cL_widthAfter 19 = .ok (.astore 5, 2) := by decide +kernel
theorem dL_widthAfter_21 : decode cL_widthAfter 21 = .ok (.iconst 2, 1) := by decide +kernel
theorem dL_widthAfter_22 : decode cL_widthAfter 22 = .ok (.ireturn, 1) := by decide +kernel
theorem dL_widthAfter_23 : decode cL_widthAfter 23 = .ok (.iconst 0, 1) := by decide +kernel
theorem dL_widthAfter_24 : decode cL_widthAfter 24 = .ok (.ireturn, 1) := by decide +kernel
theorem dL_widthWithout_0 : decode cL_widthWithout 0 = .ok (.aload 4, 2) := by decide +kernel
theorem dL_widthWithout_2 : decode cL_widthWithout 2 = .ok (.iconst 0, 1) := by decide +kernel
theorem dL_widthWithout_3 : decode cL_widthWithout 3 = .ok (.aload_n 0, 1) := by decide +kernel
theorem dL_widthWithout_4 : decode cL_widthWithout 4 = .ok (.iload_n 1, 1) := by decide +kernel
theorem dL_widthWithout_5 : decode cL_widthWithout 5 = .ok (.iload_n 2, 1) := by decide +kernel
theorem dL_widthWithout_6 : decode cL_widthWithout 6 = .ok (.iload_n 3, 1) := by decide +kernel
theorem dL_widthWithout_7 : decode cL_widthWithout 7 = .ok (.invokevirtual 119, 3) := by decide +kernel
theorem dL_widthWithout_10 : decode cL_widthWithout 10 = .ok (.i2l, 1) := by decide +kernel
theorem dL_widthWithout_11 : decode cL_widthWithout 11 = .ok (.lastore, 1) := by decide +kernel
theorem dL_widthWithout_12 : decode cL_widthWithout 12 = .ok (.goto 7, 3) := by decide +kernel
theorem dL_widthWithout_15 : decode cL_widthWithout 15 = .ok (.astore 5, 2) := by decide +kernel
theorem dL_widthWithout_17 : decode cL_widthWithout 17 = .ok (.iconst 1, 1) := by decide +kernel
theorem dL_widthWithout_18 : decode cL_widthWithout 18 = .ok (.ireturn, 1) := by decide +kernel
theorem dL_widthWithout_19 : decode cL_widthWithout 19 = .ok (.iconst 0, 1) := by decide +kernel
theorem dL_widthWithout_20 : decode cL_widthWithout 20 = .ok (.ireturn, 1) := by decide +kernel
theorem dL_mostUseful_0 : decode cL_mostUseful 0 = .ok (.aload_n 2, 1) := by decide +kernel
theorem dL_mostUseful_1 : decode cL_mostUseful 1 = .ok (.iconst 0, 1) := by decide +kernel
theorem dL_mostUseful_2 : decode cL_mostUseful 2 = .ok (.aload_n 0, 1) := by decide +kernel
theorem dL_mostUseful_3 : decode cL_mostUseful 3 = .ok (.iload_n 1, 1) := by decide +kernel
theorem dL_mostUseful_4 : decode cL_mostUseful 4 = .ok (.invokevirtual 122, 3) := by decide +kernel
theorem dL_mostUseful_7 : decode cL_mostUseful 7 = .ok (.i2l, 1) := by decide +kernel
theorem dL_mostUseful_8 : decode cL_mostUseful 8 = .ok (.lastore, 1) := by decide +kernel
theorem dL_mostUseful_9 : decode cL_mostUseful 9 = .ok (.goto 6, 3) := by decide +kernel
theorem dL_mostUseful_12 : decode cL_mostUseful 12 = .ok (.astore_n 3, 1) := by decide +kernel
theorem dL_mostUseful_13 : decode cL_mostUseful 13 = .ok (.iconst 1, 1) := by decide +kernel
theorem dL_mostUseful_14 : decode cL_mostUseful 14 = .ok (.ireturn, 1) := by decide +kernel
theorem dL_mostUseful_15 : decode cL_mostUseful 15 = .ok (.iconst 0, 1) := by decide +kernel
theorem dL_mostUseful_16 : decode cL_mostUseful 16 = .ok (.ireturn, 1) := by decide +kernel
theorem dL_bestThen_0 : decode cL_bestThen 0 = .ok (.aload_n 2, 1) := by decide +kernel
theorem dL_bestThen_1 : decode cL_bestThen 1 = .ok (.iconst 0, 1) := by decide +kernel
theorem dL_bestThen_2 : decode cL_bestThen 2 = .ok (.aload_n 0, 1) := by decide +kernel
theorem dL_bestThen_3 : decode cL_bestThen 3 = .ok (.iload_n 1, 1) := by decide +kernel
theorem dL_bestThen_4 : decode cL_bestThen 4 = .ok (.invokevirtual 125, 3) := by decide +kernel
theorem dL_bestThen_7 : decode cL_bestThen 7 = .ok (.i2l, 1) := by decide +kernel
theorem dL_bestThen_8 : decode cL_bestThen 8 = .ok (.lastore, 1) := by decide +kernel
theorem dL_bestThen_9 : decode cL_bestThen 9 = .ok (.goto 6, 3) := by decide +kernel
theorem dL_bestThen_12 : decode cL_bestThen 12 = .ok (.astore_n 3, 1) := by decide +kernel
theorem dL_bestThen_13 : decode cL_bestThen 13 = .ok (.iconst 1, 1) := by decide +kernel
theorem dL_bestThen_14 : decode cL_bestThen 14 = .ok (.ireturn, 1) := by decide +kernel
theorem dL_bestThen_15 : decode cL_bestThen 15 = .ok (.iconst 0, 1) := by decide +kernel
theorem dL_bestThen_16 : decode cL_bestThen 16 = .ok (.ireturn, 1) := by decide +kernel
theorem dL_probe_0 : decode cL_probe 0 = .ok (.aload 5, 2) := by decide +kernel
theorem dL_probe_2 : decode cL_probe 2 = .ok (.iconst 0, 1) := by decide +kernel
theorem dL_probe_3 : decode cL_probe 3 = .ok (.aload_n 0, 1) := by decide +kernel
theorem dL_probe_4 : decode cL_probe 4 = .ok (.iload_n 1, 1) := by decide +kernel
theorem dL_probe_5 : decode cL_probe 5 = .ok (.iload_n 2, 1) := by decide +kernel
theorem dL_probe_6 : decode cL_probe 6 = .ok (.iload_n 3, 1) := by decide +kernel
theorem dL_probe_7 : decode cL_probe 7 = .ok (.iload 4, 2) := by decide +kernel
theorem dL_probe_9 : decode cL_probe 9 = .ok (.invokevirtual 128, 3) := by decide +kernel
theorem dL_probe_12 : decode cL_probe 12 = .ok (.i2l, 1) := by decide +kernel
theorem dL_probe_13 : decode cL_probe 13 = .ok (.lastore, 1) := by decide +kernel
theorem dL_probe_14 : decode cL_probe 14 = .ok (.goto 11, 3) := by decide +kernel
theorem dL_probe_17 : decode cL_probe 17 = .ok (.astore 6, 2) := by decide +kernel
theorem dL_probe_19 : decode cL_probe 19 = .ok (.iconst 1, 1) := by decide +kernel
theorem dL_probe_20 : decode cL_probe 20 = .ok (.ireturn, 1) := by decide +kernel
theorem dL_probe_21 : decode cL_probe 21 = .ok (.astore 6, 2) := by decide +kernel
theorem dL_probe_23 : decode cL_probe 23 = .ok (.iconst 2, 1) := by decide +kernel
theorem dL_probe_24 : decode cL_probe 24 = .ok (.ireturn, 1) := by decide +kernel
theorem dL_probe_25 : decode cL_probe 25 = .ok (.iconst 0, 1) := by decide +kernel
theorem dL_probe_26 : decode cL_probe 26 = .ok (.ireturn, 1) := by decide +kernel
theorem dL_share_0 : decode cL_share 0 = .ok (.aload_n 2, 1) := by decide +kernel
theorem dL_share_1 : decode cL_share 1 = .ok (.iconst 0, 1) := by decide +kernel
theorem dL_share_2 : decode cL_share 2 = .ok (.aload_n 0, 1) := by decide +kernel
theorem dL_share_3 : decode cL_share 3 = .ok (.iload_n 1, 1) := by decide +kernel
theorem dL_share_4 : decode cL_share 4 = .ok (.invokevirtual 132, 3) := by decide +kernel
theorem dL_share_7 : decode cL_share 7 = .ok (.i2l, 1) := by decide +kernel
theorem dL_share_8 : decode cL_share 8 = .ok (.lastore, 1) := by decide +kernel
theorem dL_share_9 : decode cL_share 9 = .ok (.goto 6, 3) := by decide +kernel
theorem dL_share_12 : decode cL_share 12 = .ok (.astore_n 3, 1) := by decide +kernel
theorem dL_share_13 : decode cL_share 13 = .ok (.iconst 1, 1) := by decide +kernel
theorem dL_share_14 : decode cL_share 14 = .ok (.ireturn, 1) := by decide +kernel
theorem dL_share_15 : decode cL_share 15 = .ok (.iconst 0, 1) := by decide +kernel
theorem dL_share_16 : decode cL_share 16 = .ok (.ireturn, 1) := by decide +kernel
theorem dL_relay_0 : decode cL_relay 0 = .ok (.aload_n 2, 1) := by decide +kernel
theorem dL_relay_1 : decode cL_relay 1 = .ok (.iconst 0, 1) := by decide +kernel
theorem dL_relay_2 : decode cL_relay 2 = .ok (.aload_n 0, 1) := by decide +kernel
theorem dL_relay_3 : decode cL_relay 3 = .ok (.iload_n 1, 1) := by decide +kernel
theorem dL_relay_4 : decode cL_relay 4 = .ok (.invokevirtual 135, 3) := by decide +kernel
theorem dL_relay_7 : decode cL_relay 7 = .ok (.i2l, 1) := by decide +kernel
theorem dL_relay_8 : decode cL_relay 8 = .ok (.lastore, 1) := by decide +kernel
theorem dL_relay_9 : decode cL_relay 9 = .ok (.goto 6, 3) := by decide +kernel
theorem dL_relay_12 : decode cL_relay 12 = .ok (.astore_n 3, 1) := by decide +kernel
theorem dL_relay_13 : decode cL_relay 13 = .ok (.iconst 1, 1) := by decide +kernel
theorem dL_relay_14 : decode cL_relay 14 = .ok (.ireturn, 1) := by decide +kernel
theorem dL_relay_15 : decode cL_relay 15 = .ok (.iconst 0, 1) := by decide +kernel
theorem dL_relay_16 : decode cL_relay 16 = .ok (.ireturn, 1) := by decide +kernel
theorem dL_deliver_0 : decode cL_deliver 0 = .ok (.aload_n 2, 1) := by decide +kernel
theorem dL_deliver_1 : decode cL_deliver 1 = .ok (.iconst 0, 1) := by decide +kernel
theorem dL_deliver_2 : decode cL_deliver 2 = .ok (.aload_n 0, 1) := by decide +kernel
theorem dL_deliver_3 : decode cL_deliver 3 = .ok (.iload_n 1, 1) := by decide +kernel
theorem dL_deliver_4 : decode cL_deliver 4 = .ok (.invokevirtual 138, 3) := by decide +kernel
theorem dL_deliver_7 : decode cL_deliver 7 = .ok (.i2l, 1) := by decide +kernel
theorem dL_deliver_8 : decode cL_deliver 8 = .ok (.lastore, 1) := by decide +kernel
theorem dL_deliver_9 : decode cL_deliver 9 = .ok (.goto 6, 3) := by decide +kernel
theorem dL_deliver_12 : decode cL_deliver 12 = .ok (.astore_n 3, 1) := by decide +kernel
theorem dL_deliver_13 : decode cL_deliver 13 = .ok (.iconst 1, 1) := by decide +kernel
theorem dL_deliver_14 : decode cL_deliver 14 = .ok (.ireturn, 1) := by decide +kernel
theorem dL_deliver_15 : decode cL_deliver 15 = .ok (.iconst 0, 1) := by decide +kernel
theorem dL_deliver_16 : decode cL_deliver 16 = .ok (.ireturn, 1) := by decide +kernel
theorem dL_lose_0 : decode cL_lose 0 = .ok (.aload_n 1, 1) := by decide +kernel
theorem dL_lose_1 : decode cL_lose 1 = .ok (.iconst 0, 1) := by decide +kernel
theorem dL_lose_2 : decode cL_lose 2 = .ok (.aload_n 0, 1) := by decide +kernel
theorem dL_lose_3 : decode cL_lose 3 = .ok (.invokevirtual 141, 3) := by decide +kernel
theorem dL_lose_6 : decode cL_lose 6 = .ok (.i2l, 1) := by decide +kernel
theorem dL_lose_7 : decode cL_lose 7 = .ok (.lastore, 1) := by decide +kernel
theorem dL_lose_8 : decode cL_lose 8 = .ok (.goto 6, 3) := by decide +kernel
theorem dL_lose_11 : decode cL_lose 11 = .ok (.astore_n 2, 1) := by decide +kernel
theorem dL_lose_12 : decode cL_lose 12 = .ok (.iconst 1, 1) := by decide +kernel
theorem dL_lose_13 : decode cL_lose 13 = .ok (.ireturn, 1) := by decide +kernel
theorem dL_lose_14 : decode cL_lose 14 = .ok (.iconst 0, 1) := by decide +kernel
theorem dL_lose_15 : decode cL_lose 15 = .ok (.ireturn, 1) := by decide +kernel
theorem dL_exchange_0 : decode cL_exchange 0 = .ok (.aload_n 2, 1) := by decide +kernel
theorem dL_exchange_1 : decode cL_exchange 1 = .ok (.iconst 0, 1) := by decide +kernel
theorem dL_exchange_2 : decode cL_exchange 2 = .ok (.aload_n 0, 1) := by decide +kernel
theorem dL_exchange_3 : decode cL_exchange 3 = .ok (.iload_n 1, 1) := by decide +kernel
theorem dL_exchange_4 : decode cL_exchange 4 = .ok (.invokevirtual 145, 3) := by decide +kernel
theorem dL_exchange_7 : decode cL_exchange 7 = .ok (.i2l, 1) := by decide +kernel
theorem dL_exchange_8 : decode cL_exchange 8 = .ok (.lastore, 1) := by decide +kernel
theorem dL_exchange_9 : decode cL_exchange 9 = .ok (.goto 6, 3) := by decide +kernel
theorem dL_exchange_12 : decode cL_exchange 12 = .ok (.astore_n 3, 1) := by decide +kernel
theorem dL_exchange_13 : decode cL_exchange 13 = .ok (.iconst 1, 1) := by decide +kernel
theorem dL_exchange_14 : decode cL_exchange 14 = .ok (.ireturn, 1) := by decide +kernel
theorem dL_exchange_15 : decode cL_exchange 15 = .ok (.iconst 0, 1) := by decide +kernel
theorem dL_exchange_16 : decode cL_exchange 16 = .ok (.ireturn, 1) := by decide +kernel
theorem dL_pass_0 : decode cL_pass 0 = .ok (.aload_n 2, 1) := by decide +kernel
theorem dL_pass_1 : decode cL_pass 1 = .ok (.iconst 0, 1) := by decide +kernel
theorem dL_pass_2 : decode cL_pass 2 = .ok (.aload_n 0, 1) := by decide +kernel
theorem dL_pass_3 : decode cL_pass 3 = .ok (.iload_n 1, 1) := by decide +kernel
theorem dL_pass_4 : decode cL_pass 4 = .ok (.invokevirtual 148, 3) := by decide +kernel
theorem dL_pass_7 : decode cL_pass 7 = .ok (.i2l, 1) := by decide +kernel
theorem dL_pass_8 : decode cL_pass 8 = .ok (.lastore, 1) := by decide +kernel
theorem dL_pass_9 : decode cL_pass 9 = .ok (.goto 6, 3) := by decide +kernel
theorem dL_pass_12 : decode cL_pass 12 = .ok (.astore_n 3, 1) := by decide +kernel
theorem dL_pass_13 : decode cL_pass 13 = .ok (.iconst 1, 1) := by decide +kernel
theorem dL_pass_14 : decode cL_pass 14 = .ok (.ireturn, 1) := by decide +kernel
theorem dL_pass_15 : decode cL_pass 15 = .ok (.iconst 0, 1) := by decide +kernel
theorem dL_pass_16 : decode cL_pass 16 = .ok (.ireturn, 1) := by decide +kernel
theorem dL_link_0 : decode cL_link 0 = .ok (.aload 4, 2) := by decide +kernel
theorem dL_link_2 : decode cL_link 2 = .ok (.iconst 0, 1) := by decide +kernel
theorem dL_link_3 : decode cL_link 3 = .ok (.aload_n 0, 1) := by decide +kernel
theorem dL_link_4 : decode cL_link 4 = .ok (.iload_n 1, 1) := by decide +kernel
theorem dL_link_5 : decode cL_link 5 = .ok (.iload_n 2, 1) := by decide +kernel
theorem dL_link_6 : decode cL_link 6 = .ok (.iload_n 3, 1) := by decide +kernel
theorem dL_link_7 : decode cL_link 7 = .ok (.invokevirtual 151, 3) := by decide +kernel
theorem dL_link_10 : decode cL_link 10 = .ok (.ifCond .eq 7, 3) := by decide +kernel
theorem dL_link_13 : decode cL_link 13 = .ok (.lconst 1, 1) := by decide +kernel
theorem dL_link_14 : decode cL_link 14 = .ok (.goto 4, 3) := by decide +kernel
theorem dL_link_17 : decode cL_link 17 = .ok (.lconst 0, 1) := by decide +kernel
theorem dL_link_18 : decode cL_link 18 = .ok (.lastore, 1) := by decide +kernel
theorem dL_link_19 : decode cL_link 19 = .ok (.goto 11, 3) := by decide +kernel
theorem dL_link_22 : decode cL_link 22 = .ok (.astore 5, 2) := by decide +kernel
theorem dL_link_24 : decode cL_link 24 = .ok (.iconst 1, 1) := by decide +kernel
theorem dL_link_25 : decode cL_link 25 = .ok (.ireturn, 1) := by decide +kernel
theorem dL_link_26 : decode cL_link 26 = .ok (.astore 5, 2) := by decide +kernel
theorem dL_link_28 : decode cL_link 28 = .ok (.iconst 2, 1) := by decide +kernel
theorem dL_link_29 : decode cL_link 29 = .ok (.ireturn, 1) := by decide +kernel
theorem dL_link_30 : decode cL_link 30 = .ok (.iconst 0, 1) := by decide +kernel
theorem dL_link_31 : decode cL_link 31 = .ok (.ireturn, 1) := by decide +kernel
theorem dL_setTrust_0 : decode cL_setTrust 0 = .ok (.aload 4, 2) := by decide +kernel
theorem dL_setTrust_2 : decode cL_setTrust 2 = .ok (.iconst 0, 1) := by decide +kernel
theorem dL_setTrust_3 : decode cL_setTrust 3 = .ok (.aload_n 0, 1) := by decide +kernel
theorem dL_setTrust_4 : decode cL_setTrust 4 = .ok (.iload_n 1, 1) := by decide +kernel
theorem dL_setTrust_5 : decode cL_setTrust 5 = .ok (.iload_n 2, 1) := by decide +kernel
theorem dL_setTrust_6 : decode cL_setTrust 6 = .ok (.iload_n 3, 1) := by decide +kernel
theorem dL_setTrust_7 : decode cL_setTrust 7 = .ok (.invokevirtual 155, 3) := by decide +kernel
theorem dL_setTrust_10 : decode cL_setTrust 10 = .ok (.i2l, 1) := by decide +kernel
theorem dL_setTrust_11 : decode cL_setTrust 11 = .ok (.lastore, 1) := by decide +kernel
theorem dL_setTrust_12 : decode cL_setTrust 12 = .ok (.goto 15, 3) := by decide +kernel
theorem dL_setTrust_15 : decode cL_setTrust 15 = .ok (.astore 5, 2) := by decide +kernel
theorem dL_setTrust_17 : decode cL_setTrust 17 = .ok (.iconst 1, 1) := by decide +kernel
theorem dL_setTrust_18 : decode cL_setTrust 18 = .ok (.ireturn, 1) := by decide +kernel
theorem dL_setTrust_19 : decode cL_setTrust 19 = .ok (.astore 5, 2) := by decide +kernel
theorem dL_setTrust_21 : decode cL_setTrust 21 = .ok (.iconst 2, 1) := by decide +kernel
theorem dL_setTrust_22 : decode cL_setTrust 22 = .ok (.ireturn, 1) := by decide +kernel
theorem dL_setTrust_23 : decode cL_setTrust 23 = .ok (.astore 5, 2) := by decide +kernel
theorem dL_setTrust_25 : decode cL_setTrust 25 = .ok (.iconst 3, 1) := by decide +kernel
theorem dL_setTrust_26 : decode cL_setTrust 26 = .ok (.ireturn, 1) := by decide +kernel
theorem dL_setTrust_27 : decode cL_setTrust 27 = .ok (.iconst 0, 1) := by decide +kernel
theorem dL_setTrust_28 : decode cL_setTrust 28 = .ok (.ireturn, 1) := by decide +kernel
theorem dL_setRule_0 : decode cL_setRule 0 = .ok (.aload_n 3, 1) := by decide +kernel
theorem dL_setRule_1 : decode cL_setRule 1 = .ok (.iconst 0, 1) := by decide +kernel
theorem dL_setRule_2 : decode cL_setRule 2 = .ok (.aload_n 0, 1) := by decide +kernel
theorem dL_setRule_3 : decode cL_setRule 3 = .ok (.iload_n 1, 1) := by decide +kernel
theorem dL_setRule_4 : decode cL_setRule 4 = .ok (.iload_n 2, 1) := by decide +kernel
theorem dL_setRule_5 : decode cL_setRule 5 = .ok (.invokevirtual 158, 3) := by decide +kernel
theorem dL_setRule_8 : decode cL_setRule 8 = .ok (.i2l, 1) := by decide +kernel
theorem dL_setRule_9 : decode cL_setRule 9 = .ok (.lastore, 1) := by decide +kernel
theorem dL_setRule_10 : decode cL_setRule 10 = .ok (.goto 7, 3) := by decide +kernel
theorem dL_setRule_13 : decode cL_setRule 13 = .ok (.astore 4, 2) := by decide +kernel
theorem dL_setRule_15 : decode cL_setRule 15 = .ok (.iconst 1, 1) := by decide +kernel
theorem dL_setRule_16 : decode cL_setRule 16 = .ok (.ireturn, 1) := by decide +kernel
theorem dL_setRule_17 : decode cL_setRule 17 = .ok (.iconst 0, 1) := by decide +kernel
theorem dL_setRule_18 : decode cL_setRule 18 = .ok (.ireturn, 1) := by decide +kernel
theorem dL_forget_0 : decode cL_forget 0 = .ok (.aload_n 3, 1) := by decide +kernel
theorem dL_forget_1 : decode cL_forget 1 = .ok (.iconst 0, 1) := by decide +kernel
theorem dL_forget_2 : decode cL_forget 2 = .ok (.aload_n 0, 1) := by decide +kernel
theorem dL_forget_3 : decode cL_forget 3 = .ok (.iload_n 1, 1) := by decide +kernel
theorem dL_forget_4 : decode cL_forget 4 = .ok (.iload_n 2, 1) := by decide +kernel
theorem dL_forget_5 : decode cL_forget 5 = .ok (.invokevirtual 161, 3) := by decide +kernel
theorem dL_forget_8 : decode cL_forget 8 = .ok (.i2l, 1) := by decide +kernel
theorem dL_forget_9 : decode cL_forget 9 = .ok (.lastore, 1) := by decide +kernel
theorem dL_forget_10 : decode cL_forget 10 = .ok (.goto 7, 3) := by decide +kernel
theorem dL_forget_13 : decode cL_forget 13 = .ok (.astore 4, 2) := by decide +kernel
theorem dL_forget_15 : decode cL_forget 15 = .ok (.iconst 1, 1) := by decide +kernel
theorem dL_forget_16 : decode cL_forget 16 = .ok (.ireturn, 1) := by decide +kernel
theorem dL_forget_17 : decode cL_forget 17 = .ok (.iconst 0, 1) := by decide +kernel
theorem dL_forget_18 : decode cL_forget 18 = .ok (.ireturn, 1) := by decide +kernel
theorem dL_cleanse_0 : decode cL_cleanse 0 = .ok (.aload_n 2, 1) := by decide +kernel
theorem dL_cleanse_1 : decode cL_cleanse 1 = .ok (.iconst 0, 1) := by decide +kernel
theorem dL_cleanse_2 : decode cL_cleanse 2 = .ok (.aload_n 0, 1) := by decide +kernel
theorem dL_cleanse_3 : decode cL_cleanse 3 = .ok (.iload_n 1, 1) := by decide +kernel
theorem dL_cleanse_4 : decode cL_cleanse 4 = .ok (.invokevirtual 164, 3) := by decide +kernel
theorem dL_cleanse_7 : decode cL_cleanse 7 = .ok (.i2l, 1) := by decide +kernel
theorem dL_cleanse_8 : decode cL_cleanse 8 = .ok (.lastore, 1) := by decide +kernel
theorem dL_cleanse_9 : decode cL_cleanse 9 = .ok (.goto 6, 3) := by decide +kernel
theorem dL_cleanse_12 : decode cL_cleanse 12 = .ok (.astore_n 3, 1) := by decide +kernel
theorem dL_cleanse_13 : decode cL_cleanse 13 = .ok (.iconst 1, 1) := by decide +kernel
theorem dL_cleanse_14 : decode cL_cleanse 14 = .ok (.ireturn, 1) := by decide +kernel
theorem dL_cleanse_15 : decode cL_cleanse 15 = .ok (.iconst 0, 1) := by decide +kernel
theorem dL_cleanse_16 : decode cL_cleanse 16 = .ok (.ireturn, 1) := by decide +kernel
theorem dL_keep_0 : decode cL_keep 0 = .ok (.aload_n 2, 1) := by decide +kernel
theorem dL_keep_1 : decode cL_keep 1 = .ok (.iconst 0, 1) := by decide +kernel
theorem dL_keep_2 : decode cL_keep 2 = .ok (.aload_n 0, 1) := by decide +kernel
theorem dL_keep_3 : decode cL_keep 3 = .ok (.iload_n 1, 1) := by decide +kernel
theorem dL_keep_4 : decode cL_keep 4 = .ok (.invokevirtual 167, 3) := by decide +kernel
theorem dL_keep_7 : decode cL_keep 7 = .ok (.i2l, 1) := by decide +kernel
theorem dL_keep_8 : decode cL_keep 8 = .ok (.lastore, 1) := by decide +kernel
theorem dL_keep_9 : decode cL_keep 9 = .ok (.goto 6, 3) := by decide +kernel
theorem dL_keep_12 : decode cL_keep 12 = .ok (.astore_n 3, 1) := by decide +kernel
theorem dL_keep_13 : decode cL_keep 13 = .ok (.iconst 1, 1) := by decide +kernel
theorem dL_keep_14 : decode cL_keep 14 = .ok (.ireturn, 1) := by decide +kernel
theorem dL_keep_15 : decode cL_keep 15 = .ok (.iconst 0, 1) := by decide +kernel
theorem dL_keep_16 : decode cL_keep 16 = .ok (.ireturn, 1) := by decide +kernel
theorem dL_restore_0 : decode cL_restore 0 = .ok (.aload_n 2, 1) := by decide +kernel
theorem dL_restore_1 : decode cL_restore 1 = .ok (.iconst 0, 1) := by decide +kernel
theorem dL_restore_2 : decode cL_restore 2 = .ok (.aload_n 0, 1) := by decide +kernel
theorem dL_restore_3 : decode cL_restore 3 = .ok (.iload_n 1, 1) := by decide +kernel
theorem dL_restore_4 : decode cL_restore 4 = .ok (.invokevirtual 170, 3) := by decide +kernel
theorem dL_restore_7 : decode cL_restore 7 = .ok (.i2l, 1) := by decide +kernel
theorem dL_restore_8 : decode cL_restore 8 = .ok (.lastore, 1) := by decide +kernel
theorem dL_restore_9 : decode cL_restore 9 = .ok (.goto 9, 3) := by decide +kernel
theorem dL_restore_12 : decode cL_restore 12 = .ok (.astore_n 3, 1) := by decide +kernel
theorem dL_restore_13 : decode cL_restore 13 = .ok (.iconst 1, 1) := by decide +kernel
theorem dL_restore_14 : decode cL_restore 14 = .ok (.ireturn, 1) := by decide +kernel
theorem dL_restore_15 : decode cL_restore 15 = .ok (.astore_n 3, 1) := by decide +kernel
theorem dL_restore_16 : decode cL_restore 16 = .ok (.iconst 2, 1) := by decide +kernel
theorem dL_restore_17 : decode cL_restore 17 = .ok (.ireturn, 1) := by decide +kernel
theorem dL_restore_18 : decode cL_restore 18 = .ok (.iconst 0, 1) := by decide +kernel
theorem dL_restore_19 : decode cL_restore 19 = .ok (.ireturn, 1) := by decide +kernel
theorem dL_undo_0 : decode cL_undo 0 = .ok (.aload_n 1, 1) := by decide +kernel
theorem dL_undo_1 : decode cL_undo 1 = .ok (.iconst 0, 1) := by decide +kernel
theorem dL_undo_2 : decode cL_undo 2 = .ok (.aload_n 0, 1) := by decide +kernel
theorem dL_undo_3 : decode cL_undo 3 = .ok (.invokevirtual 173, 3) := by decide +kernel
theorem dL_undo_6 : decode cL_undo 6 = .ok (.i2l, 1) := by decide +kernel
theorem dL_undo_7 : decode cL_undo 7 = .ok (.lastore, 1) := by decide +kernel
theorem dL_undo_8 : decode cL_undo 8 = .ok (.goto 6, 3) := by decide +kernel
theorem dL_undo_11 : decode cL_undo 11 = .ok (.astore_n 2, 1) := by decide +kernel
theorem dL_undo_12 : decode cL_undo 12 = .ok (.iconst 1, 1) := by decide +kernel
theorem dL_undo_13 : decode cL_undo 13 = .ok (.ireturn, 1) := by decide +kernel
theorem dL_undo_14 : decode cL_undo 14 = .ok (.iconst 0, 1) := by decide +kernel
theorem dL_undo_15 : decode cL_undo 15 = .ok (.ireturn, 1) := by decide +kernel
theorem dL_writeBeliefs_0 : decode cL_writeBeliefs 0 = .ok (.aload_n 2, 1) := by decide +kernel
theorem dL_writeBeliefs_1 : decode cL_writeBeliefs 1 = .ok (.iconst 0, 1) := by decide +kernel
theorem dL_writeBeliefs_2 : decode cL_writeBeliefs 2 = .ok (.aload_n 0, 1) := by decide +kernel
theorem dL_writeBeliefs_3 : decode cL_writeBeliefs 3 = .ok (.iload_n 1, 1) := by decide +kernel
theorem dL_writeBeliefs_4 : decode cL_writeBeliefs 4 = .ok (.invokevirtual 176, 3) := by decide +kernel
theorem dL_writeBeliefs_7 : decode cL_writeBeliefs 7 = .ok (.i2l, 1) := by decide +kernel
theorem dL_writeBeliefs_8 : decode cL_writeBeliefs 8 = .ok (.lastore, 1) := by decide +kernel
theorem dL_writeBeliefs_9 : decode cL_writeBeliefs 9 = .ok (.goto 6, 3) := by decide +kernel
theorem dL_writeBeliefs_12 : decode cL_writeBeliefs 12 = .ok (.astore_n 3, 1) := by decide +kernel
theorem dL_writeBeliefs_13 : decode cL_writeBeliefs 13 = .ok (.iconst 1, 1) := by decide +kernel
theorem dL_writeBeliefs_14 : decode cL_writeBeliefs 14 = .ok (.ireturn, 1) := by decide +kernel
theorem dL_writeBeliefs_15 : decode cL_writeBeliefs 15 = .ok (.iconst 0, 1) := by decide +kernel
theorem dL_writeBeliefs_16 : decode cL_writeBeliefs 16 = .ok (.ireturn, 1) := by decide +kernel
theorem dL_writeReports_0 : decode cL_writeReports 0 = .ok (.aload_n 2, 1) := by decide +kernel
theorem dL_writeReports_1 : decode cL_writeReports 1 = .ok (.iconst 0, 1) := by decide +kernel
theorem dL_writeReports_2 : decode cL_writeReports 2 = .ok (.aload_n 0, 1) := by decide +kernel
theorem dL_writeReports_3 : decode cL_writeReports 3 = .ok (.iload_n 1, 1) := by decide +kernel
theorem dL_writeReports_4 : decode cL_writeReports 4 = .ok (.invokevirtual 179, 3) := by decide +kernel
theorem dL_writeReports_7 : decode cL_writeReports 7 = .ok (.i2l, 1) := by decide +kernel
theorem dL_writeReports_8 : decode cL_writeReports 8 = .ok (.lastore, 1) := by decide +kernel
theorem dL_writeReports_9 : decode cL_writeReports 9 = .ok (.goto 6, 3) := by decide +kernel
theorem dL_writeReports_12 : decode cL_writeReports 12 = .ok (.astore_n 3, 1) := by decide +kernel
theorem dL_writeReports_13 : decode cL_writeReports 13 = .ok (.iconst 1, 1) := by decide +kernel
theorem dL_writeReports_14 : decode cL_writeReports 14 = .ok (.ireturn, 1) := by decide +kernel
theorem dL_writeReports_15 : decode cL_writeReports 15 = .ok (.iconst 0, 1) := by decide +kernel
theorem dL_writeReports_16 : decode cL_writeReports 16 = .ok (.ireturn, 1) := by decide +kernel
theorem dL_outputByte_0 : decode cL_outputByte 0 = .ok (.aload_n 2, 1) := by decide +kernel
theorem dL_outputByte_1 : decode cL_outputByte 1 = .ok (.iconst 0, 1) := by decide +kernel
theorem dL_outputByte_2 : decode cL_outputByte 2 = .ok (.aload_n 0, 1) := by decide +kernel
theorem dL_outputByte_3 : decode cL_outputByte 3 = .ok (.iload_n 1, 1) := by decide +kernel
theorem dL_outputByte_4 : decode cL_outputByte 4 = .ok (.invokevirtual 182, 3) := by decide +kernel
theorem dL_outputByte_7 : decode cL_outputByte 7 = .ok (.i2l, 1) := by decide +kernel
theorem dL_outputByte_8 : decode cL_outputByte 8 = .ok (.lastore, 1) := by decide +kernel
theorem dL_outputByte_9 : decode cL_outputByte 9 = .ok (.goto 6, 3) := by decide +kernel
theorem dL_outputByte_12 : decode cL_outputByte 12 = .ok (.astore_n 3, 1) := by decide +kernel
theorem dL_outputByte_13 : decode cL_outputByte 13 = .ok (.iconst 1, 1) := by decide +kernel
theorem dL_outputByte_14 : decode cL_outputByte 14 = .ok (.ireturn, 1) := by decide +kernel
theorem dL_outputByte_15 : decode cL_outputByte 15 = .ok (.iconst 0, 1) := by decide +kernel
theorem dL_outputByte_16 : decode cL_outputByte 16 = .ok (.ireturn, 1) := by decide +kernel
theorem dL_law_0 : decode cL_law 0 = .ok (.new 8, 3) := by decide +kernel
theorem dL_law_3 : decode cL_law 3 = .ok (.dup, 1) := by decide +kernel
theorem dL_law_4 : decode cL_law 4 = .ok (.invokespecial 185, 3) := by decide +kernel
theorem dL_law_7 : decode cL_law 7 = .ok (.astore_n 1, 1) := by decide +kernel
theorem dL_law_8 : decode cL_law 8 = .ok (.new 186, 3) := by decide +kernel
theorem dL_law_11 : decode cL_law 11 = .ok (.dup, 1) := by decide +kernel
theorem dL_law_12 : decode cL_law 12 = .ok (.invokespecial 188, 3) := by decide +kernel
theorem dL_law_15 : decode cL_law 15 = .ok (.astore_n 2, 1) := by decide +kernel
theorem dL_law_16 : decode cL_law 16 = .ok (.iconst 1, 1) := by decide +kernel
theorem dL_law_17 : decode cL_law 17 = .ok (.newarray .long, 2) := by decide +kernel
theorem dL_law_19 : decode cL_law 19 = .ok (.astore_n 3, 1) := by decide +kernel
