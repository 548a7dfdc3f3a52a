theorem dX8_thrown_0 : decode cX8_thrown 0 = .ok (.aload_n 0, 1) := by decide +kernel
theorem dX8_thrown_1 : decode cX8_thrown 1 = .ok (.getfield 3, 3) := by decide +kernel
theorem dX8_thrown_4 : decode cX8_thrown 4 = .ok (.ireturn, 1) := by decide +kernel
theorem dX8_in_0 : decode cX8_in 0 = .ok (.lload_n 0, 1) := by decide +kernel
theorem dX8_in_1 : decode cX8_in 1 = .ok (.lload_n 2, 1) := by decide +kernel
theorem dX8_in_2 : decode cX8_in 2 = .ok (.lcmp, 1) := by decide +kernel
theorem dX8_in_3 : decode cX8_in 3 = .ok (.ifCond .lt 14, 3) := by decide +kernel
theorem dX8_in_6 : decode cX8_in 6 = .ok (.lload_n 0, 1) := by decide +kernel
theorem dX8_in_7 : decode cX8_in 7 = .ok (.lload 4, 2) := by decide +kernel
theorem dX8_in_9 : decode cX8_in 9 = .ok (.lcmp, 1) := by decide +kernel
theorem dX8_in_10 : decode cX8_in 10 = .ok (.ifCond .gt 7, 3) := by decide +kernel
theorem dX8_in_13 : decode cX8_in 13 = .ok (.iconst 1, 1) := by decide +kernel
theorem dX8_in_14 : decode cX8_in 14 = .ok (.goto 4, 3) := by decide +kernel
theorem dX8_in_17 : decode cX8_in 17 = .ok (.iconst 0, 1) := by decide +kernel
theorem dX8_in_18 : decode cX8_in 18 = .ok (.ireturn, 1) := by decide +kernel
theorem dX8_passes3_0 : decode cX8_passes3 0 = .ok (.aload_n 0, 1) := by decide +kernel
theorem dX8_passes3_1 : decode cX8_passes3 1 = .ok (.iload_n 1, 1) := by decide +kernel
theorem dX8_passes3_2 : decode cX8_passes3 2 = .ok (.ifCond .ne 7, 3) := by decide +kernel
theorem dX8_passes3_5 : decode cX8_passes3 5 = .ok (.iconst 1, 1) := by decide +kernel
theorem dX8_passes3_6 : decode cX8_passes3 6 = .ok (.goto 20, 3) := by decide +kernel
theorem dX8_passes3_9 : decode cX8_passes3 9 = .ok (.iload_n 2, 1) := by decide +kernel
theorem dX8_passes3_10 : decode cX8_passes3 10 = .ok (.ifCond .ne 7, 3) := by decide +kernel
theorem dX8_passes3_13 : decode cX8_passes3 13 = .ok (.iconst 2, 1) := by decide +kernel
theorem dX8_passes3_14 : decode cX8_passes3 14 = .ok (.goto 12, 3) := by decide +kernel
theorem dX8_passes3_17 : decode cX8_passes3 17 = .ok (.iload_n 3, 1) := by decide +kernel
theorem dX8_passes3_18 : decode cX8_passes3 18 = .ok (.ifCond .ne 7, 3) := by decide +kernel
theorem dX8_passes3_21 : decode cX8_passes3 21 = .ok (.iconst 3, 1) := by decide +kernel
theorem dX8_passes3_22 : decode cX8_passes3 22 = .ok (.goto 4, 3) := by decide +kernel
theorem dX8_passes3_25 : decode cX8_passes3 25 = .ok (.iconst 0, 1) := by decide +kernel
theorem dX8_passes3_26 : decode cX8_passes3 26 = .ok (.putfield 3, 3) := by decide +kernel
theorem dX8_passes3_29 : decode cX8_passes3 29 = .ok (.aload_n 0, 1) := by decide +kernel
theorem dX8_passes3_30 : decode cX8_passes3 30 = .ok (.getfield 3, 3) := by decide +kernel
theorem dX8_passes3_33 : decode cX8_passes3 33 = .ok (.ifCond .ne 7, 3) := by decide +kernel
theorem dX8_passes3_36 : decode cX8_passes3 36 = .ok (.iconst 1, 1) := by decide +kernel
theorem dX8_passes3_37 : decode cX8_passes3 37 = .ok (.goto 4, 3) := by decide +kernel
theorem dX8_passes3_40 : decode cX8_passes3 40 = .ok (.iconst 0, 1) := by decide +kernel
theorem dX8_passes3_41 : decode cX8_passes3 41 = .ok (.ireturn, 1) := by decide +kernel
theorem dX8_passes2_0 : decode cX8_passes2 0 = .ok (.aload_n 0, 1) := by decide +kernel
theorem dX8_passes2_1 : decode cX8_passes2 1 = .ok (.iload_n 1, 1) := by decide +kernel
theorem dX8_passes2_2 : decode cX8_passes2 2 = .ok (.iload_n 2, 1) := by decide +kernel
theorem dX8_passes2_3 : decode cX8_passes2 3 = .ok (.iconst 1, 1) := by decide +kernel
theorem dX8_passes2_4 : decode cX8_passes2 4 = .ok (.invokevirtual 7, 3) := by decide +kernel
theorem dX8_passes2_7 : decode cX8_passes2 7 = .ok (.ireturn, 1) := by decide +kernel
theorem dX8_passes_0 : decode cX8_passes 0 = .ok (.aload_n 0, 1) := by decide +kernel
theorem dX8_passes_1 : decode cX8_passes 1 = .ok (.iload_n 1, 1) := by decide +kernel
theorem dX8_passes_2 : decode cX8_passes 2 = .ok (.iconst 1, 1) := by decide +kernel
theorem dX8_passes_3 : decode cX8_passes 3 = .ok (.iconst 1, 1) := by decide +kernel
theorem dX8_passes_4 : decode cX8_passes 4 = .ok (.invokevirtual 7, 3) := by decide +kernel
theorem dX8_passes_7 : decode cX8_passes 7 = .ok (.ireturn, 1) := by decide +kernel
theorem dX8_init_0 : decode cX8_init 0 = .ok (.aload_n 0, 1) := by decide +kernel
theorem dX8_init_1 : decode cX8_init 1 = .ok (.invokespecial 11, 3) := by decide +kernel
theorem dX8_init_4 : decode cX8_init 4 = .ok (.aload_n 0, 1) := by decide +kernel
theorem dX8_init_5 : decode cX8_init 5 = .ok (.sipush 2405, 3) := by decide +kernel
theorem dX8_init_8 : decode cX8_init 8 = .ok (.newarray .int, 2) := by decide +kernel
theorem dX8_init_10 : decode cX8_init 10 = .ok (.putfield 17, 3) := by decide +kernel
theorem dX8_init_13 : decode cX8_init 13 = .ok (.aload_n 0, 1) := by decide +kernel
theorem dX8_init_14 : decode cX8_init 14 = .ok (.sipush 2405, 3) := by decide +kernel
theorem dX8_init_17 : decode cX8_init 17 = .ok (.newarray .int, 2) := by decide +kernel
theorem dX8_init_19 : decode cX8_init 19 = .ok (.putfield 21, 3) := by decide +kernel
theorem dX8_init_22 : decode cX8_init 22 = .ok (.aload_n 0, 1) := by decide +kernel
theorem dX8_init_23 : decode cX8_init 23 = .ok (.aload_n 0, 1) := by decide +kernel
theorem dX8_init_24 : decode cX8_init 24 = .ok (.getfield 17, 3) := by decide +kernel
theorem dX8_init_27 : decode cX8_init 27 = .ok (.putfield 24, 3) := by decide +kernel
theorem dX8_init_30 : decode cX8_init 30 = .ok (.aload_n 0, 1) := by decide +kernel
theorem dX8_init_31 : decode cX8_init 31 = .ok (.iconst (-1), 1) := by decide +kernel
theorem dX8_init_32 : decode cX8_init 32 = .ok (.putfield 27, 3) := by decide +kernel
theorem dX8_init_35 : decode cX8_init 35 = .ok (.aload_n 0, 1) := by decide +kernel
theorem dX8_init_36 : decode cX8_init 36 = .ok (.bipush 36, 2) := by decide +kernel
theorem dX8_init_38 : decode cX8_init 38 = .ok (.newarray .int, 2) := by decide +kernel
theorem dX8_init_40 : decode cX8_init 40 = .ok (.putfield 30, 3) := by decide +kernel
theorem dX8_init_43 : decode cX8_init 43 = .ok (.aload_n 0, 1) := by decide +kernel
theorem dX8_init_44 : decode cX8_init 44 = .ok (.bipush 36, 2) := by decide +kernel
theorem dX8_init_46 : decode cX8_init 46 = .ok (.newarray .boolean, 2) := by decide +kernel
theorem dX8_init_48 : decode cX8_init 48 = .ok (.putfield 33, 3) := by decide +kernel
theorem dX8_init_51 : decode cX8_init 51 = .ok (.aload_n 0, 1) := by decide +kernel
theorem dX8_init_52 : decode cX8_init 52 = .ok (.sipush 2405, 3) := by decide +kernel
theorem dX8_init_55 : decode cX8_init 55 = .ok (.newarray .int, 2) := by decide +kernel
theorem dX8_init_57 : decode cX8_init 57 = .ok (.putfield 37, 3) := by decide +kernel
theorem dX8_init_60 : decode cX8_init 60 = .ok (.aload_n 0, 1) := by decide +kernel
theorem dX8_init_61 : decode cX8_init 61 = .ok (.sipush 600, 3) := by decide +kernel
theorem dX8_init_64 : decode cX8_init 64 = .ok (.newarray .byte, 2) := by decide +kernel
theorem dX8_init_66 : decode cX8_init 66 = .ok (.putfield 40, 3) := by decide +kernel
theorem dX8_init_69 : decode cX8_init 69 = .ok (.aload_n 0, 1) := by decide +kernel
theorem dX8_init_70 : decode cX8_init 70 = .ok (.iconst (-1), 1) := by decide +kernel
theorem dX8_init_71 : decode cX8_init 71 = .ok (.putfield 44, 3) := by decide +kernel
theorem dX8_init_74 : decode cX8_init 74 = .ok (.aload_n 0, 1) := by decide +kernel
theorem dX8_init_75 : decode cX8_init 75 = .ok (.bipush 36, 2) := by decide +kernel
theorem dX8_init_77 : decode cX8_init 77 = .ok (.newarray .boolean, 2) := by decide +kernel
theorem dX8_init_79 : decode cX8_init 79 = .ok (.putfield 47, 3) := by decide +kernel
theorem dX8_init_82 : decode cX8_init 82 = .ok (.aload_n 0, 1) := by decide +kernel
theorem dX8_init_83 : decode cX8_init 83 = .ok (.sipush 4810, 3) := by decide +kernel
theorem dX8_init_86 : decode cX8_init 86 = .ok (.newarray .int, 2) := by decide +kernel
theorem dX8_init_88 : decode cX8_init 88 = .ok (.putfield 50, 3) := by decide +kernel
theorem dX8_init_91 : decode cX8_init 91 = .ok (.aload_n 0, 1) := by decide +kernel
theorem dX8_init_92 : decode cX8_init 92 = .ok (.iconst 2, 1) := by decide +kernel
theorem dX8_init_93 : decode cX8_init 93 = .ok (.newarray .boolean, 2) := by decide +kernel
theorem dX8_init_95 : decode cX8_init 95 = .ok (.putfield 53, 3) := by decide +kernel
theorem dX8_init_98 : decode cX8_init 98 = .ok (.aload_n 0, 1) := by decide +kernel
theorem dX8_init_99 : decode cX8_init 99 = .ok (.sipush 14430, 3) := by decide +kernel
theorem dX8_init_102 : decode cX8_init 102 = .ok (.newarray .int, 2) := by decide +kernel
theorem dX8_init_104 : decode cX8_init 104 = .ok (.putfield 56, 3) := by decide +kernel
theorem dX8_init_107 : decode cX8_init 107 = .ok (.aload_n 0, 1) := by decide +kernel
theorem dX8_init_108 : decode cX8_init 108 = .ok (.sipush 1800, 3) := by decide +kernel
theorem dX8_init_111 : decode cX8_init 111 = .ok (.newarray .byte, 2) := by decide +kernel
theorem dX8_init_113 : decode cX8_init 113 = .ok (.putfield 59, 3) := by decide +kernel
theorem dX8_init_116 : decode cX8_init 116 = .ok (.aload_n 0, 1) := by decide +kernel
theorem dX8_init_117 : decode cX8_init 117 = .ok (.getfield 17, 3) := by decide +kernel
theorem dX8_init_120 : decode cX8_init 120 = .ok (.invokestatic 62, 3) := by decide +kernel
theorem dX8_init_123 : decode cX8_init 123 = .ok (.aload_n 0, 1) := by decide +kernel
theorem dX8_init_124 : decode cX8_init 124 = .ok (.getfield 17, 3) := by decide +kernel
theorem dX8_init_127 : decode cX8_init 127 = .ok (.iconst 3, 1) := by decide +kernel
theorem dX8_init_128 : decode cX8_init 128 = .ok (.iconst 1, 1) := by decide +kernel
theorem dX8_init_129 : decode cX8_init 129 = .ok (.iastore, 1) := by decide +kernel
theorem dX8_init_130 : decode cX8_init 130 = .ok (.aload_n 0, 1) := by decide +kernel
theorem dX8_init_131 : decode cX8_init 131 = .ok (.getfield 17, 3) := by decide +kernel
theorem dX8_init_134 : decode cX8_init 134 = .ok (.iconst 4, 1) := by decide +kernel
theorem dX8_init_135 : decode cX8_init 135 = .ok (.iconst 2, 1) := by decide +kernel
theorem dX8_init_136 : decode cX8_init 136 = .ok (.iastore, 1) := by decide +kernel
theorem dX8_init_137 : decode cX8_init 137 = .ok (.aload_n 0, 1) := by decide +kernel
theorem dX8_init_138 : decode cX8_init 138 = .ok (.getfield 17, 3) := by decide +kernel
theorem dX8_init_141 : decode cX8_init 141 = .ok (.iconst 5, 1) := by decide +kernel
theorem dX8_init_142 : decode cX8_init 142 = .ok (.iconst 3, 1) := by decide +kernel
theorem dX8_init_143 : decode cX8_init 143 = .ok (.iastore, 1) := by decide +kernel
theorem dX8_init_144 : decode cX8_init 144 = .ok (.aload_n 0, 1) := by decide +kernel
theorem dX8_init_145 : decode cX8_init 145 = .ok (.getfield 17, 3) := by decide +kernel
theorem dX8_init_148 : decode cX8_init 148 = .ok (.bipush 6, 2) := by decide +kernel
theorem dX8_init_150 : decode cX8_init 150 = .ok (.bipush 50, 2) := by decide +kernel
theorem dX8_init_152 : decode cX8_init 152 = .ok (.iastore, 1) := by decide +kernel
theorem dX8_init_153 : decode cX8_init 153 = .ok (.aload_n 0, 1) := by decide +kernel
theorem dX8_init_154 : decode cX8_init 154 = .ok (.getfield 17, 3) := by decide +kernel
theorem dX8_init_157 : decode cX8_init 157 = .ok (.bipush 7, 2) := by decide +kernel
theorem dX8_init_159 : decode cX8_init 159 = .ok (.iconst 2, 1) := by decide +kernel
theorem dX8_init_160 : decode cX8_init 160 = .ok (.iastore, 1) := by decide +kernel
theorem dX8_init_161 : decode cX8_init 161 = .ok (.return_, 1) := by decide +kernel
theorem dX8_clear_0 : decode cX8_clear 0 = .ok (.iconst 0, 1) := by decide +kernel
theorem dX8_clear_1 : decode cX8_clear 1 = .ok (.istore_n 1, 1) := by decide +kernel
theorem dX8_clear_2 : decode cX8_clear 2 = .ok (.iload_n 1, 1) := by decide +kernel
theorem dX8_clear_3 : decode cX8_clear 3 = .ok (.sipush 2405, 3) := by decide +kernel
theorem dX8_clear_6 : decode cX8_clear 6 = .ok (.if_icmp .ge 13, 3) := by decide +kernel
theorem dX8_clear_9 : decode cX8_clear 9 = .ok (.aload_n 0, 1) := by decide +kernel
theorem dX8_clear_10 : decode cX8_clear 10 = .ok (.iload_n 1, 1) := by decide +kernel
theorem dX8_clear_11 : decode cX8_clear 11 = .ok (.iconst 0, 1) := by decide +kernel
theorem dX8_clear_12 : decode cX8_clear 12 = .ok (.iastore, 1) := by decide +kernel
theorem dX8_clear_13 : decode cX8_clear 13 = .ok (.iinc 1 1, 3) := by decide +kernel
theorem dX8_clear_16 : decode cX8_clear 16 = .ok (.goto (-14), 3) := by decide +kernel
theorem dX8_clear_19 : decode cX8_clear 19 = .ok (.iconst 0, 1) := by decide +kernel
theorem dX8_clear_20 : decode cX8_clear 20 = .ok (.istore_n 1, 1) := by decide +kernel
theorem dX8_clear_21 : decode cX8_clear 21 = .ok (.iload_n 1, 1) := by decide +kernel
theorem dX8_clear_22 : decode cX8_clear 22 = .ok (.bipush 36, 2) := by decide +kernel
theorem dX8_clear_24 : decode cX8_clear 24 = .ok (.if_icmp .ge 16, 3) := by decide +kernel
theorem dX8_clear_27 : decode cX8_clear 27 = .ok (.aload_n 0, 1) := by decide +kernel
theorem dX8_clear_28 : decode cX8_clear 28 = .ok (.bipush 21, 2) := by decide +kernel
theorem dX8_clear_30 : decode cX8_clear 30 = .ok (.iload_n 1, 1) := by decide +kernel
theorem dX8_clear_31 : decode cX8_clear 31 = .ok (.iadd, 1) := by decide +kernel
theorem dX8_clear_32 : decode cX8_clear 32 = .ok (.iconst (-1), 1) := by decide +kernel
theorem dX8_clear_33 : decode cX8_clear 33 = .ok (.iastore, 1) := by decide +kernel
theorem dX8_clear_34 : decode cX8_clear 34 = .ok (.iinc 1 1, 3) := by decide +kernel
theorem dX8_clear_37 : decode cX8_clear 37 = .ok (.goto (-16), 3) := by decide +kernel
theorem dX8_clear_40 : decode cX8_clear 40 = .ok (.return_, 1) := by decide +kernel
theorem dX8_agents_0 : decode cX8_agents 0 = .ok (.aload_n 0, 1) := by decide +kernel
theorem dX8_agents_1 : decode cX8_agents 1 = .ok (.getfield 24, 3) := by decide +kernel
theorem dX8_agents_4 : decode cX8_agents 4 = .ok (.iconst 0, 1) := by decide +kernel
theorem dX8_agents_5 : decode cX8_agents 5 = .ok (.iaload, 1) := by decide +kernel
theorem dX8_agents_6 : decode cX8_agents 6 = .ok (.ireturn, 1) := by decide +kernel
theorem dX8_ways_0 : decode cX8_ways 0 = .ok (.aload_n 0, 1) := by decide +kernel
theorem dX8_ways_1 : decode cX8_ways 1 = .ok (.getfield 24, 3) := by decide +kernel
theorem dX8_ways_4 : decode cX8_ways 4 = .ok (.iconst 1, 1) := by decide +kernel
theorem dX8_ways_5 : decode cX8_ways 5 = .ok (.iaload, 1) := by decide +kernel
theorem dX8_ways_6 : decode cX8_ways 6 = .ok (.ireturn, 1) := by decide +kernel
theorem dX8_rule_0 : decode cX8_rule 0 = .ok (.aload_n 0, 1) := by decide +kernel
theorem dX8_rule_1 : decode cX8_rule 1 = .ok (.getfield 24, 3) := by decide +kernel
theorem dX8_rule_4 : decode cX8_rule 4 = .ok (.iconst 3, 1) := by decide +kernel
theorem dX8_rule_5 : decode cX8_rule 5 = .ok (.iload_n 1, 1) := by decide +kernel
theorem dX8_rule_6 : decode cX8_rule 6 = .ok (.iadd, 1) := by decide +kernel
theorem dX8_rule_7 : decode cX8_rule 7 = .ok (.iaload, 1) := by decide +kernel
theorem dX8_rule_8 : decode cX8_rule 8 = .ok (.ireturn, 1) := by decide +kernel
theorem dX8_isAgent_0 : decode cX8_isAgent 0 = .ok (.iload_n 1, 1) := by decide +kernel
theorem dX8_isAgent_1 : decode cX8_isAgent 1 = .ok (.i2l, 1) := by decide +kernel
theorem dX8_isAgent_2 : decode cX8_isAgent 2 = .ok (.lconst 0, 1) := by decide +kernel
theorem dX8_isAgent_3 : decode cX8_isAgent 3 = .ok (.aload_n 0, 1) := by decide +kernel
theorem dX8_isAgent_4 : decode cX8_isAgent 4 = .ok (.invokevirtual 66, 3) := by decide +kernel
theorem dX8_isAgent_7 : decode cX8_isAgent 7 = .ok (.iconst 1, 1) := by decide +kernel
theorem dX8_isAgent_8 : decode cX8_isAgent 8 = .ok (.isub, 1) := by decide +kernel
theorem dX8_isAgent_9 : decode cX8_isAgent 9 = .ok (.i2l, 1) := by decide +kernel
theorem dX8_isAgent_10 : decode cX8_isAgent 10 = .ok (.invokestatic 70, 3) := by decide +kernel
theorem dX8_isAgent_13 : decode cX8_isAgent 13 = .ok (.ireturn, 1) := by decide +kernel
theorem dX8_isWay_0 : decode cX8_isWay 0 = .ok (.iload_n 1, 1) := by decide +kernel
theorem dX8_isWay_1 : decode cX8_isWay 1 = .ok (.i2l, 1) := by decide +kernel
theorem dX8_isWay_2 : decode cX8_isWay 2 = .ok (.lconst 0, 1) := by decide +kernel
theorem dX8_isWay_3 : decode cX8_isWay 3 = .ok (.aload_n 0, 1) := by decide +kernel
theorem dX8_isWay_4 : decode cX8_isWay 4 = .ok (.invokevirtual 74, 3) := by decide +kernel
theorem dX8_isWay_7 : decode cX8_isWay 7 = .ok (.iconst 1, 1) := by decide +kernel
theorem dX8_isWay_8 : decode cX8_isWay 8 = .ok (.isub, 1) := by decide +kernel
theorem dX8_isWay_9 : decode cX8_isWay 9 = .ok (.i2l, 1) := by decide +kernel
theorem dX8_isWay_10 : decode cX8_isWay 10 = .ok (.invokestatic 70, 3) := by decide +kernel
theorem dX8_isWay_13 : decode cX8_isWay 13 = .ok (.ireturn, 1) := by decide +kernel
theorem dX8_trustOf_0 : decode cX8_trustOf 0 = .ok (.aload_n 0, 1) := by decide +kernel
theorem dX8_trustOf_1 : decode cX8_trustOf 1 = .ok (.getfield 24, 3) := by decide +kernel
theorem dX8_trustOf_4 : decode cX8_trustOf 4 = .ok (.bipush 21, 2) := by decide +kernel
theorem dX8_trustOf_6 : decode cX8_trustOf 6 = .ok (.bipush 6, 2) := by decide +kernel
theorem dX8_trustOf_8 : decode cX8_trustOf 8 = .ok (.iload_n 1, 1) := by decide +kernel
theorem dX8_trustOf_9 : decode cX8_trustOf 9 = .ok (.imul, 1) := by decide +kernel
theorem dX8_trustOf_10 : decode cX8_trustOf 10 = .ok (.iadd, 1) := by decide +kernel
theorem dX8_trustOf_11 : decode cX8_trustOf 11 = .ok (.iload_n 2, 1) := by decide +kernel
theorem dX8_trustOf_12 : decode cX8_trustOf 12 = .ok (.iadd, 1) := by decide +kernel
theorem dX8_trustOf_13 : decode cX8_trustOf 13 = .ok (.iaload, 1) := by decide +kernel
theorem dX8_trustOf_14 : decode cX8_trustOf 14 = .ok (.ireturn, 1) := by decide +kernel
theorem dX8_putTrust_0 : decode cX8_putTrust 0 = .ok (.aload_n 0, 1) := by decide +kernel
theorem dX8_putTrust_1 : decode cX8_putTrust 1 = .ok (.getfield 24, 3) := by decide +kernel
theorem dX8_putTrust_4 : decode cX8_putTrust 4 = .ok (.bipush 21, 2) := by decide +kernel
theorem dX8_putTrust_6 : decode cX8_putTrust 6 = .ok (.bipush 6, 2) := by decide +kernel
theorem dX8_putTrust_8 : decode cX8_putTrust 8 = .ok (.iload_n 1, 1) := by decide +kernel
theorem dX8_putTrust_9 : decode cX8_putTrust 9 = .ok (.imul, 1) := by decide +kernel
theorem dX8_putTrust_10 : decode cX8_putTrust 10 = .ok (.iadd, 1) := by decide +kernel
theorem dX8_putTrust_11 : decode cX8_putTrust 11 = .ok (.iload_n 2, 1) := by decide +kernel
theorem dX8_putTrust_12 : decode cX8_putTrust 12 = .ok (.iadd, 1) := by decide +kernel
theorem dX8_putTrust_13 : decode cX8_putTrust 13 = .ok (.iload_n 3, 1) := by decide +kernel
theorem dX8_putTrust_14 : decode cX8_putTrust 14 = .ok (.iastore, 1) := by decide +kernel
theorem dX8_putTrust_15 : decode cX8_putTrust 15 = .ok (.return_, 1) := by decide +kernel
theorem dX8_areLinked_0 : decode cX8_areLinked 0 = .ok (.aload_n 0, 1) := by decide +kernel
theorem dX8_areLinked_1 : decode cX8_areLinked 1 = .ok (.iload_n 1, 1) := by decide +kernel
theorem dX8_areLinked_2 : decode cX8_areLinked 2 = .ok (.iload_n 2, 1) := by decide +kernel
theorem dX8_areLinked_3 : decode cX8_areLinked 3 = .ok (.invokevirtual 77, 3) := by decide +kernel
theorem dX8_areLinked_6 : decode cX8_areLinked 6 = .ok (.iconst (-1), 1) := by decide +kernel
theorem dX8_areLinked_7 : decode cX8_areLinked 7 = .ok (.if_icmp .eq 7, 3) := by decide +kernel
theorem dX8_areLinked_10 : decode cX8_areLinked 10 = .ok (.iconst 1, 1) := by decide +kernel
theorem dX8_areLinked_11 : decode cX8_areLinked 11 = .ok (.goto 4, 3) := by decide +kernel
theorem dX8_areLinked_14 : decode cX8_areLinked 14 = .ok (.iconst 0, 1) := by decide +kernel
theorem dX8_areLinked_15 : decode cX8_areLinked 15 = .ok (.ireturn, 1) := by decide +kernel
theorem dX8_listAt_0 : decode cX8_listAt 0 = .ok (.bipush 87, 2) := by decide +kernel
theorem dX8_listAt_2 : decode cX8_listAt 2 = .ok (.sipush 253, 3) := by decide +kernel
theorem dX8_listAt_5 : decode cX8_listAt 5 = .ok (.iload_n 0, 1) := by decide +kernel
theorem dX8_listAt_6 : decode cX8_listAt 6 = .ok (.imul, 1) := by decide +kernel
theorem dX8_listAt_7 : decode cX8_listAt 7 = .ok (.iadd, 1) := by decide +kernel
theorem dX8_listAt_8 : decode cX8_listAt 8 = .ok (.ireturn, 1) := by decide +kernel
theorem dX8_manyOf_0 : decode cX8_manyOf 0 = .ok (.aload_n 0, 1) := by decide +kernel
theorem dX8_manyOf_1 : decode cX8_manyOf 1 = .ok (.getfield 24, 3) := by decide +kernel
theorem dX8_manyOf_4 : decode cX8_manyOf 4 = .ok (.iload_n 1, 1) := by decide +kernel
theorem dX8_manyOf_5 : decode cX8_manyOf 5 = .ok (.invokestatic 81, 3) := by decide +kernel
theorem dX8_manyOf_8 : decode cX8_manyOf 8 = .ok (.iaload, 1) := by decide +kernel
theorem dX8_manyOf_9 : decode cX8_manyOf 9 = .ok (.ireturn, 1) := by decide +kernel
theorem dX8_reportAt_0 : decode cX8_reportAt 0 = .ok (.iload_n 0, 1) := by decide +kernel
theorem dX8_reportAt_1 : decode cX8_reportAt 1 = .ok (.invokestatic 81, 3) := by decide +kernel
theorem dX8_reportAt_4 : decode cX8_reportAt 4 = .ok (.iconst 1, 1) := by decide +kernel
theorem dX8_reportAt_5 : decode cX8_reportAt 5 = .ok (.iadd, 1) := by decide +kernel
theorem dX8_reportAt_6 : decode cX8_reportAt 6 = .ok (.bipush 7, 2) := by decide +kernel
theorem dX8_reportAt_8 : decode cX8_reportAt 8 = .ok (.iload_n 1, 1) := by decide +kernel
theorem dX8_reportAt_9 : decode cX8_reportAt 9 = .ok (.imul, 1) := by decide +kernel
theorem dX8_reportAt_10 : decode cX8_reportAt 10 = .ok (.iadd, 1) := by decide +kernel
theorem dX8_reportAt_11 : decode cX8_reportAt 11 = .ok (.ireturn, 1) := by decide +kernel
theorem dX8_ofReport_0 : decode cX8_ofReport 0 = .ok (.aload_n 0, 1) := by decide +kernel
theorem dX8_ofReport_1 : decode cX8_ofReport 1 = .ok (.getfield 24, 3) := by decide +kernel
theorem dX8_ofReport_4 : decode cX8_ofReport 4 = .ok (.iload_n 1, 1) := by decide +kernel
theorem dX8_ofReport_5 : decode cX8_ofReport 5 = .ok (.iload_n 2, 1) := by decide +kernel
theorem dX8_ofReport_6 : decode cX8_ofReport 6 = .ok (.invokestatic 85, 3) := by decide +kernel
theorem dX8_ofReport_9 : decode cX8_ofReport 9 = .ok (.iload_n 3, 1) := by decide +kernel
theorem dX8_ofReport_10 : decode cX8_ofReport 10 = .ok (.iadd, 1) := by decide +kernel
theorem dX8_ofReport_11 : decode cX8_ofReport 11 = .ok (.iaload, 1) := by decide +kernel
theorem dX8_ofReport_12 : decode cX8_ofReport 12 = .ok (.ireturn, 1) := by decide +kernel
theorem dX8_isReport_0 : decode cX8_isReport 0 = .ok (.aload_n 0, 1) := by decide +kernel
theorem dX8_isReport_1 : decode cX8_isReport 1 = .ok (.iload_n 1, 1) := by decide +kernel
theorem dX8_isReport_2 : decode cX8_isReport 2 = .ok (.invokevirtual 88, 3) := by decide +kernel
theorem dX8_isReport_5 : decode cX8_isReport 5 = .ok (.ifCond .eq 24, 3) := by decide +kernel
theorem dX8_isReport_8 : decode cX8_isReport 8 = .ok (.iload_n 2, 1) := by decide +kernel
theorem dX8_isReport_9 : decode cX8_isReport 9 = .ok (.i2l, 1) := by decide +kernel
theorem dX8_isReport_10 : decode cX8_isReport 10 = .ok (.lconst 0, 1) := by decide +kernel
theorem dX8_isReport_11 : decode cX8_isReport 11 = .ok (.aload_n 0, 1) := by decide +kernel
theorem dX8_isReport_12 : decode cX8_isReport 12 = .ok (.iload_n 1, 1) := by decide +kernel
theorem dX8_isReport_13 : decode cX8_isReport 13 = .ok (.invokevirtual 92, 3) := by decide +kernel
theorem dX8_isReport_16 : decode cX8_isReport 16 = .ok (.iconst 1, 1) := by decide +kernel
theorem dX8_isReport_17 : decode cX8_isReport 17 = .ok (.isub, 1) := by decide +kernel
theorem dX8_isReport_18 : decode cX8_isReport 18 = .ok (.i2l, 1) := by decide +kernel
theorem dX8_isReport_19 : decode cX8_isReport 19 = .ok (.invokestatic 70, 3) := by decide +kernel
theorem dX8_isReport_22 : decode cX8_isReport 22 = .ok (.ifCond .eq 7, 3) := by decide +kernel
theorem dX8_isReport_25 : decode cX8_isReport 25 = .ok (.iconst 1, 1) := by decide +kernel
theorem dX8_isReport_26 : decode cX8_isReport 26 = .ok (.goto 4, 3) := by decide +kernel
theorem dX8_isReport_29 : decode cX8_isReport 29 = .ok (.iconst 0, 1) := by decide +kernel
theorem dX8_isReport_30 : decode cX8_isReport 30 = .ok (.ireturn, 1) := by decide +kernel
theorem dX8_count_0 : decode cX8_count 0 = .ok (.aload_n 0, 1) := by decide +kernel
theorem dX8_count_1 : decode cX8_count 1 = .ok (.getfield 24, 3) := by decide +kernel
theorem dX8_count_4 : decode cX8_count 4 = .ok (.bipush 57, 2) := by decide +kernel
theorem dX8_count_6 : decode cX8_count 6 = .ok (.iconst 5, 1) := by decide +kernel
theorem dX8_count_7 : decode cX8_count 7 = .ok (.iload_n 1, 1) := by decide +kernel
theorem dX8_count_8 : decode cX8_count 8 = .ok (.imul, 1) := by decide +kernel
theorem dX8_count_9 : decode cX8_count 9 = .ok (.iadd, 1) := by decide +kernel
theorem dX8_count_10 : decode cX8_count 10 = .ok (.iload_n 2, 1) := by decide +kernel
theorem dX8_count_11 : decode cX8_count 11 = .ok (.iadd, 1) := by decide +kernel
theorem dX8_count_12 : decode cX8_count 12 = .ok (.dup2, 1) := by decide +kernel
theorem dX8_count_13 : decode cX8_count 13 = .ok (.iaload, 1) := by decide +kernel
theorem dX8_count_14 : decode cX8_count 14 = .ok (.iconst 1, 1) := by decide +kernel
theorem dX8_count_15 : decode cX8_count 15 = .ok (.iadd, 1) := by decide +kernel
theorem dX8_count_16 : decode cX8_count 16 = .ok (.iastore, 1) := by decide +kernel
theorem dX8_count_17 : decode cX8_count 17 = .ok (.return_, 1) := by decide +kernel
theorem dX8_reportOf_0 : decode cX8_reportOf 0 = .ok (.iconst 0, 1) := by decide +kernel
theorem dX8_reportOf_1 : decode cX8_reportOf 1 = .ok (.istore 4, 2) := by decide +kernel
theorem dX8_reportOf_3 : decode cX8_reportOf 3 = .ok (.iload 4, 2) := by decide +kernel
theorem dX8_reportOf_5 : decode cX8_reportOf 5 = .ok (.aload_n 0, 1) := by decide +kernel
theorem dX8_reportOf_6 : decode cX8_reportOf 6 = .ok (.iload_n 1, 1) := by decide +kernel
theorem dX8_reportOf_7 : decode cX8_reportOf 7 = .ok (.invokevirtual 92, 3) := by decide +kernel
theorem dX8_reportOf_10 : decode cX8_reportOf 10 = .ok (.if_icmp .ge 36, 3) := by decide +kernel
theorem dX8_reportOf_13 : decode cX8_reportOf 13 = .ok (.aload_n 0, 1) := by decide +kernel
theorem dX8_reportOf_14 : decode cX8_reportOf 14 = .ok (.iload_n 1, 1) := by decide +kernel
theorem dX8_reportOf_15 : decode cX8_reportOf 15 = .ok (.iload 4, 2) := by decide +kernel
theorem dX8_reportOf_17 : decode cX8_reportOf 17 = .ok (.iconst 0, 1) := by decide +kernel
theorem dX8_reportOf_18 : decode cX8_reportOf 18 = .ok (.invokevirtual 95, 3) := by decide +kernel
theorem dX8_reportOf_21 : decode cX8_reportOf 21 = .ok (.iload_n 2, 1) := by decide +kernel
theorem dX8_reportOf_22 : decode cX8_reportOf 22 = .ok (.if_icmp .ne 18, 3) := by decide +kernel
theorem dX8_reportOf_25 : decode cX8_reportOf 25 = .ok (.aload_n 0, 1) := by decide +kernel
theorem dX8_reportOf_26 : decode cX8_reportOf 26 = .ok (.iload_n 1, 1) := by decide +kernel
theorem dX8_reportOf_27 : decode cX8_reportOf 27 = .ok (.iload 4, 2) := by decide +kernel
theorem dX8_reportOf_29 : decode cX8_reportOf 29 = .ok (.iconst 3, 1) := by decide +kernel
theorem dX8_reportOf_30 : decode cX8_reportOf 30 = .ok (.invokevirtual 95, 3) := by decide +kernel
theorem dX8_reportOf_33 : decode cX8_reportOf 33 = .ok (.iload_n 3, 1) := by decide +kernel
theorem dX8_reportOf_34 : decode cX8_reportOf 34 = .ok (.if_icmp .ne 6, 3) := by decide +kernel
theorem dX8_reportOf_37 : decode cX8_reportOf 37 = .ok (.iload 4, 2) := by decide +kernel
theorem dX8_reportOf_39 : decode cX8_reportOf 39 = .ok (.ireturn, 1) := by decide +kernel
theorem dX8_reportOf_40 : decode cX8_reportOf 40 = .ok (.iinc 4 1, 3) := by decide +kernel
theorem dX8_reportOf_43 : decode cX8_reportOf 43 = .ok (.goto (-40), 3) := by decide +kernel
theorem dX8_reportOf_46 : decode cX8_reportOf 46 = .ok (.iconst (-1), 1) := by decide +kernel
theorem dX8_reportOf_47 : decode cX8_reportOf 47 = .ok (.ireturn, 1) := by decide +kernel
theorem dX8_ownOf_0 : decode cX8_ownOf 0 = .ok (.aload_n 0, 1) := by decide +kernel
theorem dX8_ownOf_1 : decode cX8_ownOf 1 = .ok (.iload_n 1, 1) := by decide +kernel
theorem dX8_ownOf_2 : decode cX8_ownOf 2 = .ok (.iload_n 1, 1) := by decide +kernel
theorem dX8_ownOf_3 : decode cX8_ownOf 3 = .ok (.iload_n 2, 1) := by decide +kernel
theorem dX8_ownOf_4 : decode cX8_ownOf 4 = .ok (.invokevirtual 99, 3) := by decide +kernel
theorem dX8_ownOf_7 : decode cX8_ownOf 7 = .ok (.ireturn, 1) := by decide +kernel
theorem dX8_isOwn_0 : decode cX8_isOwn 0 = .ok (.aload_n 0, 1) := by decide +kernel
theorem dX8_isOwn_1 : decode cX8_isOwn 1 = .ok (.iload_n 1, 1) := by decide +kernel
theorem dX8_isOwn_2 : decode cX8_isOwn 2 = .ok (.iload_n 2, 1) := by decide +kernel
theorem dX8_isOwn_3 : decode cX8_isOwn 3 = .ok (.iconst 0, 1) := by decide +kernel
theorem dX8_isOwn_4 : decode cX8_isOwn 4 = .ok (.invokevirtual 95, 3) := by decide +kernel
theorem dX8_isOwn_7 : decode cX8_isOwn 7 = .ok (.iload_n 1, 1) := by decide +kernel
theorem dX8_isOwn_8 : decode cX8_isOwn 8 = .ok (.if_icmp .ne 7, 3) := by decide +kernel
theorem dX8_isOwn_11 : decode cX8_isOwn 11 = .ok (.iconst 1, 1) := by decide +kernel
theorem dX8_isOwn_12 : decode cX8_isOwn 12 = .ok (.goto 4, 3) := by decide +kernel
theorem dX8_isOwn_15 : decode cX8_isOwn 15 = .ok (.iconst 0, 1) := by decide +kernel
theorem dX8_isOwn_16 : decode cX8_isOwn 16 = .ok (.ireturn, 1) := by decide +kernel
theorem dX8_dropReport_0 : decode cX8_dropReport 0 = .ok (.aload_n 0, 1) := by decide +kernel
theorem dX8_dropReport_1 : decode cX8_dropReport 1 = .ok (.getfield 24, 3) := by decide +kernel
theorem dX8_dropReport_4 : decode cX8_dropReport 4 = .ok (.iload_n 1, 1) := by decide +kernel
theorem dX8_dropReport_5 : decode cX8_dropReport 5 = .ok (.invokestatic 81, 3) := by decide +kernel
theorem dX8_dropReport_8 : decode cX8_dropReport 8 = .ok (.dup2, 1) := by decide +kernel
theorem dX8_dropReport_9 : decode cX8_dropReport 9 = .ok (.iaload, 1) := by decide +kernel
theorem dX8_dropReport_10 : decode cX8_dropReport 10 = .ok (.iconst 1, 1) := by decide +kernel
theorem dX8_dropReport_11 : decode cX8_dropReport 11 = .ok (.isub, 1) := by decide +kernel
theorem dX8_dropReport_12 : decode cX8_dropReport 12 = .ok (.iastore, 1) := by decide +kernel
theorem dX8_dropReport_13 : decode cX8_dropReport 13 = .ok (.iload_n 1, 1) := by decide +kernel
theorem dX8_dropReport_14 : decode cX8_dropReport 14 = .ok (.iload_n 2, 1) := by decide +kernel
theorem dX8_dropReport_15 : decode cX8_dropReport 15 = .ok (.invokestatic 85, 3) := by decide +kernel
theorem dX8_dropReport_18 : decode cX8_dropReport 18 = .ok (.istore_n 3, 1) := by decide +kernel
theorem dX8_dropReport_19 : decode cX8_dropReport 19 = .ok (.iload_n 3, 1) := by decide +kernel
theorem dX8_dropReport_20 : decode cX8_dropReport 20 = .ok (.iload_n 1, 1) := by decide +kernel
theorem dX8_dropReport_21 : decode cX8_dropReport 21 = .ok (.aload_n 0, 1) := by decide +kernel
theorem dX8_dropReport_22 : decode cX8_dropReport 22 = .ok (.iload_n 1, 1) := by decide +kernel
theorem dX8_dropReport_23 : decode cX8_dropReport 23 = .ok (.invokevirtual 92, 3) := by decide +kernel
theorem dX8_dropReport_26 : decode cX8_dropReport 26 = .ok (.invokestatic 85, 3) := by decide +kernel
theorem dX8_dropReport_29 : decode cX8_dropReport 29 = .ok (.if_icmp .ge 24, 3) := by decide +kernel
theorem dX8_dropReport_32 : decode cX8_dropReport 32 = .ok (.aload_n 0, 1) := by decide +kernel
theorem dX8_dropReport_33 : decode cX8_dropReport 33 = .ok (.getfield 24, 3) := by decide +kernel
theorem dX8_dropReport_36 : decode cX8_dropReport 36 = .ok (.iload_n 3, 1) := by decide +kernel
theorem dX8_dropReport_37 : decode cX8_dropReport 37 = .ok (.aload_n 0, 1) := by decide +kernel
theorem dX8_dropReport_38 : decode cX8_dropReport 38 = .ok (.getfield 24, 3) := by decide +kernel
theorem dX8_dropReport_41 : decode cX8_dropReport 41 = .ok (.iload_n 3, 1) := by decide +kernel
theorem dX8_dropReport_42 : decode cX8_dropReport 42 = .ok (.bipush 7, 2) := by decide +kernel
theorem dX8_dropReport_44 : decode cX8_dropReport 44 = .ok (.iadd, 1) := by decide +kernel
theorem dX8_dropReport_45 : decode cX8_dropReport 45 = .ok (.iaload, 1) := by decide +kernel
theorem dX8_dropReport_46 : decode cX8_dropReport 46 = .ok (.iastore, 1) := by decide +kernel
theorem dX8_dropReport_47 : decode cX8_dropReport 47 = .ok (.iinc 3 1, 3) := by decide +kernel
theorem dX8_dropReport_50 : decode cX8_dropReport 50 = .ok (.goto (-31), 3) := by decide +kernel
theorem dX8_dropReport_53 : decode cX8_dropReport 53 = .ok (.return_, 1) := by decide +kernel
theorem dX8_ageAt_0 : decode cX8_ageAt 0 = .ok (.aload_n 0, 1) := by decide +kernel
theorem dX8_ageAt_1 : decode cX8_ageAt 1 = .ok (.getfield 24, 3) := by decide +kernel
theorem dX8_ageAt_4 : decode cX8_ageAt 4 = .ok (.iconst 2, 1) := by decide +kernel
theorem dX8_ageAt_5 : decode cX8_ageAt 5 = .ok (.iaload, 1) := by decide +kernel
theorem dX8_ageAt_6 : decode cX8_ageAt 6 = .ok (.iload_n 1, 1) := by decide +kernel
theorem dX8_ageAt_7 : decode cX8_ageAt 7 = .ok (.isub, 1) := by decide +kernel
theorem dX8_ageAt_8 : decode cX8_ageAt 8 = .ok (.ireturn, 1) := by decide +kernel
theorem dX8_lower_0 : decode cX8_lower 0 = .ok (.iconst 0, 1) := by decide +kernel
theorem dX8_lower_1 : decode cX8_lower 1 = .ok (.iload_n 0, 1) := by decide +kernel
theorem dX8_lower_2 : decode cX8_lower 2 = .ok (.iload_n 1, 1) := by decide +kernel
theorem dX8_lower_3 : decode cX8_lower 3 = .ok (.isub, 1) := by decide +kernel
theorem dX8_lower_4 : decode cX8_lower 4 = .ok (.invokestatic 102, 3) := by decide +kernel
theorem dX8_lower_7 : decode cX8_lower 7 = .ok (.ireturn, 1) := by decide +kernel
theorem dX8_higher_0 : decode cX8_higher 0 = .ok (.sipush 999, 3) := by decide +kernel
theorem dX8_higher_3 : decode cX8_higher 3 = .ok (.iload_n 0, 1) := by decide +kernel
theorem dX8_higher_4 : decode cX8_higher 4 = .ok (.iload_n 1, 1) := by decide +kernel
theorem dX8_higher_5 : decode cX8_higher 5 = .ok (.iadd, 1) := by decide +kernel
theorem dX8_higher_6 : decode cX8_higher 6 = .ok (.invokestatic 107, 3) := by decide +kernel
theorem dX8_higher_9 : decode cX8_higher 9 = .ok (.ireturn, 1) := by decide +kernel
theorem dX8_driftOf_0 : decode cX8_driftOf 0 = .ok (.aload_n 0, 1) := by decide +kernel
theorem dX8_driftOf_1 : decode cX8_driftOf 1 = .ok (.iconst 0, 1) := by decide +kernel
theorem dX8_driftOf_2 : decode cX8_driftOf 2 = .ok (.invokevirtual 110, 3) := by decide +kernel
theorem dX8_driftOf_5 : decode cX8_driftOf 5 = .ok (.aload_n 0, 1) := by decide +kernel
theorem dX8_driftOf_6 : decode cX8_driftOf 6 = .ok (.aload_n 0, 1) := by decide +kernel
theorem dX8_driftOf_7 : decode cX8_driftOf 7 = .ok (.iload_n 1, 1) := by decide +kernel
theorem dX8_driftOf_8 : decode cX8_driftOf 8 = .ok (.iload_n 2, 1) := by decide +kernel
theorem dX8_driftOf_9 : decode cX8_driftOf 9 = .ok (.iconst 4, 1) := by decide +kernel
theorem dX8_driftOf_10 : decode cX8_driftOf 10 = .ok (.invokevirtual 95, 3) := by decide +kernel
theorem dX8_driftOf_13 : decode cX8_driftOf 13 = .ok (.invokevirtual 113, 3) := by decide +kernel
theorem dX8_driftOf_16 : decode cX8_driftOf 16 = .ok (.imul, 1) := by decide +kernel
theorem dX8_driftOf_17 : decode cX8_driftOf 17 = .ok (.ireturn, 1) := by decide +kernel
theorem dX8_lowBy_0 : decode cX8_lowBy 0 = .ok (.aload_n 0, 1) := by decide +kernel
theorem dX8_lowBy_1 : decode cX8_lowBy 1 = .ok (.iload_n 1, 1) := by decide +kernel
theorem dX8_lowBy_2 : decode cX8_lowBy 2 = .ok (.iload_n 2, 1) := by decide +kernel
theorem dX8_lowBy_3 : decode cX8_lowBy 3 = .ok (.iconst 5, 1) := by decide +kernel
theorem dX8_lowBy_4 : decode cX8_lowBy 4 = .ok (.invokevirtual 95, 3) := by decide +kernel
theorem dX8_lowBy_7 : decode cX8_lowBy 7 = .ok (.iload_n 3, 1) := by decide +kernel
theorem dX8_lowBy_8 : decode cX8_lowBy 8 = .ok (.invokestatic 116, 3) := by decide +kernel
theorem dX8_lowBy_11 : decode cX8_lowBy 11 = .ok (.ireturn, 1) := by decide +kernel
theorem dX8_topBy_0 : decode cX8_topBy 0 = .ok (.aload_n 0, 1) := by decide +kernel
theorem dX8_topBy_1 : decode cX8_topBy 1 = .ok (.iload_n 1, 1) := by decide +kernel
theorem dX8_topBy_2 : decode cX8_topBy 2 = .ok (.iload_n 2, 1) := by decide +kernel
theorem dX8_topBy_3 : decode cX8_topBy 3 = .ok (.bipush 6, 2) := by decide +kernel
theorem dX8_topBy_5 : decode cX8_topBy 5 = .ok (.invokevirtual 95, 3) := by decide +kernel
theorem dX8_topBy_8 : decode cX8_topBy 8 = .ok (.iload_n 3, 1) := by decide +kernel
theorem dX8_topBy_9 : decode cX8_topBy 9 = .ok (.invokestatic 119, 3) := by decide +kernel
theorem dX8_topBy_12 : decode cX8_topBy 12 = .ok (.ireturn, 1) := by decide +kernel
theorem dX8_doMeet_0 : decode cX8_doMeet 0 = .ok (.aload_n 0, 1) := by decide +kernel
theorem dX8_doMeet_1 : decode cX8_doMeet 1 = .ok (.iload_n 1, 1) := by decide +kernel
theorem dX8_doMeet_2 : decode cX8_doMeet 2 = .ok (.iload_n 2, 1) := by decide +kernel
theorem dX8_doMeet_3 : decode cX8_doMeet 3 = .ok (.aload_n 0, 1) := by decide +kernel
theorem dX8_doMeet_4 : decode cX8_doMeet 4 = .ok (.iload_n 1, 1) := by decide +kernel
theorem dX8_doMeet_5 : decode cX8_doMeet 5 = .ok (.iload_n 2, 1) := by decide +kernel
theorem dX8_doMeet_6 : decode cX8_doMeet 6 = .ok (.invokevirtual 122, 3) := by decide +kernel
theorem dX8_doMeet_9 : decode cX8_doMeet 9 = .ok (.invokevirtual 125, 3) := by decide +kernel
theorem dX8_doMeet_12 : decode cX8_doMeet 12 = .ok (.aload_n 0, 1) := by decide +kernel
theorem dX8_doMeet_13 : decode cX8_doMeet 13 = .ok (.iload_n 1, 1) := by decide +kernel
theorem dX8_doMeet_14 : decode cX8_doMeet 14 = .ok (.iload_n 3, 1) := by decide +kernel
theorem dX8_doMeet_15 : decode cX8_doMeet 15 = .ok (.aload_n 0, 1) := by decide +kernel
theorem dX8_doMeet_16 : decode cX8_doMeet 16 = .ok (.iload_n 1, 1) := by decide +kernel
theorem dX8_doMeet_17 : decode cX8_doMeet 17 = .ok (.iload_n 3, 1) := by decide +kernel
theorem dX8_doMeet_18 : decode cX8_doMeet 18 = .ok (.invokevirtual 122, 3) := by decide +kernel
theorem dX8_doMeet_21 : decode cX8_doMeet 21 = .ok (.invokevirtual 125, 3) := by decide +kernel
theorem dX8_doMeet_24 : decode cX8_doMeet 24 = .ok (.invokestatic 102, 3) := by decide +kernel
theorem dX8_doMeet_27 : decode cX8_doMeet 27 = .ok (.istore 4, 2) := by decide +kernel
theorem dX8_doMeet_29 : decode cX8_doMeet 29 = .ok (.iload 4, 2) := by decide +kernel
theorem dX8_doMeet_31 : decode cX8_doMeet 31 = .ok (.aload_n 0, 1) := by decide +kernel
theorem dX8_doMeet_32 : decode cX8_doMeet 32 = .ok (.iload_n 1, 1) := by decide +kernel
theorem dX8_doMeet_33 : decode cX8_doMeet 33 = .ok (.iload_n 2, 1) := by decide +kernel
theorem dX8_doMeet_34 : decode cX8_doMeet 34 = .ok (.aload_n 0, 1) := by decide +kernel
theorem dX8_doMeet_35 : decode cX8_doMeet 35 = .ok (.iload_n 1, 1) := by decide +kernel
theorem dX8_doMeet_36 : decode cX8_doMeet 36 = .ok (.iload_n 2, 1) := by decide +kernel
theorem dX8_doMeet_37 : decode cX8_doMeet 37 = .ok (.invokevirtual 122, 3) := by decide +kernel
theorem dX8_doMeet_40 : decode cX8_doMeet 40 = .ok (.invokevirtual 128, 3) := by decide +kernel
theorem dX8_doMeet_43 : decode cX8_doMeet 43 = .ok (.aload_n 0, 1) := by decide +kernel
theorem dX8_doMeet_44 : decode cX8_doMeet 44 = .ok (.iload_n 1, 1) := by decide +kernel
theorem dX8_doMeet_45 : decode cX8_doMeet 45 = .ok (.iload_n 3, 1) := by decide +kernel
theorem dX8_doMeet_46 : decode cX8_doMeet 46 = .ok (.aload_n 0, 1) := by decide +kernel
theorem dX8_doMeet_47 : decode cX8_doMeet 47 = .ok (.iload_n 1, 1) := by decide +kernel
theorem dX8_doMeet_48 : decode cX8_doMeet 48 = .ok (.iload_n 3, 1) := by decide +kernel
theorem dX8_doMeet_49 : decode cX8_doMeet 49 = .ok (.invokevirtual 122, 3) := by decide +kernel
theorem dX8_doMeet_52 : decode cX8_doMeet 52 = .ok (.invokevirtual 128, 3) := by decide +kernel
theorem dX8_doMeet_55 : decode cX8_doMeet 55 = .ok (.invokestatic 107, 3) := by decide +kernel
theorem dX8_doMeet_58 : decode cX8_doMeet 58 = .ok (.if_icmp .gt 7, 3) := by decide +kernel
theorem dX8_doMeet_61 : decode cX8_doMeet 61 = .ok (.iconst 1, 1) := by decide +kernel
theorem dX8_doMeet_62 : decode cX8_doMeet 62 = .ok (.goto 4, 3) := by decide +kernel
theorem dX8_doMeet_65 : decode cX8_doMeet 65 = .ok (.iconst 0, 1) := by decide +kernel
theorem dX8_doMeet_66 : decode cX8_doMeet 66 = .ok (.ireturn, 1) := by decide +kernel
theorem dX8_judges_0 : decode cX8_judges 0 = .ok (.aload_n 0, 1) := by decide +kernel
theorem dX8_judges_1 : decode cX8_judges 1 = .ok (.iload_n 1, 1) := by decide +kernel
theorem dX8_judges_2 : decode cX8_judges 2 = .ok (.iload_n 2, 1) := by decide +kernel
theorem dX8_judges_3 : decode cX8_judges 3 = .ok (.iconst 1, 1) := by decide +kernel
theorem dX8_judges_4 : decode cX8_judges 4 = .ok (.invokevirtual 95, 3) := by decide +kernel
theorem dX8_judges_7 : decode cX8_judges 7 = .ok (.istore 4, 2) := by decide +kernel
theorem dX8_judges_9 : decode cX8_judges 9 = .ok (.aload_n 0, 1) := by decide +kernel
theorem dX8_judges_10 : decode cX8_judges 10 = .ok (.iload_n 1, 1) := by decide +kernel
theorem dX8_judges_11 : decode cX8_judges 11 = .ok (.iload 4, 2) := by decide +kernel
theorem dX8_judges_13 : decode cX8_judges 13 = .ok (.invokevirtual 131, 3) := by decide +kernel
theorem dX8_judges_16 : decode cX8_judges 16 = .ok (.ifCond .ne 5, 3) := by decide +kernel
theorem dX8_judges_19 : decode cX8_judges 19 = .ok (.iconst 0, 1) := by decide +kernel
theorem dX8_judges_20 : decode cX8_judges 20 = .ok (.ireturn, 1) := by decide +kernel
theorem dX8_judges_21 : decode cX8_judges 21 = .ok (.aload_n 0, 1) := by decide +kernel
theorem dX8_judges_22 : decode cX8_judges 22 = .ok (.iload_n 1, 1) := by decide +kernel
theorem dX8_judges_23 : decode cX8_judges 23 = .ok (.iload_n 2, 1) := by decide +kernel
theorem dX8_judges_24 : decode cX8_judges 24 = .ok (.iload_n 3, 1) := by decide +kernel
theorem dX8_judges_25 : decode cX8_judges 25 = .ok (.invokevirtual 135, 3) := by decide +kernel
theorem dX8_judges_28 : decode cX8_judges 28 = .ok (.istore 5, 2) := by decide +kernel
theorem dX8_judges_30 : decode cX8_judges 30 = .ok (.aload_n 0, 1) := by decide +kernel
theorem dX8_judges_31 : decode cX8_judges 31 = .ok (.iload_n 1, 1) := by decide +kernel
theorem dX8_judges_32 : decode cX8_judges 32 = .ok (.iload 4, 2) := by decide +kernel
theorem dX8_judges_34 : decode cX8_judges 34 = .ok (.iload 5, 2) := by decide +kernel
theorem dX8_judges_36 : decode cX8_judges 36 = .ok (.ifCond .eq 20, 3) := by decide +kernel
theorem dX8_judges_39 : decode cX8_judges 39 = .ok (.bipush 10, 2) := by decide +kernel
theorem dX8_judges_41 : decode cX8_judges 41 = .ok (.aload_n 0, 1) := by decide +kernel
theorem dX8_judges_42 : decode cX8_judges 42 = .ok (.iload_n 1, 1) := by decide +kernel
theorem dX8_judges_43 : decode cX8_judges 43 = .ok (.iload 4, 2) := by decide +kernel
theorem dX8_judges_45 : decode cX8_judges 45 = .ok (.invokevirtual 77, 3) := by decide +kernel
theorem dX8_judges_48 : decode cX8_judges 48 = .ok (.iconst 1, 1) := by decide +kernel
theorem dX8_judges_49 : decode cX8_judges 49 = .ok (.iadd, 1) := by decide +kernel
theorem dX8_judges_50 : decode cX8_judges 50 = .ok (.invokestatic 107, 3) := by decide +kernel
theorem dX8_judges_53 : decode cX8_judges 53 = .ok (.goto 16, 3) := by decide +kernel
theorem dX8_judges_56 : decode cX8_judges 56 = .ok (.iconst 0, 1) := by decide +kernel
theorem dX8_judges_57 : decode cX8_judges 57 = .ok (.aload_n 0, 1) := by decide +kernel
theorem dX8_judges_58 : decode cX8_judges 58 = .ok (.iload_n 1, 1) := by decide +kernel
theorem dX8_judges_59 : decode cX8_judges 59 = .ok (.iload 4, 2) := by decide +kernel
theorem dX8_judges_61 : decode cX8_judges 61 = .ok (.invokevirtual 77, 3) := by decide +kernel
theorem dX8_judges_64 : decode cX8_judges 64 = .ok (.iconst 2, 1) := by decide +kernel
theorem dX8_judges_65 : decode cX8_judges 65 = .ok (.isub, 1) := by decide +kernel
theorem dX8_judges_66 : decode cX8_judges 66 = .ok (.invokestatic 102, 3) := by decide +kernel
theorem dX8_judges_69 : decode cX8_judges 69 = .ok (.invokevirtual 139, 3) := by decide +kernel
theorem dX8_judges_72 : decode cX8_judges 72 = .ok (.aload_n 0, 1) := by decide +kernel
theorem dX8_judges_73 : decode cX8_judges 73 = .ok (.iload_n 1, 1) := by decide +kernel
theorem dX8_judges_74 : decode cX8_judges 74 = .ok (.iload 5, 2) := by decide +kernel
theorem dX8_judges_76 : decode cX8_judges 76 = .ok (.ifCond .eq 7, 3) := by decide +kernel
theorem dX8_judges_79 : decode cX8_judges 79 = .ok (.iconst 3, 1) := by decide +kernel
theorem dX8_judges_80 : decode cX8_judges 80 = .ok (.goto 4, 3) := by decide +kernel
theorem dX8_judges_83 : decode cX8_judges 83 = .ok (.iconst 4, 1) := by decide +kernel
theorem dX8_judges_84 : decode cX8_judges 84 = .ok (.invokevirtual 143, 3) := by decide +kernel
theorem dX8_judges_87 : decode cX8_judges 87 = .ok (.iload 5, 2) := by decide +kernel
theorem dX8_judges_89 : decode cX8_judges 89 = .ok (.ifCond .ne 7, 3) := by decide +kernel
theorem dX8_judges_92 : decode cX8_judges 92 = .ok (.iconst 1, 1) := by decide +kernel
theorem dX8_judges_93 : decode cX8_judges 93 = .ok (.goto 4, 3) := by decide +kernel
theorem dX8_judges_96 : decode cX8_judges 96 = .ok (.iconst 0, 1) := by decide +kernel
theorem dX8_judges_97 : decode cX8_judges 97 = .ok (.ireturn, 1) := by decide +kernel
theorem dX8_comes_0 : decode cX8_comes 0 = .ok (.aload_n 0, 1) := by decide +kernel
theorem dX8_comes_1 : decode cX8_comes 1 = .ok (.iload_n 1, 1) := by decide +kernel
theorem dX8_comes_2 : decode cX8_comes 2 = .ok (.iload_n 2, 1) := by decide +kernel
theorem dX8_comes_3 : decode cX8_comes 3 = .ok (.iload 5, 2) := by decide +kernel
theorem dX8_comes_5 : decode cX8_comes 5 = .ok (.invokevirtual 99, 3) := by decide +kernel
theorem dX8_comes_8 : decode cX8_comes 8 = .ok (.istore 8, 2) := by decide +kernel
theorem dX8_comes_10 : decode cX8_comes 10 = .ok (.iload 8, 2) := by decide +kernel
theorem dX8_comes_12 : decode cX8_comes 12 = .ok (.iconst (-1), 1) := by decide +kernel
theorem dX8_comes_13 : decode cX8_comes 13 = .ok (.if_icmp .eq 10, 3) := by decide +kernel
theorem dX8_comes_16 : decode cX8_comes 16 = .ok (.aload_n 0, 1) := by decide +kernel
theorem dX8_comes_17 : decode cX8_comes 17 = .ok (.iload_n 1, 1) := by decide +kernel
theorem dX8_comes_18 : decode cX8_comes 18 = .ok (.iload 8, 2) := by decide +kernel
theorem dX8_comes_20 : decode cX8_comes 20 = .ok (.invokevirtual 147, 3) := by decide +kernel
theorem dX8_comes_23 : decode cX8_comes 23 = .ok (.aload_n 0, 1) := by decide +kernel
theorem dX8_comes_24 : decode cX8_comes 24 = .ok (.iload_n 1, 1) := by decide +kernel
theorem dX8_comes_25 : decode cX8_comes 25 = .ok (.invokevirtual 92, 3) := by decide +kernel
theorem dX8_comes_28 : decode cX8_comes 28 = .ok (.istore 9, 2) := by decide +kernel
theorem dX8_comes_30 : decode cX8_comes 30 = .ok (.iload_n 1, 1) := by decide +kernel
theorem dX8_comes_31 : decode cX8_comes 31 = .ok (.iload 9, 2) := by decide +kernel
theorem dX8_comes_33 : decode cX8_comes 33 = .ok (.invokestatic 85, 3) := by decide +kernel
theorem dX8_comes_36 : decode cX8_comes 36 = .ok (.istore 10, 2) := by decide +kernel
theorem dX8_comes_38 : decode cX8_comes 38 = .ok (.aload_n 0, 1) := by decide +kernel
theorem dX8_comes_39 : decode cX8_comes 39 = .ok (.getfield 24, 3) := by decide +kernel
theorem dX8_comes_42 : decode cX8_comes 42 = .ok (.iload_n 1, 1) := by decide +kernel
theorem dX8_comes_43 : decode cX8_comes 43 = .ok (.invokestatic 81, 3) := by decide +kernel
theorem dX8_comes_46 : decode cX8_comes 46 = .ok (.dup2, 1) := by decide +kernel
theorem dX8_comes_47 : decode cX8_comes 47 = .ok (.iaload, 1) := by decide +kernel
theorem dX8_comes_48 : decode cX8_comes 48 = .ok (.iconst 1, 1) := by decide +kernel
theorem dX8_comes_49 : decode cX8_comes 49 = .ok (.iadd, 1) := by decide +kernel
theorem dX8_comes_50 : decode cX8_comes 50 = .ok (.iastore, 1) := by decide +kernel
theorem dX8_comes_51 : decode cX8_comes 51 = .ok (.aload_n 0, 1) := by decide +kernel
theorem dX8_comes_52 : decode cX8_comes 52 = .ok (.getfield 24, 3) := by decide +kernel
theorem dX8_comes_55 : decode cX8_comes 55 = .ok (.iload 10, 2) := by decide +kernel
theorem dX8_comes_57 : decode cX8_comes 57 = .ok (.iconst 0, 1) := by decide +kernel
theorem dX8_comes_58 : decode cX8_comes 58 = .ok (.iadd, 1) := by decide +kernel
theorem dX8_comes_59 : decode cX8_comes 59 = .ok (.iload_n 2, 1) := by decide +kernel
theorem dX8_comes_60 : decode cX8_comes 60 = .ok (.iastore, 1) := by decide +kernel
theorem dX8_comes_61 : decode cX8_comes 61 = .ok (.aload_n 0, 1) := by decide +kernel
theorem dX8_comes_62 : decode cX8_comes 62 = .ok (.getfield 24, 3) := by decide +kernel
theorem dX8_comes_65 : decode cX8_comes 65 = .ok (.iload 10, 2) := by decide +kernel
theorem dX8_comes_67 : decode cX8_comes 67 = .ok (.iconst 1, 1) := by decide +kernel
theorem dX8_comes_68 : decode cX8_comes 68 = .ok (.iadd, 1) := by decide +kernel
theorem dX8_comes_69 : decode cX8_comes 69 = .ok (.iload_n 3, 1) := by decide +kernel
theorem dX8_comes_70 : decode cX8_comes 70 = .ok (.iastore, 1) := by decide +kernel
theorem dX8_comes_71 : decode cX8_comes 71 = .ok (.aload_n 0, 1) := by decide +kernel
theorem dX8_comes_72 : decode cX8_comes 72 = .ok (.getfield 24, 3) := by decide +kernel
theorem dX8_comes_75 : decode cX8_comes 75 = .ok (.iload 10, 2) := by decide +kernel
theorem dX8_comes_77 : decode cX8_comes 77 = .ok (.iconst 2, 1) := by decide +kernel
theorem dX8_comes_78 : decode cX8_comes 78 = .ok (.iadd, 1) := by decide +kernel
theorem dX8_comes_79 : decode cX8_comes 79 = .ok (.iload 4, 2) := by decide +kernel
theorem dX8_comes_81 : decode cX8_comes 81 = .ok (.iastore, 1) := by decide +kernel
theorem dX8_comes_82 : decode cX8_comes 82 = .ok (.aload_n 0, 1) := by decide +kernel
theorem dX8_comes_83 : decode cX8_comes 83 = .ok (.getfield 24, 3) := by decide +kernel
theorem dX8_comes_86 : decode cX8_comes 86 = .ok (.iload 10, 2) := by decide +kernel
theorem dX8_comes_88 : decode cX8_comes 88 = .ok (.iconst 3, 1) := by decide +kernel
theorem dX8_comes_89 : decode cX8_comes 89 = .ok (.iadd, 1) := by decide +kernel
theorem dX8_comes_90 : decode cX8_comes 90 = .ok (.iload 5, 2) := by decide +kernel
theorem dX8_comes_92 : decode cX8_comes 92 = .ok (.iastore, 1) := by decide +kernel
theorem dX8_comes_93 : decode cX8_comes 93 = .ok (.aload_n 0, 1) := by decide +kernel
theorem dX8_comes_94 : decode cX8_comes 94 = .ok (.getfield 24, 3) := by decide +kernel
theorem dX8_comes_97 : decode cX8_comes 97 = .ok (.iload 10, 2) := by decide +kernel
theorem dX8_comes_99 : decode cX8_comes 99 = .ok (.iconst 4, 1) := by decide +kernel
theorem dX8_comes_100 : decode cX8_comes 100 = .ok (.iadd, 1) := by decide +kernel
theorem dX8_comes_101 : decode cX8_comes 101 = .ok (.iload 6, 2) := by decide +kernel
theorem dX8_comes_103 : decode cX8_comes 103 = .ok (.iastore, 1) := by decide +kernel
theorem dX8_comes_104 : decode cX8_comes 104 = .ok (.aload_n 0, 1) := by decide +kernel
theorem dX8_comes_105 : decode cX8_comes 105 = .ok (.getfield 24, 3) := by decide +kernel
theorem dX8_comes_108 : decode cX8_comes 108 = .ok (.iload 10, 2) := by decide +kernel
theorem dX8_comes_110 : decode cX8_comes 110 = .ok (.iconst 5, 1) := by decide +kernel
theorem dX8_comes_111 : decode cX8_comes 111 = .ok (.iadd, 1) := by decide +kernel
theorem dX8_comes_112 : decode cX8_comes 112 = .ok (.iload 7, 2) := by decide +kernel
theorem dX8_comes_114 : decode cX8_comes 114 = .ok (.sipush 1000, 3) := by decide +kernel
theorem dX8_comes_117 : decode cX8_comes 117 = .ok (.idiv, 1) := by decide +kernel
theorem dX8_comes_118 : decode cX8_comes 118 = .ok (.iastore, 1) := by decide +kernel
theorem dX8_comes_119 : decode cX8_comes 119 = .ok (.aload_n 0, 1) := by decide +kernel
theorem dX8_comes_120 : decode cX8_comes 120 = .ok (.getfield 24, 3) := by decide +kernel
theorem dX8_comes_123 : decode cX8_comes 123 = .ok (.iload 10, 2) := by decide +kernel
theorem dX8_comes_125 : decode cX8_comes 125 = .ok (.bipush 6, 2) := by decide +kernel
theorem dX8_comes_127 : decode cX8_comes 127 = .ok (.iadd, 1) := by decide +kernel
theorem dX8_comes_128 : decode cX8_comes 128 = .ok (.iload 7, 2) := by decide +kernel
theorem dX8_comes_130 : decode cX8_comes 130 = .ok (.sipush 1000, 3) := by decide +kernel
theorem dX8_comes_133 : decode cX8_comes 133 = .ok (.irem, 1) := by decide +kernel
theorem dX8_comes_134 : decode cX8_comes 134 = .ok (.iastore, 1) := by decide +kernel
theorem dX8_comes_135 : decode cX8_comes 135 = .ok (.iload 9, 2) := by decide +kernel
theorem dX8_comes_137 : decode cX8_comes 137 = .ok (.ireturn, 1) := by decide +kernel
theorem dX8_doProbe_0 : decode cX8_doProbe 0 = .ok (.aload_n 0, 1) := by decide +kernel
theorem dX8_doProbe_1 : decode cX8_doProbe 1 = .ok (.iload_n 1, 1) := by decide +kernel
theorem dX8_doProbe_2 : decode cX8_doProbe 2 = .ok (.iload_n 1, 1) := by decide +kernel
theorem dX8_doProbe_3 : decode cX8_doProbe 3 = .ok (.iload_n 1, 1) := by decide +kernel
theorem dX8_doProbe_4 : decode cX8_doProbe 4 = .ok (.iconst 0, 1) := by decide +kernel
theorem dX8_doProbe_5 : decode cX8_doProbe 5 = .ok (.iload_n 2, 1) := by decide +kernel
theorem dX8_doProbe_6 : decode cX8_doProbe 6 = .ok (.aload_n 0, 1) := by decide +kernel
theorem dX8_doProbe_7 : decode cX8_doProbe 7 = .ok (.getfield 24, 3) := by decide +kernel
theorem dX8_doProbe_10 : decode cX8_doProbe 10 = .ok (.iconst 2, 1) := by decide +kernel
theorem dX8_doProbe_11 : decode cX8_doProbe 11 = .ok (.iaload, 1) := by decide +kernel
theorem dX8_doProbe_12 : decode cX8_doProbe 12 = .ok (.sipush 1000, 3) := by decide +kernel
theorem dX8_doProbe_15 : decode cX8_doProbe 15 = .ok (.iload_n 3, 1) := by decide +kernel
theorem dX8_doProbe_16 : decode cX8_doProbe 16 = .ok (.imul, 1) := by decide +kernel
theorem dX8_doProbe_17 : decode cX8_doProbe 17 = .ok (.iload 4, 2) := by decide +kernel
theorem dX8_doProbe_19 : decode cX8_doProbe 19 = .ok (.iadd, 1) := by decide +kernel
theorem dX8_doProbe_20 : decode cX8_doProbe 20 = .ok (.invokevirtual 150, 3) := by decide +kernel
theorem dX8_doProbe_23 : decode cX8_doProbe 23 = .ok (.istore 5, 2) := by decide +kernel
theorem dX8_doProbe_25 : decode cX8_doProbe 25 = .ok (.aload_n 0, 1) := by decide +kernel
theorem dX8_doProbe_26 : decode cX8_doProbe 26 = .ok (.iload_n 1, 1) := by decide +kernel
theorem dX8_doProbe_27 : decode cX8_doProbe 27 = .ok (.iconst 0, 1) := by decide +kernel
theorem dX8_doProbe_28 : decode cX8_doProbe 28 = .ok (.invokevirtual 143, 3) := by decide +kernel
theorem dX8_doProbe_31 : decode cX8_doProbe 31 = .ok (.iconst 0, 1) := by decide +kernel
theorem dX8_doProbe_32 : decode cX8_doProbe 32 = .ok (.istore 6, 2) := by decide +kernel
theorem dX8_doProbe_34 : decode cX8_doProbe 34 = .ok (.iconst 0, 1) := by decide +kernel
theorem dX8_doProbe_35 : decode cX8_doProbe 35 = .ok (.istore 7, 2) := by decide +kernel
theorem dX8_doProbe_37 : decode cX8_doProbe 37 = .ok (.iload 7, 2) := by decide +kernel
theorem dX8_doProbe_39 : decode cX8_doProbe 39 = .ok (.iload 5, 2) := by decide +kernel
theorem dX8_doProbe_41 : decode cX8_doProbe 41 = .ok (.if_icmp .ge 43, 3) := by decide +kernel
theorem dX8_doProbe_44 : decode cX8_doProbe 44 = .ok (.aload_n 0, 1) := by decide +kernel
theorem dX8_doProbe_45 : decode cX8_doProbe 45 = .ok (.iload_n 1, 1) := by decide +kernel
theorem dX8_doProbe_46 : decode cX8_doProbe 46 = .ok (.iload 7, 2) := by decide +kernel
theorem dX8_doProbe_48 : decode cX8_doProbe 48 = .ok (.iconst 3, 1) := by decide +kernel
theorem dX8_doProbe_49 : decode cX8_doProbe 49 = .ok (.invokevirtual 95, 3) := by decide +kernel
theorem dX8_doProbe_52 : decode cX8_doProbe 52 = .ok (.iload_n 2, 1) := by decide +kernel
theorem dX8_doProbe_53 : decode cX8_doProbe 53 = .ok (.if_icmp .ne 25, 3) := by decide +kernel
theorem dX8_doProbe_56 : decode cX8_doProbe 56 = .ok (.iload 6, 2) := by decide +kernel
theorem dX8_doProbe_58 : decode cX8_doProbe 58 = .ok (.aload_n 0, 1) := by decide +kernel
theorem dX8_doProbe_59 : decode cX8_doProbe 59 = .ok (.iload_n 1, 1) := by decide +kernel
theorem dX8_doProbe_60 : decode cX8_doProbe 60 = .ok (.iload 7, 2) := by decide +kernel
theorem dX8_doProbe_62 : decode cX8_doProbe 62 = .ok (.iload 5, 2) := by decide +kernel
theorem dX8_doProbe_64 : decode cX8_doProbe 64 = .ok (.invokevirtual 154, 3) := by decide +kernel
theorem dX8_doProbe_67 : decode cX8_doProbe 67 = .ok (.ifCond .eq 7, 3) := by decide +kernel
theorem dX8_doProbe_70 : decode cX8_doProbe 70 = .ok (.iconst 1, 1) := by decide +kernel
theorem dX8_doProbe_71 : decode cX8_doProbe 71 = .ok (.goto 4, 3) := by decide +kernel
theorem dX8_doProbe_74 : decode cX8_doProbe 74 = .ok (.iconst 0, 1) := by decide +kernel
theorem dX8_doProbe_75 : decode cX8_doProbe 75 = .ok (.iadd, 1) := by decide +kernel
theorem dX8_doProbe_76 : decode cX8_doProbe 76 = .ok (.istore 6, 2) := by decide +kernel
theorem dX8_doProbe_78 : decode cX8_doProbe 78 = .ok (.iinc 7 1, 3) := by decide +kernel
theorem dX8_doProbe_81 : decode cX8_doProbe 81 = .ok (.goto (-44), 3) := by decide +kernel
theorem dX8_doProbe_84 : decode cX8_doProbe 84 = .ok (.iload 6, 2) := by decide +kernel
theorem dX8_doProbe_86 : decode cX8_doProbe 86 = .ok (.ireturn, 1) := by decide +kernel
theorem dX8_queued_0 : decode cX8_queued 0 = .ok (.aload_n 0, 1) := by decide +kernel
theorem dX8_queued_1 : decode cX8_queued 1 = .ok (.getfield 24, 3) := by decide +kernel
theorem dX8_queued_4 : decode cX8_queued 4 = .ok (.bipush 8, 2) := by decide +kernel
theorem dX8_queued_6 : decode cX8_queued 6 = .ok (.iaload, 1) := by decide +kernel
theorem dX8_queued_7 : decode cX8_queued 7 = .ok (.ireturn, 1) := by decide +kernel
theorem dX8_messageAt_0 : decode cX8_messageAt 0 = .ok (.sipush 1605, 3) := by decide +kernel
theorem dX8_messageAt_3 : decode cX8_messageAt 3 = .ok (.bipush 8, 2) := by decide +kernel
theorem dX8_messageAt_5 : decode cX8_messageAt 5 = .ok (.iload_n 0, 1) := by decide +kernel
theorem dX8_messageAt_6 : decode cX8_messageAt 6 = .ok (.imul, 1) := by decide +kernel
theorem dX8_messageAt_7 : decode cX8_messageAt 7 = .ok (.iadd, 1) := by decide +kernel
theorem dX8_messageAt_8 : decode cX8_messageAt 8 = .ok (.ireturn, 1) := by decide +kernel
theorem dX8_ofMessage_0 : decode cX8_ofMessage 0 = .ok (.aload_n 0, 1) := by decide +kernel
theorem dX8_ofMessage_1 : decode cX8_ofMessage 1 = .ok (.getfield 24, 3) := by decide +kernel
theorem dX8_ofMessage_4 : decode cX8_ofMessage 4 = .ok (.iload_n 1, 1) := by decide +kernel
theorem dX8_ofMessage_5 : decode cX8_ofMessage 5 = .ok (.invokestatic 157, 3) := by decide +kernel
theorem dX8_ofMessage_8 : decode cX8_ofMessage 8 = .ok (.iload_n 2, 1) := by decide +kernel
theorem dX8_ofMessage_9 : decode cX8_ofMessage 9 = .ok (.iadd, 1) := by decide +kernel
theorem dX8_ofMessage_10 : decode cX8_ofMessage 10 = .ok (.iaload, 1) := by decide +kernel
theorem dX8_ofMessage_11 : decode cX8_ofMessage 11 = .ok (.ireturn, 1) := by decide +kernel
theorem dX8_isMessage_0 : decode cX8_isMessage 0 = .ok (.iload_n 1, 1) := by decide +kernel
theorem dX8_isMessage_1 : decode cX8_isMessage 1 = .ok (.i2l, 1) := by decide +kernel
theorem dX8_isMessage_2 : decode cX8_isMessage 2 = .ok (.lconst 0, 1) := by decide +kernel
theorem dX8_isMessage_3 : decode cX8_isMessage 3 = .ok (.aload_n 0, 1) := by decide +kernel
theorem dX8_isMessage_4 : decode cX8_isMessage 4 = .ok (.invokevirtual 160, 3) := by decide +kernel
theorem dX8_isMessage_7 : decode cX8_isMessage 7 = .ok (.iconst 1, 1) := by decide +kernel
theorem dX8_isMessage_8 : decode cX8_isMessage 8 = .ok (.isub, 1) := by decide +kernel
theorem dX8_isMessage_9 : decode cX8_isMessage 9 = .ok (.i2l, 1) := by decide +kernel
theorem dX8_isMessage_10 : decode cX8_isMessage 10 = .ok (.invokestatic 70, 3) := by decide +kernel
theorem dX8_isMessage_13 : decode cX8_isMessage 13 = .ok (.ireturn, 1) := by decide +kernel
theorem dX8_sends_0 : decode cX8_sends 0 = .ok (.aload_n 0, 1) := by decide +kernel
theorem dX8_sends_1 : decode cX8_sends 1 = .ok (.invokevirtual 160, 3) := by decide +kernel
theorem dX8_sends_4 : decode cX8_sends 4 = .ok (.bipush 100, 2) := by decide +kernel
theorem dX8_sends_6 : decode cX8_sends 6 = .ok (.if_icmp .ne 5, 3) := by decide +kernel
theorem dX8_sends_9 : decode cX8_sends 9 = .ok (.iconst 0, 1) := by decide +kernel
theorem dX8_sends_10 : decode cX8_sends 10 = .ok (.ireturn, 1) := by decide +kernel
theorem dX8_sends_11 : decode cX8_sends 11 = .ok (.aload_n 0, 1) := by decide +kernel
theorem dX8_sends_12 : decode cX8_sends 12 = .ok (.invokevirtual 160, 3) := by decide +kernel
theorem dX8_sends_15 : decode cX8_sends 15 = .ok (.invokestatic 157, 3) := by decide +kernel
theorem dX8_sends_18 : decode cX8_sends 18 = .ok (.istore 4, 2) := by decide +kernel
theorem dX8_sends_20 : decode cX8_sends 20 = .ok (.iconst 0, 1) := by decide +kernel
theorem dX8_sends_21 : decode cX8_sends 21 = .ok (.istore 5, 2) := by decide +kernel
theorem dX8_sends_23 : decode cX8_sends 23 = .ok (.iload 5, 2) := by decide +kernel
theorem dX8_sends_25 : decode cX8_sends 25 = .ok (.bipush 7, 2) := by decide +kernel
theorem dX8_sends_27 : decode cX8_sends 27 = .ok (.if_icmp .ge 27, 3) := by decide +kernel
theorem dX8_sends_30 : decode cX8_sends 30 = .ok (.aload_n 0, 1) := by decide +kernel
theorem dX8_sends_31 : decode cX8_sends 31 = .ok (.getfield 24, 3) := by decide +kernel
theorem dX8_sends_34 : decode cX8_sends 34 = .ok (.iload 4, 2) := by decide +kernel
theorem dX8_sends_36 : decode cX8_sends 36 = .ok (.iload 5, 2) := by decide +kernel
theorem dX8_sends_38 : decode cX8_sends 38 = .ok (.iadd, 1) := by decide +kernel
theorem dX8_sends_39 : decode cX8_sends 39 = .ok (.aload_n 0, 1) := by decide +kernel
theorem dX8_sends_40 : decode cX8_sends 40 = .ok (.iload_n 1, 1) := by decide +kernel
theorem dX8_sends_41 : decode cX8_sends 41 = .ok (.iload_n 2, 1) := by decide +kernel
theorem dX8_sends_42 : decode cX8_sends 42 = .ok (.iload 5, 2) := by decide +kernel
theorem dX8_sends_44 : decode cX8_sends 44 = .ok (.invokevirtual 95, 3) := by decide +kernel
theorem dX8_sends_47 : decode cX8_sends 47 = .ok (.iastore, 1) := by decide +kernel
theorem dX8_sends_48 : decode cX8_sends 48 = .ok (.iinc 5 1, 3) := by decide +kernel
theorem dX8_sends_51 : decode cX8_sends 51 = .ok (.goto (-28), 3) := by decide +kernel
theorem dX8_sends_54 : decode cX8_sends 54 = .ok (.aload_n 0, 1) := by decide +kernel
theorem dX8_sends_55 : decode cX8_sends 55 = .ok (.getfield 24, 3) := by decide +kernel
theorem dX8_sends_58 : decode cX8_sends 58 = .ok (.iload 4, 2) := by decide +kernel
theorem dX8_sends_60 : decode cX8_sends 60 = .ok (.iconst 1, 1) := by decide +kernel
theorem dX8_sends_61 : decode cX8_sends 61 = .ok (.iadd, 1) := by decide +kernel
theorem dX8_sends_62 : decode cX8_sends 62 = .ok (.iload_n 1, 1) := by decide +kernel
theorem dX8_sends_63 : decode cX8_sends 63 = .ok (.iastore, 1) := by decide +kernel
theorem dX8_sends_64 : decode cX8_sends 64 = .ok (.aload_n 0, 1) := by decide +kernel
theorem dX8_sends_65 : decode cX8_sends 65 = .ok (.getfield 24, 3) := by decide +kernel
theorem dX8_sends_68 : decode cX8_sends 68 = .ok (.iload 4, 2) := by decide +kernel
theorem dX8_sends_70 : decode cX8_sends 70 = .ok (.iconst 2, 1) := by decide +kernel
theorem dX8_sends_71 : decode cX8_sends 71 = .ok (.iadd, 1) := by decide +kernel
theorem dX8_sends_72 : decode cX8_sends 72 = .ok (.dup2, 1) := by decide +kernel
theorem dX8_sends_73 : decode cX8_sends 73 = .ok (.iaload, 1) := by decide +kernel
theorem dX8_sends_74 : decode cX8_sends 74 = .ok (.iconst 1, 1) := by decide +kernel
theorem dX8_sends_75 : decode cX8_sends 75 = .ok (.iadd, 1) := by decide +kernel
theorem dX8_sends_76 : decode cX8_sends 76 = .ok (.iastore, 1) := by decide +kernel
theorem dX8_sends_77 : decode cX8_sends 77 = .ok (.aload_n 0, 1) := by decide +kernel
theorem dX8_sends_78 : decode cX8_sends 78 = .ok (.getfield 24, 3) := by decide +kernel
theorem dX8_sends_81 : decode cX8_sends 81 = .ok (.iload 4, 2) := by decide +kernel
theorem dX8_sends_83 : decode cX8_sends 83 = .ok (.bipush 7, 2) := by decide +kernel
theorem dX8_sends_85 : decode cX8_sends 85 = .ok (.iadd, 1) := by decide +kernel
theorem dX8_sends_86 : decode cX8_sends 86 = .ok (.iload_n 3, 1) := by decide +kernel
theorem dX8_sends_87 : decode cX8_sends 87 = .ok (.iastore, 1) := by decide +kernel
theorem dX8_sends_88 : decode cX8_sends 88 = .ok (.aload_n 0, 1) := by decide +kernel
theorem dX8_sends_89 : decode cX8_sends 89 = .ok (.getfield 24, 3) := by decide +kernel
theorem dX8_sends_92 : decode cX8_sends 92 = .ok (.bipush 8, 2) := by decide +kernel
theorem dX8_sends_94 : decode cX8_sends 94 = .ok (.dup2, 1) := by decide +kernel
theorem dX8_sends_95 : decode cX8_sends 95 = .ok (.iaload, 1) := by decide +kernel
theorem dX8_sends_96 : decode cX8_sends 96 = .ok (.iconst 1, 1) := by decide +kernel
theorem dX8_sends_97 : decode cX8_sends 97 = .ok (.iadd, 1) := by decide +kernel
theorem dX8_sends_98 : decode cX8_sends 98 = .ok (.iastore, 1) := by decide +kernel
theorem dX8_sends_99 : decode cX8_sends 99 = .ok (.iconst 1, 1) := by decide +kernel
theorem dX8_sends_100 : decode cX8_sends 100 = .ok (.ireturn, 1) := by decide +kernel
theorem dX8_dropFirst_0 : decode cX8_dropFirst 0 = .ok (.aload_n 0, 1) := by decide +kernel
theorem dX8_dropFirst_1 : decode cX8_dropFirst 1 = .ok (.getfield 24, 3) := by decide +kernel
theorem dX8_dropFirst_4 : decode cX8_dropFirst 4 = .ok (.bipush 8, 2) := by decide +kernel
theorem dX8_dropFirst_6 : decode cX8_dropFirst 6 = .ok (.dup2, 1) := by decide +kernel
theorem dX8_dropFirst_7 : decode cX8_dropFirst 7 = .ok (.iaload, 1) := by decide +kernel
theorem dX8_dropFirst_8 : decode cX8_dropFirst 8 = .ok (.iconst 1, 1) := by decide +kernel
theorem dX8_dropFirst_9 : decode cX8_dropFirst 9 = .ok (.isub, 1) := by decide +kernel
theorem dX8_dropFirst_10 : decode cX8_dropFirst 10 = .ok (.iastore, 1) := by decide +kernel
theorem dX8_dropFirst_11 : decode cX8_dropFirst 11 = .ok (.iconst 0, 1) := by decide +kernel
theorem dX8_dropFirst_12 : decode cX8_dropFirst 12 = .ok (.invokestatic 157, 3) := by decide +kernel
theorem dX8_dropFirst_15 : decode cX8_dropFirst 15 = .ok (.istore_n 1, 1) := by decide +kernel
theorem dX8_dropFirst_16 : decode cX8_dropFirst 16 = .ok (.iload_n 1, 1) := by decide +kernel
theorem dX8_dropFirst_17 : decode cX8_dropFirst 17 = .ok (.aload_n 0, 1) := by decide +kernel
theorem dX8_dropFirst_18 : decode cX8_dropFirst 18 = .ok (.invokevirtual 160, 3) := by decide +kernel
theorem dX8_dropFirst_21 : decode cX8_dropFirst 21 = .ok (.invokestatic 157, 3) := by decide +kernel
theorem dX8_dropFirst_24 : decode cX8_dropFirst 24 = .ok (.if_icmp .ge 24, 3) := by decide +kernel
theorem dX8_dropFirst_27 : decode cX8_dropFirst 27 = .ok (.aload_n 0, 1) := by decide +kernel
theorem dX8_dropFirst_28 : decode cX8_dropFirst 28 = .ok (.getfield 24, 3) := by decide +kernel
theorem dX8_dropFirst_31 : decode cX8_dropFirst 31 = .ok (.iload_n 1, 1) := by decide +kernel
theorem dX8_dropFirst_32 : decode cX8_dropFirst 32 = .ok (.aload_n 0, 1) := by decide +kernel
theorem dX8_dropFirst_33 : decode cX8_dropFirst 33 = .ok (.getfield 24, 3) := by decide +kernel
theorem dX8_dropFirst_36 : decode cX8_dropFirst 36 = .ok (.iload_n 1, 1) := by decide +kernel
theorem dX8_dropFirst_37 : decode cX8_dropFirst 37 = .ok (.bipush 8, 2) := by decide +kernel
theorem dX8_dropFirst_39 : decode cX8_dropFirst 39 = .ok (.iadd, 1) := by decide +kernel
theorem dX8_dropFirst_40 : decode cX8_dropFirst 40 = .ok (.iaload, 1) := by decide +kernel
theorem dX8_dropFirst_41 : decode cX8_dropFirst 41 = .ok (.iastore, 1) := by decide +kernel
theorem dX8_dropFirst_42 : decode cX8_dropFirst 42 = .ok (.iinc 1 1, 3) := by decide +kernel
theorem dX8_dropFirst_45 : decode cX8_dropFirst 45 = .ok (.goto (-29), 3) := by decide +kernel
theorem dX8_dropFirst_48 : decode cX8_dropFirst 48 = .ok (.return_, 1) := by decide +kernel
theorem dX8_refusalOf_0 : decode cX8_refusalOf 0 = .ok (.aload_n 0, 1) := by decide +kernel
theorem dX8_refusalOf_1 : decode cX8_refusalOf 1 = .ok (.iload_n 1, 1) := by decide +kernel
theorem dX8_refusalOf_2 : decode cX8_refusalOf 2 = .ok (.bipush 7, 2) := by decide +kernel
theorem dX8_refusalOf_4 : decode cX8_refusalOf 4 = .ok (.invokevirtual 163, 3) := by decide +kernel
theorem dX8_refusalOf_7 : decode cX8_refusalOf 7 = .ok (.istore_n 2, 1) := by decide +kernel
theorem dX8_refusalOf_8 : decode cX8_refusalOf 8 = .ok (.aload_n 0, 1) := by decide +kernel
theorem dX8_refusalOf_9 : decode cX8_refusalOf 9 = .ok (.aload_n 0, 1) := by decide +kernel
theorem dX8_refusalOf_10 : decode cX8_refusalOf 10 = .ok (.iload_n 1, 1) := by decide +kernel
theorem dX8_refusalOf_11 : decode cX8_refusalOf 11 = .ok (.iconst 1, 1) := by decide +kernel
theorem dX8_refusalOf_12 : decode cX8_refusalOf 12 = .ok (.invokevirtual 163, 3) := by decide +kernel
theorem dX8_refusalOf_15 : decode cX8_refusalOf 15 = .ok (.iload_n 2, 1) := by decide +kernel
theorem dX8_refusalOf_16 : decode cX8_refusalOf 16 = .ok (.invokevirtual 131, 3) := by decide +kernel
theorem dX8_refusalOf_19 : decode cX8_refusalOf 19 = .ok (.ifCond .ne 5, 3) := by decide +kernel
theorem dX8_refusalOf_22 : decode cX8_refusalOf 22 = .ok (.iconst 1, 1) := by decide +kernel
theorem dX8_refusalOf_23 : decode cX8_refusalOf 23 = .ok (.ireturn, 1) := by decide +kernel
theorem dX8_refusalOf_24 : decode cX8_refusalOf 24 = .ok (.aload_n 0, 1) := by decide +kernel
theorem dX8_refusalOf_25 : decode cX8_refusalOf 25 = .ok (.aload_n 0, 1) := by decide +kernel
theorem dX8_refusalOf_26 : decode cX8_refusalOf 26 = .ok (.iload_n 1, 1) := by decide +kernel
theorem dX8_refusalOf_27 : decode cX8_refusalOf 27 = .ok (.iconst 4, 1) := by decide +kernel
theorem dX8_refusalOf_28 : decode cX8_refusalOf 28 = .ok (.invokevirtual 163, 3) := by decide +kernel
theorem dX8_refusalOf_31 : decode cX8_refusalOf 31 = .ok (.invokevirtual 113, 3) := by decide +kernel
theorem dX8_refusalOf_34 : decode cX8_refusalOf 34 = .ok (.aload_n 0, 1) := by decide +kernel
theorem dX8_refusalOf_35 : decode cX8_refusalOf 35 = .ok (.iconst 3, 1) := by decide +kernel
theorem dX8_refusalOf_36 : decode cX8_refusalOf 36 = .ok (.invokevirtual 110, 3) := by decide +kernel
theorem dX8_refusalOf_39 : decode cX8_refusalOf 39 = .ok (.if_icmp .le 5, 3) := by decide +kernel
theorem dX8_refusalOf_42 : decode cX8_refusalOf 42 = .ok (.iconst 2, 1) := by decide +kernel
theorem dX8_refusalOf_43 : decode cX8_refusalOf 43 = .ok (.ireturn, 1) := by decide +kernel
theorem dX8_refusalOf_44 : decode cX8_refusalOf 44 = .ok (.aload_n 0, 1) := by decide +kernel
theorem dX8_refusalOf_45 : decode cX8_refusalOf 45 = .ok (.iload_n 2, 1) := by decide +kernel
theorem dX8_refusalOf_46 : decode cX8_refusalOf 46 = .ok (.aload_n 0, 1) := by decide +kernel
theorem dX8_refusalOf_47 : decode cX8_refusalOf 47 = .ok (.iload_n 1, 1) := by decide +kernel
theorem dX8_refusalOf_48 : decode cX8_refusalOf 48 = .ok (.iconst 0, 1) := by decide +kernel
theorem dX8_refusalOf_49 : decode cX8_refusalOf 49 = .ok (.invokevirtual 163, 3) := by decide +kernel
theorem dX8_refusalOf_52 : decode cX8_refusalOf 52 = .ok (.aload_n 0, 1) := by decide +kernel
theorem dX8_refusalOf_53 : decode cX8_refusalOf 53 = .ok (.iload_n 1, 1) := by decide +kernel
theorem dX8_refusalOf_54 : decode cX8_refusalOf 54 = .ok (.iconst 3, 1) := by decide +kernel
theorem dX8_refusalOf_55 : decode cX8_refusalOf 55 = .ok (.invokevirtual 163, 3) := by decide +kernel
theorem dX8_refusalOf_58 : decode cX8_refusalOf 58 = .ok (.invokevirtual 99, 3) := by decide +kernel
theorem dX8_refusalOf_61 : decode cX8_refusalOf 61 = .ok (.istore_n 3, 1) := by decide +kernel
theorem dX8_refusalOf_62 : decode cX8_refusalOf 62 = .ok (.iload_n 3, 1) := by decide +kernel
theorem dX8_refusalOf_63 : decode cX8_refusalOf 63 = .ok (.iconst (-1), 1) := by decide +kernel
theorem dX8_refusalOf_64 : decode cX8_refusalOf 64 = .ok (.if_icmp .ne 5, 3) := by decide +kernel
theorem dX8_refusalOf_67 : decode cX8_refusalOf 67 = .ok (.iconst 0, 1) := by decide +kernel
theorem dX8_refusalOf_68 : decode cX8_refusalOf 68 = .ok (.ireturn, 1) := by decide +kernel
theorem dX8_refusalOf_69 : decode cX8_refusalOf 69 = .ok (.aload_n 0, 1) := by decide +kernel
theorem dX8_refusalOf_70 : decode cX8_refusalOf 70 = .ok (.iload_n 2, 1) := by decide +kernel
theorem dX8_refusalOf_71 : decode cX8_refusalOf 71 = .ok (.iload_n 3, 1) := by decide +kernel
theorem dX8_refusalOf_72 : decode cX8_refusalOf 72 = .ok (.iconst 4, 1) := by decide +kernel
theorem dX8_refusalOf_73 : decode cX8_refusalOf 73 = .ok (.invokevirtual 95, 3) := by decide +kernel
theorem dX8_refusalOf_76 : decode cX8_refusalOf 76 = .ok (.istore 4, 2) := by decide +kernel
theorem dX8_refusalOf_78 : decode cX8_refusalOf 78 = .ok (.iload 4, 2) := by decide +kernel
theorem dX8_refusalOf_80 : decode cX8_refusalOf 80 = .ok (.aload_n 0, 1) := by decide +kernel
theorem dX8_refusalOf_81 : decode cX8_refusalOf 81 = .ok (.iload_n 1, 1) := by decide +kernel
theorem dX8_refusalOf_82 : decode cX8_refusalOf 82 = .ok (.iconst 4, 1) := by decide +kernel
theorem dX8_refusalOf_83 : decode cX8_refusalOf 83 = .ok (.invokevirtual 163, 3) := by decide +kernel
theorem dX8_refusalOf_86 : decode cX8_refusalOf 86 = .ok (.if_icmp .gt 30, 3) := by decide +kernel
theorem dX8_refusalOf_89 : decode cX8_refusalOf 89 = .ok (.iload 4, 2) := by decide +kernel
theorem dX8_refusalOf_91 : decode cX8_refusalOf 91 = .ok (.aload_n 0, 1) := by decide +kernel
theorem dX8_refusalOf_92 : decode cX8_refusalOf 92 = .ok (.iload_n 1, 1) := by decide +kernel
theorem dX8_refusalOf_93 : decode cX8_refusalOf 93 = .ok (.iconst 4, 1) := by decide +kernel
theorem dX8_refusalOf_94 : decode cX8_refusalOf 94 = .ok (.invokevirtual 163, 3) := by decide +kernel
theorem dX8_refusalOf_97 : decode cX8_refusalOf 97 = .ok (.if_icmp .ne 23, 3) := by decide +kernel
theorem dX8_refusalOf_100 : decode cX8_refusalOf 100 = .ok (.aload_n 0, 1) := by decide +kernel
theorem dX8_refusalOf_101 : decode cX8_refusalOf 101 = .ok (.iload_n 2, 1) := by decide +kernel
theorem dX8_refusalOf_102 : decode cX8_refusalOf 102 = .ok (.iload_n 3, 1) := by decide +kernel
theorem dX8_refusalOf_103 : decode cX8_refusalOf 103 = .ok (.iconst 2, 1) := by decide +kernel
theorem dX8_refusalOf_104 : decode cX8_refusalOf 104 = .ok (.invokevirtual 95, 3) := by decide +kernel
theorem dX8_refusalOf_107 : decode cX8_refusalOf 107 = .ok (.aload_n 0, 1) := by decide +kernel
theorem dX8_refusalOf_108 : decode cX8_refusalOf 108 = .ok (.iload_n 1, 1) := by decide +kernel
theorem dX8_refusalOf_109 : decode cX8_refusalOf 109 = .ok (.iconst 2, 1) := by decide +kernel
theorem dX8_refusalOf_110 : decode cX8_refusalOf 110 = .ok (.invokevirtual 163, 3) := by decide +kernel
theorem dX8_refusalOf_113 : decode cX8_refusalOf 113 = .ok (.if_icmp .gt 7, 3) := by decide +kernel
theorem dX8_refusalOf_116 : decode cX8_refusalOf 116 = .ok (.iconst 3, 1) := by decide +kernel
theorem dX8_refusalOf_117 : decode cX8_refusalOf 117 = .ok (.goto 4, 3) := by decide +kernel
theorem dX8_refusalOf_120 : decode cX8_refusalOf 120 = .ok (.iconst 0, 1) := by decide +kernel
theorem dX8_refusalOf_121 : decode cX8_refusalOf 121 = .ok (.ireturn, 1) := by decide +kernel
theorem dX8_delivers_0 : decode cX8_delivers 0 = .ok (.aload_n 0, 1) := by decide +kernel
theorem dX8_delivers_1 : decode cX8_delivers 1 = .ok (.iconst 0, 1) := by decide +kernel
theorem dX8_delivers_2 : decode cX8_delivers 2 = .ok (.bipush 7, 2) := by decide +kernel
theorem dX8_delivers_4 : decode cX8_delivers 4 = .ok (.invokevirtual 163, 3) := by decide +kernel
theorem dX8_delivers_7 : decode cX8_delivers 7 = .ok (.istore_n 1, 1) := by decide +kernel
theorem dX8_delivers_8 : decode cX8_delivers 8 = .ok (.aload_n 0, 1) := by decide +kernel
theorem dX8_delivers_9 : decode cX8_delivers 9 = .ok (.iconst 0, 1) := by decide +kernel
theorem dX8_delivers_10 : decode cX8_delivers 10 = .ok (.invokevirtual 166, 3) := by decide +kernel
theorem dX8_delivers_13 : decode cX8_delivers 13 = .ok (.ifCond .ne 7, 3) := by decide +kernel
theorem dX8_delivers_16 : decode cX8_delivers 16 = .ok (.iconst 1, 1) := by decide +kernel
theorem dX8_delivers_17 : decode cX8_delivers 17 = .ok (.goto 4, 3) := by decide +kernel
theorem dX8_delivers_20 : decode cX8_delivers 20 = .ok (.iconst 0, 1) := by decide +kernel
theorem dX8_delivers_21 : decode cX8_delivers 21 = .ok (.istore_n 2, 1) := by decide +kernel
theorem dX8_delivers_22 : decode cX8_delivers 22 = .ok (.aload_n 0, 1) := by decide +kernel
theorem dX8_delivers_23 : decode cX8_delivers 23 = .ok (.iload_n 1, 1) := by decide +kernel
theorem dX8_delivers_24 : decode cX8_delivers 24 = .ok (.iload_n 2, 1) := by decide +kernel
theorem dX8_delivers_25 : decode cX8_delivers 25 = .ok (.ifCond .eq 7, 3) := by decide +kernel
theorem dX8_delivers_28 : decode cX8_delivers 28 = .ok (.iconst 1, 1) := by decide +kernel
theorem dX8_delivers_29 : decode cX8_delivers 29 = .ok (.goto 4, 3) := by decide +kernel
theorem dX8_delivers_32 : decode cX8_delivers 32 = .ok (.iconst 2, 1) := by decide +kernel
theorem dX8_delivers_33 : decode cX8_delivers 33 = .ok (.invokevirtual 143, 3) := by decide +kernel
theorem dX8_delivers_36 : decode cX8_delivers 36 = .ok (.iload_n 2, 1) := by decide +kernel
theorem dX8_delivers_37 : decode cX8_delivers 37 = .ok (.ifCond .eq 100, 3) := by decide +kernel
theorem dX8_delivers_40 : decode cX8_delivers 40 = .ok (.aload_n 0, 1) := by decide +kernel
theorem dX8_delivers_41 : decode cX8_delivers 41 = .ok (.iconst 0, 1) := by decide +kernel
theorem dX8_delivers_42 : decode cX8_delivers 42 = .ok (.iconst 3, 1) := by decide +kernel
theorem dX8_delivers_43 : decode cX8_delivers 43 = .ok (.invokevirtual 163, 3) := by decide +kernel
theorem dX8_delivers_46 : decode cX8_delivers 46 = .ok (.istore_n 3, 1) := by decide +kernel
theorem dX8_delivers_47 : decode cX8_delivers 47 = .ok (.aload_n 0, 1) := by decide +kernel
theorem dX8_delivers_48 : decode cX8_delivers 48 = .ok (.iload_n 1, 1) := by decide +kernel
theorem dX8_delivers_49 : decode cX8_delivers 49 = .ok (.aload_n 0, 1) := by decide +kernel
theorem dX8_delivers_50 : decode cX8_delivers 50 = .ok (.iconst 0, 1) := by decide +kernel
theorem dX8_delivers_51 : decode cX8_delivers 51 = .ok (.iconst 0, 1) := by decide +kernel
theorem dX8_delivers_52 : decode cX8_delivers 52 = .ok (.invokevirtual 163, 3) := by decide +kernel
theorem dX8_delivers_55 : decode cX8_delivers 55 = .ok (.aload_n 0, 1) := by decide +kernel
theorem dX8_delivers_56 : decode cX8_delivers 56 = .ok (.iconst 0, 1) := by decide +kernel
theorem dX8_delivers_57 : decode cX8_delivers 57 = .ok (.iconst 1, 1) := by decide +kernel
theorem dX8_delivers_58 : decode cX8_delivers 58 = .ok (.invokevirtual 163, 3) := by decide +kernel
theorem dX8_delivers_61 : decode cX8_delivers 61 = .ok (.aload_n 0, 1) := by decide +kernel
theorem dX8_delivers_62 : decode cX8_delivers 62 = .ok (.iconst 0, 1) := by decide +kernel
theorem dX8_delivers_63 : decode cX8_delivers 63 = .ok (.iconst 2, 1) := by decide +kernel
theorem dX8_delivers_64 : decode cX8_delivers 64 = .ok (.invokevirtual 163, 3) := by decide +kernel
theorem dX8_delivers_67 : decode cX8_delivers 67 = .ok (.iload_n 3, 1) := by decide +kernel
theorem dX8_delivers_68 : decode cX8_delivers 68 = .ok (.aload_n 0, 1) := by decide +kernel
theorem dX8_delivers_69 : decode cX8_delivers 69 = .ok (.iconst 0, 1) := by decide +kernel
theorem dX8_delivers_70 : decode cX8_delivers 70 = .ok (.iconst 4, 1) := by decide +kernel
theorem dX8_delivers_71 : decode cX8_delivers 71 = .ok (.invokevirtual 163, 3) := by decide +kernel
theorem dX8_delivers_74 : decode cX8_delivers 74 = .ok (.sipush 1000, 3) := by decide +kernel
theorem dX8_delivers_77 : decode cX8_delivers 77 = .ok (.aload_n 0, 1) := by decide +kernel
theorem dX8_delivers_78 : decode cX8_delivers 78 = .ok (.iconst 0, 1) := by decide +kernel
theorem dX8_delivers_79 : decode cX8_delivers 79 = .ok (.iconst 5, 1) := by decide +kernel
theorem dX8_delivers_80 : decode cX8_delivers 80 = .ok (.invokevirtual 163, 3) := by decide +kernel
theorem dX8_delivers_83 : decode cX8_delivers 83 = .ok (.imul, 1) := by decide +kernel
theorem dX8_delivers_84 : decode cX8_delivers 84 = .ok (.aload_n 0, 1) := by decide +kernel
theorem dX8_delivers_85 : decode cX8_delivers 85 = .ok (.iconst 0, 1) := by decide +kernel
theorem dX8_delivers_86 : decode cX8_delivers 86 = .ok (.bipush 6, 2) := by decide +kernel
theorem dX8_delivers_88 : decode cX8_delivers 88 = .ok (.invokevirtual 163, 3) := by decide +kernel
theorem dX8_delivers_91 : decode cX8_delivers 91 = .ok (.iadd, 1) := by decide +kernel
theorem dX8_delivers_92 : decode cX8_delivers 92 = .ok (.invokevirtual 150, 3) := by decide +kernel
theorem dX8_delivers_95 : decode cX8_delivers 95 = .ok (.istore 4, 2) := by decide +kernel
theorem dX8_delivers_97 : decode cX8_delivers 97 = .ok (.aload_n 0, 1) := by decide +kernel
theorem dX8_delivers_98 : decode cX8_delivers 98 = .ok (.iload_n 1, 1) := by decide +kernel
theorem dX8_delivers_99 : decode cX8_delivers 99 = .ok (.iload_n 3, 1) := by decide +kernel
theorem dX8_delivers_100 : decode cX8_delivers 100 = .ok (.invokevirtual 169, 3) := by decide +kernel
theorem dX8_delivers_103 : decode cX8_delivers 103 = .ok (.istore 5, 2) := by decide +kernel
theorem dX8_delivers_105 : decode cX8_delivers 105 = .ok (.iload 5, 2) := by decide +kernel
theorem dX8_delivers_107 : decode cX8_delivers 107 = .ok (.iconst (-1), 1) := by decide +kernel
theorem dX8_delivers_108 : decode cX8_delivers 108 = .ok (.if_icmp .eq 26, 3) := by decide +kernel
theorem dX8_delivers_111 : decode cX8_delivers 111 = .ok (.iload 5, 2) := by decide +kernel
theorem dX8_delivers_113 : decode cX8_delivers 113 = .ok (.iload 4, 2) := by decide +kernel
theorem dX8_delivers_115 : decode cX8_delivers 115 = .ok (.if_icmp .eq 19, 3) := by decide +kernel
theorem dX8_delivers_118 : decode cX8_delivers 118 = .ok (.aload_n 0, 1) := by decide +kernel
theorem dX8_delivers_119 : decode cX8_delivers 119 = .ok (.iload_n 1, 1) := by decide +kernel
theorem dX8_delivers_120 : decode cX8_delivers 120 = .ok (.iload 4, 2) := by decide +kernel
theorem dX8_delivers_122 : decode cX8_delivers 122 = .ok (.iload 5, 2) := by decide +kernel
theorem dX8_delivers_124 : decode cX8_delivers 124 = .ok (.invokevirtual 154, 3) := by decide +kernel
theorem dX8_delivers_127 : decode cX8_delivers 127 = .ok (.ifCond .eq 7, 3) := by decide +kernel
theorem dX8_delivers_130 : decode cX8_delivers 130 = .ok (.iconst 1, 1) := by decide +kernel
theorem dX8_delivers_131 : decode cX8_delivers 131 = .ok (.goto 4, 3) := by decide +kernel
theorem dX8_delivers_134 : decode cX8_delivers 134 = .ok (.iconst 0, 1) := by decide +kernel
theorem dX8_delivers_135 : decode cX8_delivers 135 = .ok (.istore 6, 2) := by decide +kernel
theorem dX8_delivers_137 : decode cX8_delivers 137 = .ok (.aload_n 0, 1) := by decide +kernel
theorem dX8_delivers_138 : decode cX8_delivers 138 = .ok (.invokevirtual 172, 3) := by decide +kernel
theorem dX8_delivers_141 : decode cX8_delivers 141 = .ok (.iload_n 2, 1) := by decide +kernel
theorem dX8_delivers_142 : decode cX8_delivers 142 = .ok (.ireturn, 1) := by decide +kernel
theorem dX8_deliverAll_0 : decode cX8_deliverAll 0 = .ok (.iconst 0, 1) := by decide +kernel
theorem dX8_deliverAll_1 : decode cX8_deliverAll 1 = .ok (.istore_n 2, 1) := by decide +kernel
theorem dX8_deliverAll_2 : decode cX8_deliverAll 2 = .ok (.iconst 0, 1) := by decide +kernel
theorem dX8_deliverAll_3 : decode cX8_deliverAll 3 = .ok (.istore_n 3, 1) := by decide +kernel
theorem dX8_deliverAll_4 : decode cX8_deliverAll 4 = .ok (.iload_n 3, 1) := by decide +kernel
theorem dX8_deliverAll_5 : decode cX8_deliverAll 5 = .ok (.iload_n 1, 1) := by decide +kernel
theorem dX8_deliverAll_6 : decode cX8_deliverAll 6 = .ok (.if_icmp .ge 31, 3) := by decide +kernel
theorem dX8_deliverAll_9 : decode cX8_deliverAll 9 = .ok (.aload_n 0, 1) := by decide +kernel
theorem dX8_deliverAll_10 : decode cX8_deliverAll 10 = .ok (.invokevirtual 160, 3) := by decide +kernel
theorem dX8_deliverAll_13 : decode cX8_deliverAll 13 = .ok (.ifCond .le 24, 3) := by decide +kernel
theorem dX8_deliverAll_16 : decode cX8_deliverAll 16 = .ok (.iload_n 2, 1) := by decide +kernel
theorem dX8_deliverAll_17 : decode cX8_deliverAll 17 = .ok (.aload_n 0, 1) := by decide +kernel
theorem dX8_deliverAll_18 : decode cX8_deliverAll 18 = .ok (.invokevirtual 175, 3) := by decide +kernel
theorem dX8_deliverAll_21 : decode cX8_deliverAll 21 = .ok (.ifCond .eq 7, 3) := by decide +kernel
theorem dX8_deliverAll_24 : decode cX8_deliverAll 24 = .ok (.iconst 1, 1) := by decide +kernel
theorem dX8_deliverAll_25 : decode cX8_deliverAll 25 = .ok (.goto 4, 3) := by decide +kernel
theorem dX8_deliverAll_28 : decode cX8_deliverAll 28 = .ok (.iconst 0, 1) := by decide +kernel
theorem dX8_deliverAll_29 : decode cX8_deliverAll 29 = .ok (.iadd, 1) := by decide +kernel
theorem dX8_deliverAll_30 : decode cX8_deliverAll 30 = .ok (.istore_n 2, 1) := by decide +kernel
theorem dX8_deliverAll_31 : decode cX8_deliverAll 31 = .ok (.iinc 3 1, 3) := by decide +kernel
theorem dX8_deliverAll_34 : decode cX8_deliverAll 34 = .ok (.goto (-30), 3) := by decide +kernel
theorem dX8_deliverAll_37 : decode cX8_deliverAll 37 = .ok (.iload_n 2, 1) := by decide +kernel
theorem dX8_deliverAll_38 : decode cX8_deliverAll 38 = .ok (.ireturn, 1) := by decide +kernel
theorem dX8_doPass_0 : decode cX8_doPass 0 = .ok (.aload_n 0, 1) := by decide +kernel
theorem dX8_doPass_1 : decode cX8_doPass 1 = .ok (.getfield 24, 3) := by decide +kernel
theorem dX8_doPass_4 : decode cX8_doPass 4 = .ok (.iconst 2, 1) := by decide +kernel
theorem dX8_doPass_5 : decode cX8_doPass 5 = .ok (.dup2, 1) := by decide +kernel
theorem dX8_doPass_6 : decode cX8_doPass 6 = .ok (.iaload, 1) := by decide +kernel
theorem dX8_doPass_7 : decode cX8_doPass 7 = .ok (.iload_n 1, 1) := by decide +kernel
theorem dX8_doPass_8 : decode cX8_doPass 8 = .ok (.iadd, 1) := by decide +kernel
theorem dX8_doPass_9 : decode cX8_doPass 9 = .ok (.iastore, 1) := by decide +kernel
theorem dX8_doPass_10 : decode cX8_doPass 10 = .ok (.iconst 0, 1) := by decide +kernel
theorem dX8_doPass_11 : decode cX8_doPass 11 = .ok (.istore_n 2, 1) := by decide +kernel
theorem dX8_doPass_12 : decode cX8_doPass 12 = .ok (.iconst 0, 1) := by decide +kernel
theorem dX8_doPass_13 : decode cX8_doPass 13 = .ok (.istore_n 3, 1) := by decide +kernel
theorem dX8_doPass_14 : decode cX8_doPass 14 = .ok (.iload_n 3, 1) := by decide +kernel
theorem dX8_doPass_15 : decode cX8_doPass 15 = .ok (.aload_n 0, 1) := by decide +kernel
theorem dX8_doPass_16 : decode cX8_doPass 16 = .ok (.invokevirtual 66, 3) := by decide +kernel
theorem dX8_doPass_19 : decode cX8_doPass 19 = .ok (.if_icmp .ge 83, 3) := by decide +kernel
theorem dX8_doPass_22 : decode cX8_doPass 22 = .ok (.iconst 0, 1) := by decide +kernel
theorem dX8_doPass_23 : decode cX8_doPass 23 = .ok (.istore 4, 2) := by decide +kernel
theorem dX8_doPass_25 : decode cX8_doPass 25 = .ok (.iload 4, 2) := by decide +kernel
theorem dX8_doPass_27 : decode cX8_doPass 27 = .ok (.aload_n 0, 1) := by decide +kernel
theorem dX8_doPass_28 : decode cX8_doPass 28 = .ok (.iload_n 3, 1) := by decide +kernel
theorem dX8_doPass_29 : decode cX8_doPass 29 = .ok (.invokevirtual 92, 3) := by decide +kernel
theorem dX8_doPass_32 : decode cX8_doPass 32 = .ok (.if_icmp .ge 64, 3) := by decide +kernel
theorem dX8_doPass_35 : decode cX8_doPass 35 = .ok (.aload_n 0, 1) := by decide +kernel
theorem dX8_doPass_36 : decode cX8_doPass 36 = .ok (.aload_n 0, 1) := by decide +kernel
theorem dX8_doPass_37 : decode cX8_doPass 37 = .ok (.iload_n 3, 1) := by decide +kernel
theorem dX8_doPass_38 : decode cX8_doPass 38 = .ok (.iload 4, 2) := by decide +kernel
theorem dX8_doPass_40 : decode cX8_doPass 40 = .ok (.iconst 4, 1) := by decide +kernel
theorem dX8_doPass_41 : decode cX8_doPass 41 = .ok (.invokevirtual 95, 3) := by decide +kernel
theorem dX8_doPass_44 : decode cX8_doPass 44 = .ok (.invokevirtual 113, 3) := by decide +kernel
theorem dX8_doPass_47 : decode cX8_doPass 47 = .ok (.aload_n 0, 1) := by decide +kernel
theorem dX8_doPass_48 : decode cX8_doPass 48 = .ok (.iconst 3, 1) := by decide +kernel
theorem dX8_doPass_49 : decode cX8_doPass 49 = .ok (.invokevirtual 110, 3) := by decide +kernel
theorem dX8_doPass_52 : decode cX8_doPass 52 = .ok (.if_icmp .le 7, 3) := by decide +kernel
theorem dX8_doPass_55 : decode cX8_doPass 55 = .ok (.iconst 1, 1) := by decide +kernel
theorem dX8_doPass_56 : decode cX8_doPass 56 = .ok (.goto 4, 3) := by decide +kernel
theorem dX8_doPass_59 : decode cX8_doPass 59 = .ok (.iconst 0, 1) := by decide +kernel
theorem dX8_doPass_60 : decode cX8_doPass 60 = .ok (.istore 5, 2) := by decide +kernel
theorem dX8_doPass_62 : decode cX8_doPass 62 = .ok (.iload 5, 2) := by decide +kernel
theorem dX8_doPass_64 : decode cX8_doPass 64 = .ok (.ifCond .eq 13, 3) := by decide +kernel
theorem dX8_doPass_67 : decode cX8_doPass 67 = .ok (.aload_n 0, 1) := by decide +kernel
theorem dX8_doPass_68 : decode cX8_doPass 68 = .ok (.iload_n 3, 1) := by decide +kernel
theorem dX8_doPass_69 : decode cX8_doPass 69 = .ok (.iload 4, 2) := by decide +kernel
theorem dX8_doPass_71 : decode cX8_doPass 71 = .ok (.invokevirtual 147, 3) := by decide +kernel
theorem dX8_doPass_74 : decode cX8_doPass 74 = .ok (.goto 6, 3) := by decide +kernel
theorem dX8_doPass_77 : decode cX8_doPass 77 = .ok (.iinc 4 1, 3) := by decide +kernel
theorem dX8_doPass_80 : decode cX8_doPass 80 = .ok (.iload_n 2, 1) := by decide +kernel
theorem dX8_doPass_81 : decode cX8_doPass 81 = .ok (.iload 5, 2) := by decide +kernel
theorem dX8_doPass_83 : decode cX8_doPass 83 = .ok (.ifCond .eq 7, 3) := by decide +kernel
theorem dX8_doPass_86 : decode cX8_doPass 86 = .ok (.iconst 1, 1) := by decide +kernel
theorem dX8_doPass_87 : decode cX8_doPass 87 = .ok (.goto 4, 3) := by decide +kernel
theorem dX8_doPass_90 : decode cX8_doPass 90 = .ok (.iconst 0, 1) := by decide +kernel
theorem dX8_doPass_91 : decode cX8_doPass 91 = .ok (.iadd, 1) := by decide +kernel
theorem dX8_doPass_92 : decode cX8_doPass 92 = .ok (.istore_n 2, 1) := by decide +kernel
theorem dX8_doPass_93 : decode cX8_doPass 93 = .ok (.goto (-68), 3) := by decide +kernel
theorem dX8_doPass_96 : decode cX8_doPass 96 = .ok (.iinc 3 1, 3) := by decide +kernel
theorem dX8_doPass_99 : decode cX8_doPass 99 = .ok (.goto (-85), 3) := by decide +kernel
theorem dX8_doPass_102 : decode cX8_doPass 102 = .ok (.iload_n 2, 1) := by decide +kernel
theorem dX8_doPass_103 : decode cX8_doPass 103 = .ok (.ireturn, 1) := by decide +kernel
theorem dX8_trustInVia_0 : decode cX8_trustInVia 0 = .ok (.aload_n 0, 1) := by decide +kernel
theorem dX8_trustInVia_1 : decode cX8_trustInVia 1 = .ok (.iload_n 1, 1) := by decide +kernel
theorem dX8_trustInVia_2 : decode cX8_trustInVia 2 = .ok (.iload_n 2, 1) := by decide +kernel
theorem dX8_trustInVia_3 : decode cX8_trustInVia 3 = .ok (.invokevirtual 179, 3) := by decide +kernel
theorem dX8_trustInVia_6 : decode cX8_trustInVia 6 = .ok (.ifCond .eq 8, 3) := by decide +kernel
theorem dX8_trustInVia_9 : decode cX8_trustInVia 9 = .ok (.bipush 10, 2) := by decide +kernel
theorem dX8_trustInVia_11 : decode cX8_trustInVia 11 = .ok (.goto 15, 3) := by decide +kernel
theorem dX8_trustInVia_14 : decode cX8_trustInVia 14 = .ok (.aload_n 0, 1) := by decide +kernel
theorem dX8_trustInVia_15 : decode cX8_trustInVia 15 = .ok (.iload_n 1, 1) := by decide +kernel
theorem dX8_trustInVia_16 : decode cX8_trustInVia 16 = .ok (.aload_n 0, 1) := by decide +kernel
theorem dX8_trustInVia_17 : decode cX8_trustInVia 17 = .ok (.iload_n 1, 1) := by decide +kernel
theorem dX8_trustInVia_18 : decode cX8_trustInVia 18 = .ok (.iload_n 2, 1) := by decide +kernel
theorem dX8_trustInVia_19 : decode cX8_trustInVia 19 = .ok (.iconst 1, 1) := by decide +kernel
theorem dX8_trustInVia_20 : decode cX8_trustInVia 20 = .ok (.invokevirtual 95, 3) := by decide +kernel
theorem dX8_trustInVia_23 : decode cX8_trustInVia 23 = .ok (.invokevirtual 77, 3) := by decide +kernel
theorem dX8_trustInVia_26 : decode cX8_trustInVia 26 = .ok (.ireturn, 1) := by decide +kernel
theorem dX8_isOut_0 : decode cX8_isOut 0 = .ok (.aload_n 0, 1) := by decide +kernel
theorem dX8_isOut_1 : decode cX8_isOut 1 = .ok (.iload_n 1, 1) := by decide +kernel
theorem dX8_isOut_2 : decode cX8_isOut 2 = .ok (.iload_n 2, 1) := by decide +kernel
theorem dX8_isOut_3 : decode cX8_isOut 3 = .ok (.invokevirtual 179, 3) := by decide +kernel
theorem dX8_isOut_6 : decode cX8_isOut 6 = .ok (.ifCond .ne 31, 3) := by decide +kernel
theorem dX8_isOut_9 : decode cX8_isOut 9 = .ok (.aload_n 0, 1) := by decide +kernel
theorem dX8_isOut_10 : decode cX8_isOut 10 = .ok (.iload_n 1, 1) := by decide +kernel
theorem dX8_isOut_11 : decode cX8_isOut 11 = .ok (.iload_n 2, 1) := by decide +kernel
theorem dX8_isOut_12 : decode cX8_isOut 12 = .ok (.invokevirtual 182, 3) := by decide +kernel
theorem dX8_isOut_15 : decode cX8_isOut 15 = .ok (.iconst (-1), 1) := by decide +kernel
theorem dX8_isOut_16 : decode cX8_isOut 16 = .ok (.if_icmp .eq 17, 3) := by decide +kernel
theorem dX8_isOut_19 : decode cX8_isOut 19 = .ok (.aload_n 0, 1) := by decide +kernel
theorem dX8_isOut_20 : decode cX8_isOut 20 = .ok (.iload_n 1, 1) := by decide +kernel
theorem dX8_isOut_21 : decode cX8_isOut 21 = .ok (.iload_n 2, 1) := by decide +kernel
theorem dX8_isOut_22 : decode cX8_isOut 22 = .ok (.invokevirtual 182, 3) := by decide +kernel
theorem dX8_isOut_25 : decode cX8_isOut 25 = .ok (.aload_n 0, 1) := by decide +kernel
theorem dX8_isOut_26 : decode cX8_isOut 26 = .ok (.iconst 2, 1) := by decide +kernel
theorem dX8_isOut_27 : decode cX8_isOut 27 = .ok (.invokevirtual 110, 3) := by decide +kernel
theorem dX8_isOut_30 : decode cX8_isOut 30 = .ok (.if_icmp .ge 7, 3) := by decide +kernel
theorem dX8_isOut_33 : decode cX8_isOut 33 = .ok (.iconst 1, 1) := by decide +kernel
theorem dX8_isOut_34 : decode cX8_isOut 34 = .ok (.goto 4, 3) := by decide +kernel
theorem dX8_isOut_37 : decode cX8_isOut 37 = .ok (.iconst 0, 1) := by decide +kernel
theorem dX8_isOut_38 : decode cX8_isOut 38 = .ok (.ireturn, 1) := by decide +kernel
theorem dX8_movedBy_0 : decode cX8_movedBy 0 = .ok (.aload_n 0, 1) := by decide +kernel
theorem dX8_movedBy_1 : decode cX8_movedBy 1 = .ok (.iload_n 1, 1) := by decide +kernel
theorem dX8_movedBy_2 : decode cX8_movedBy 2 = .ok (.iload_n 2, 1) := by decide +kernel
theorem dX8_movedBy_3 : decode cX8_movedBy 3 = .ok (.invokevirtual 179, 3) := by decide +kernel
theorem dX8_movedBy_6 : decode cX8_movedBy 6 = .ok (.ifCond .eq 7, 3) := by decide +kernel
theorem dX8_movedBy_9 : decode cX8_movedBy 9 = .ok (.iconst 0, 1) := by decide +kernel
theorem dX8_movedBy_10 : decode cX8_movedBy 10 = .ok (.goto 26, 3) := by decide +kernel
theorem dX8_movedBy_13 : decode cX8_movedBy 13 = .ok (.aload_n 0, 1) := by decide +kernel
theorem dX8_movedBy_14 : decode cX8_movedBy 14 = .ok (.iconst 1, 1) := by decide +kernel
theorem dX8_movedBy_15 : decode cX8_movedBy 15 = .ok (.invokevirtual 110, 3) := by decide +kernel
theorem dX8_movedBy_18 : decode cX8_movedBy 18 = .ok (.bipush 10, 2) := by decide +kernel
theorem dX8_movedBy_20 : decode cX8_movedBy 20 = .ok (.aload_n 0, 1) := by decide +kernel
theorem dX8_movedBy_21 : decode cX8_movedBy 21 = .ok (.iload_n 1, 1) := by decide +kernel
theorem dX8_movedBy_22 : decode cX8_movedBy 22 = .ok (.iload_n 2, 1) := by decide +kernel
theorem dX8_movedBy_23 : decode cX8_movedBy 23 = .ok (.invokevirtual 182, 3) := by decide +kernel
theorem dX8_movedBy_26 : decode cX8_movedBy 26 = .ok (.isub, 1) := by decide +kernel
theorem dX8_movedBy_27 : decode cX8_movedBy 27 = .ok (.imul, 1) := by decide +kernel
theorem dX8_movedBy_28 : decode cX8_movedBy 28 = .ok (.aload_n 0, 1) := by decide +kernel
theorem dX8_movedBy_29 : decode cX8_movedBy 29 = .ok (.iload_n 1, 1) := by decide +kernel
theorem dX8_movedBy_30 : decode cX8_movedBy 30 = .ok (.iload_n 2, 1) := by decide +kernel
theorem dX8_movedBy_31 : decode cX8_movedBy 31 = .ok (.iconst 2, 1) := by decide +kernel
theorem dX8_movedBy_32 : decode cX8_movedBy 32 = .ok (.invokevirtual 95, 3) := by decide +kernel
theorem dX8_movedBy_35 : decode cX8_movedBy 35 = .ok (.imul, 1) := by decide +kernel
theorem dX8_movedBy_36 : decode cX8_movedBy 36 = .ok (.istore_n 3, 1) := by decide +kernel
theorem dX8_movedBy_37 : decode cX8_movedBy 37 = .ok (.aload_n 0, 1) := by decide +kernel
theorem dX8_movedBy_38 : decode cX8_movedBy 38 = .ok (.iload_n 1, 1) := by decide +kernel
theorem dX8_movedBy_39 : decode cX8_movedBy 39 = .ok (.iload_n 2, 1) := by decide +kernel
theorem dX8_movedBy_40 : decode cX8_movedBy 40 = .ok (.invokevirtual 122, 3) := by decide +kernel
theorem dX8_movedBy_43 : decode cX8_movedBy 43 = .ok (.iload_n 3, 1) := by decide +kernel
theorem dX8_movedBy_44 : decode cX8_movedBy 44 = .ok (.iadd, 1) := by decide +kernel
theorem dX8_movedBy_45 : decode cX8_movedBy 45 = .ok (.ireturn, 1) := by decide +kernel
theorem dX8_isAhead_0 : decode cX8_isAhead 0 = .ok (.aload_n 0, 1) := by decide +kernel
theorem dX8_isAhead_1 : decode cX8_isAhead 1 = .ok (.iload_n 1, 1) := by decide +kernel
theorem dX8_isAhead_2 : decode cX8_isAhead 2 = .ok (.iload_n 2, 1) := by decide +kernel
theorem dX8_isAhead_3 : decode cX8_isAhead 3 = .ok (.invokevirtual 179, 3) := by decide +kernel
theorem dX8_isAhead_6 : decode cX8_isAhead 6 = .ok (.ifCond .ne 12, 3) := by decide +kernel
theorem dX8_isAhead_9 : decode cX8_isAhead 9 = .ok (.aload_n 0, 1) := by decide +kernel
theorem dX8_isAhead_10 : decode cX8_isAhead 10 = .ok (.iload_n 1, 1) := by decide +kernel
theorem dX8_isAhead_11 : decode cX8_isAhead 11 = .ok (.iload_n 3, 1) := by decide +kernel
theorem dX8_isAhead_12 : decode cX8_isAhead 12 = .ok (.invokevirtual 179, 3) := by decide +kernel
theorem dX8_isAhead_15 : decode cX8_isAhead 15 = .ok (.ifCond .eq 10, 3) := by decide +kernel
theorem dX8_isAhead_18 : decode cX8_isAhead 18 = .ok (.aload_n 0, 1) := by decide +kernel
theorem dX8_isAhead_19 : decode cX8_isAhead 19 = .ok (.iload_n 1, 1) := by decide +kernel
theorem dX8_isAhead_20 : decode cX8_isAhead 20 = .ok (.iload_n 2, 1) := by decide +kernel
theorem dX8_isAhead_21 : decode cX8_isAhead 21 = .ok (.invokevirtual 179, 3) := by decide +kernel
theorem dX8_isAhead_24 : decode cX8_isAhead 24 = .ok (.ireturn, 1) := by decide +kernel
theorem dX8_isAhead_25 : decode cX8_isAhead 25 = .ok (.aload_n 0, 1) := by decide +kernel
theorem dX8_isAhead_26 : decode cX8_isAhead 26 = .ok (.iload_n 1, 1) := by decide +kernel
theorem dX8_isAhead_27 : decode cX8_isAhead 27 = .ok (.iload_n 2, 1) := by decide +kernel
theorem dX8_isAhead_28 : decode cX8_isAhead 28 = .ok (.invokevirtual 182, 3) := by decide +kernel
theorem dX8_isAhead_31 : decode cX8_isAhead 31 = .ok (.aload_n 0, 1) := by decide +kernel
theorem dX8_isAhead_32 : decode cX8_isAhead 32 = .ok (.iload_n 1, 1) := by decide +kernel
theorem dX8_isAhead_33 : decode cX8_isAhead 33 = .ok (.iload_n 3, 1) := by decide +kernel
theorem dX8_isAhead_34 : decode cX8_isAhead 34 = .ok (.invokevirtual 182, 3) := by decide +kernel
theorem dX8_isAhead_37 : decode cX8_isAhead 37 = .ok (.isub, 1) := by decide +kernel
theorem dX8_isAhead_38 : decode cX8_isAhead 38 = .ok (.istore 4, 2) := by decide +kernel
theorem dX8_isAhead_40 : decode cX8_isAhead 40 = .ok (.iload 4, 2) := by decide +kernel
theorem dX8_isAhead_42 : decode cX8_isAhead 42 = .ok (.ifCond .eq 14, 3) := by decide +kernel
theorem dX8_isAhead_45 : decode cX8_isAhead 45 = .ok (.iload 4, 2) := by decide +kernel
theorem dX8_isAhead_47 : decode cX8_isAhead 47 = .ok (.ifCond .le 7, 3) := by decide +kernel
theorem dX8_isAhead_50 : decode cX8_isAhead 50 = .ok (.iconst 1, 1) := by decide +kernel
theorem dX8_isAhead_51 : decode cX8_isAhead 51 = .ok (.goto 4, 3) := by decide +kernel
theorem dX8_isAhead_54 : decode cX8_isAhead 54 = .ok (.iconst 0, 1) := by decide +kernel
theorem dX8_isAhead_55 : decode cX8_isAhead 55 = .ok (.ireturn, 1) := by decide +kernel
theorem dX8_isAhead_56 : decode cX8_isAhead 56 = .ok (.aload_n 0, 1) := by decide +kernel
theorem dX8_isAhead_57 : decode cX8_isAhead 57 = .ok (.iload_n 1, 1) := by decide +kernel
theorem dX8_isAhead_58 : decode cX8_isAhead 58 = .ok (.iload_n 2, 1) := by decide +kernel
theorem dX8_isAhead_59 : decode cX8_isAhead 59 = .ok (.iconst 2, 1) := by decide +kernel
theorem dX8_isAhead_60 : decode cX8_isAhead 60 = .ok (.invokevirtual 95, 3) := by decide +kernel
theorem dX8_isAhead_63 : decode cX8_isAhead 63 = .ok (.aload_n 0, 1) := by decide +kernel
theorem dX8_isAhead_64 : decode cX8_isAhead 64 = .ok (.iload_n 1, 1) := by decide +kernel
theorem dX8_isAhead_65 : decode cX8_isAhead 65 = .ok (.iload_n 3, 1) := by decide +kernel
theorem dX8_isAhead_66 : decode cX8_isAhead 66 = .ok (.iconst 2, 1) := by decide +kernel
theorem dX8_isAhead_67 : decode cX8_isAhead 67 = .ok (.invokevirtual 95, 3) := by decide +kernel
theorem dX8_isAhead_70 : decode cX8_isAhead 70 = .ok (.isub, 1) := by decide +kernel
theorem dX8_isAhead_71 : decode cX8_isAhead 71 = .ok (.istore 5, 2) := by decide +kernel
theorem dX8_isAhead_73 : decode cX8_isAhead 73 = .ok (.iload 5, 2) := by decide +kernel
theorem dX8_isAhead_75 : decode cX8_isAhead 75 = .ok (.ifCond .eq 16, 3) := by decide +kernel
theorem dX8_isAhead_78 : decode cX8_isAhead 78 = .ok (.iload 5, 2) := by decide +kernel
theorem dX8_isAhead_80 : decode cX8_isAhead 80 = .ok (.ifCond .ge 7, 3) := by decide +kernel
theorem dX8_isAhead_83 : decode cX8_isAhead 83 = .ok (.iconst 1, 1) := by decide +kernel
theorem dX8_isAhead_84 : decode cX8_isAhead 84 = .ok (.goto 29, 3) := by decide +kernel
theorem dX8_isAhead_87 : decode cX8_isAhead 87 = .ok (.iconst 0, 1) := by decide +kernel
theorem dX8_isAhead_88 : decode cX8_isAhead 88 = .ok (.goto 25, 3) := by decide +kernel
theorem dX8_isAhead_91 : decode cX8_isAhead 91 = .ok (.aload_n 0, 1) := by decide +kernel
theorem dX8_isAhead_92 : decode cX8_isAhead 92 = .ok (.iload_n 1, 1) := by decide +kernel
theorem dX8_isAhead_93 : decode cX8_isAhead 93 = .ok (.iload_n 2, 1) := by decide +kernel
theorem dX8_isAhead_94 : decode cX8_isAhead 94 = .ok (.iconst 0, 1) := by decide +kernel
theorem dX8_isAhead_95 : decode cX8_isAhead 95 = .ok (.invokevirtual 95, 3) := by decide +kernel
theorem dX8_isAhead_98 : decode cX8_isAhead 98 = .ok (.aload_n 0, 1) := by decide +kernel
theorem dX8_isAhead_99 : decode cX8_isAhead 99 = .ok (.iload_n 1, 1) := by decide +kernel
theorem dX8_isAhead_100 : decode cX8_isAhead 100 = .ok (.iload_n 3, 1) := by decide +kernel
theorem dX8_isAhead_101 : decode cX8_isAhead 101 = .ok (.iconst 0, 1) := by decide +kernel
theorem dX8_isAhead_102 : decode cX8_isAhead 102 = .ok (.invokevirtual 95, 3) := by decide +kernel
theorem dX8_isAhead_105 : decode cX8_isAhead 105 = .ok (.if_icmp .ge 7, 3) := by decide +kernel
theorem dX8_isAhead_108 : decode cX8_isAhead 108 = .ok (.iconst 1, 1) := by decide +kernel
theorem dX8_isAhead_109 : decode cX8_isAhead 109 = .ok (.goto 4, 3) := by decide +kernel
theorem dX8_isAhead_112 : decode cX8_isAhead 112 = .ok (.iconst 0, 1) := by decide +kernel
theorem dX8_isAhead_113 : decode cX8_isAhead 113 = .ok (.ireturn, 1) := by decide +kernel
theorem dX8_nextReport_0 : decode cX8_nextReport 0 = .ok (.iconst (-1), 1) := by decide +kernel
theorem dX8_nextReport_1 : decode cX8_nextReport 1 = .ok (.istore_n 2, 1) := by decide +kernel
theorem dX8_nextReport_2 : decode cX8_nextReport 2 = .ok (.iconst 0, 1) := by decide +kernel
theorem dX8_nextReport_3 : decode cX8_nextReport 3 = .ok (.istore_n 3, 1) := by decide +kernel
theorem dX8_nextReport_4 : decode cX8_nextReport 4 = .ok (.iload_n 3, 1) := by decide +kernel
theorem dX8_nextReport_5 : decode cX8_nextReport 5 = .ok (.aload_n 0, 1) := by decide +kernel
theorem dX8_nextReport_6 : decode cX8_nextReport 6 = .ok (.iload_n 1, 1) := by decide +kernel
theorem dX8_nextReport_7 : decode cX8_nextReport 7 = .ok (.invokevirtual 92, 3) := by decide +kernel
theorem dX8_nextReport_10 : decode cX8_nextReport 10 = .ok (.if_icmp .ge 35, 3) := by decide +kernel
theorem dX8_nextReport_13 : decode cX8_nextReport 13 = .ok (.aload_n 0, 1) := by decide +kernel
theorem dX8_nextReport_14 : decode cX8_nextReport 14 = .ok (.getfield 33, 3) := by decide +kernel
theorem dX8_nextReport_17 : decode cX8_nextReport 17 = .ok (.iload_n 3, 1) := by decide +kernel
theorem dX8_nextReport_18 : decode cX8_nextReport 18 = .ok (.baload, 1) := by decide +kernel
theorem dX8_nextReport_19 : decode cX8_nextReport 19 = .ok (.ifCond .ne 20, 3) := by decide +kernel
theorem dX8_nextReport_22 : decode cX8_nextReport 22 = .ok (.iload_n 2, 1) := by decide +kernel
theorem dX8_nextReport_23 : decode cX8_nextReport 23 = .ok (.iconst (-1), 1) := by decide +kernel
theorem dX8_nextReport_24 : decode cX8_nextReport 24 = .ok (.if_icmp .eq 13, 3) := by decide +kernel
theorem dX8_nextReport_27 : decode cX8_nextReport 27 = .ok (.aload_n 0, 1) := by decide +kernel
theorem dX8_nextReport_28 : decode cX8_nextReport 28 = .ok (.iload_n 1, 1) := by decide +kernel
theorem dX8_nextReport_29 : decode cX8_nextReport 29 = .ok (.iload_n 3, 1) := by decide +kernel
theorem dX8_nextReport_30 : decode cX8_nextReport 30 = .ok (.iload_n 2, 1) := by decide +kernel
theorem dX8_nextReport_31 : decode cX8_nextReport 31 = .ok (.invokevirtual 185, 3) := by decide +kernel
theorem dX8_nextReport_34 : decode cX8_nextReport 34 = .ok (.ifCond .eq 5, 3) := by decide +kernel
theorem dX8_nextReport_37 : decode cX8_nextReport 37 = .ok (.iload_n 3, 1) := by decide +kernel
theorem dX8_nextReport_38 : decode cX8_nextReport 38 = .ok (.istore_n 2, 1) := by decide +kernel
theorem dX8_nextReport_39 : decode cX8_nextReport 39 = .ok (.iinc 3 1, 3) := by decide +kernel
theorem dX8_nextReport_42 : decode cX8_nextReport 42 = .ok (.goto (-38), 3) := by decide +kernel
theorem dX8_nextReport_45 : decode cX8_nextReport 45 = .ok (.iload_n 2, 1) := by decide +kernel
theorem dX8_nextReport_46 : decode cX8_nextReport 46 = .ok (.ireturn, 1) := by decide +kernel
theorem dX8_layBelief_0 : decode cX8_layBelief 0 = .ok (.aload_n 0, 1) := by decide +kernel
theorem dX8_layBelief_1 : decode cX8_layBelief 1 = .ok (.iconst 0, 1) := by decide +kernel
theorem dX8_layBelief_2 : decode cX8_layBelief 2 = .ok (.putfield 188, 3) := by decide +kernel
theorem dX8_layBelief_5 : decode cX8_layBelief 5 = .ok (.aload_n 0, 1) := by decide +kernel
theorem dX8_layBelief_6 : decode cX8_layBelief 6 = .ok (.sipush 999, 3) := by decide +kernel
theorem dX8_layBelief_9 : decode cX8_layBelief 9 = .ok (.putfield 191, 3) := by decide +kernel
theorem dX8_layBelief_12 : decode cX8_layBelief 12 = .ok (.iconst 0, 1) := by decide +kernel
theorem dX8_layBelief_13 : decode cX8_layBelief 13 = .ok (.istore_n 3, 1) := by decide +kernel
theorem dX8_layBelief_14 : decode cX8_layBelief 14 = .ok (.iload_n 3, 1) := by decide +kernel
theorem dX8_layBelief_15 : decode cX8_layBelief 15 = .ok (.aload_n 0, 1) := by decide +kernel
theorem dX8_layBelief_16 : decode cX8_layBelief 16 = .ok (.iload_n 1, 1) := by decide +kernel
theorem dX8_layBelief_17 : decode cX8_layBelief 17 = .ok (.invokevirtual 92, 3) := by decide +kernel
theorem dX8_layBelief_20 : decode cX8_layBelief 20 = .ok (.if_icmp .ge 90, 3) := by decide +kernel
theorem dX8_layBelief_23 : decode cX8_layBelief 23 = .ok (.aload_n 0, 1) := by decide +kernel
theorem dX8_layBelief_24 : decode cX8_layBelief 24 = .ok (.iload_n 1, 1) := by decide +kernel
theorem dX8_layBelief_25 : decode cX8_layBelief 25 = .ok (.iload_n 3, 1) := by decide +kernel
theorem dX8_layBelief_26 : decode cX8_layBelief 26 = .ok (.iconst 3, 1) := by decide +kernel
theorem dX8_layBelief_27 : decode cX8_layBelief 27 = .ok (.invokevirtual 95, 3) := by decide +kernel
theorem dX8_layBelief_30 : decode cX8_layBelief 30 = .ok (.iload_n 2, 1) := by decide +kernel
theorem dX8_layBelief_31 : decode cX8_layBelief 31 = .ok (.if_icmp .ne 21, 3) := by decide +kernel
theorem dX8_layBelief_34 : decode cX8_layBelief 34 = .ok (.aload_n 0, 1) := by decide +kernel
theorem dX8_layBelief_35 : decode cX8_layBelief 35 = .ok (.iload_n 1, 1) := by decide +kernel
theorem dX8_layBelief_36 : decode cX8_layBelief 36 = .ok (.iload_n 3, 1) := by decide +kernel
theorem dX8_layBelief_37 : decode cX8_layBelief 37 = .ok (.iconst 1, 1) := by decide +kernel
theorem dX8_layBelief_38 : decode cX8_layBelief 38 = .ok (.invokevirtual 95, 3) := by decide +kernel
theorem dX8_layBelief_41 : decode cX8_layBelief 41 = .ok (.aload_n 0, 1) := by decide +kernel
theorem dX8_layBelief_42 : decode cX8_layBelief 42 = .ok (.getfield 27, 3) := by decide +kernel
theorem dX8_layBelief_45 : decode cX8_layBelief 45 = .ok (.if_icmp .eq 7, 3) := by decide +kernel
theorem dX8_layBelief_48 : decode cX8_layBelief 48 = .ok (.iconst 1, 1) := by decide +kernel
theorem dX8_layBelief_49 : decode cX8_layBelief 49 = .ok (.goto 4, 3) := by decide +kernel
theorem dX8_layBelief_52 : decode cX8_layBelief 52 = .ok (.iconst 0, 1) := by decide +kernel
theorem dX8_layBelief_53 : decode cX8_layBelief 53 = .ok (.istore 4, 2) := by decide +kernel
theorem dX8_layBelief_55 : decode cX8_layBelief 55 = .ok (.aload_n 0, 1) := by decide +kernel
theorem dX8_layBelief_56 : decode cX8_layBelief 56 = .ok (.getfield 30, 3) := by decide +kernel
theorem dX8_layBelief_59 : decode cX8_layBelief 59 = .ok (.iload_n 3, 1) := by decide +kernel
theorem dX8_layBelief_60 : decode cX8_layBelief 60 = .ok (.iload 4, 2) := by decide +kernel
theorem dX8_layBelief_62 : decode cX8_layBelief 62 = .ok (.ifCond .ne 7, 3) := by decide +kernel
theorem dX8_layBelief_65 : decode cX8_layBelief 65 = .ok (.iconst (-1), 1) := by decide +kernel
theorem dX8_layBelief_66 : decode cX8_layBelief 66 = .ok (.goto 17, 3) := by decide +kernel
theorem dX8_layBelief_69 : decode cX8_layBelief 69 = .ok (.aload_n 0, 1) := by decide +kernel
theorem dX8_layBelief_70 : decode cX8_layBelief 70 = .ok (.iload_n 1, 1) := by decide +kernel
theorem dX8_layBelief_71 : decode cX8_layBelief 71 = .ok (.iload_n 3, 1) := by decide +kernel
theorem dX8_layBelief_72 : decode cX8_layBelief 72 = .ok (.invokevirtual 194, 3) := by decide +kernel
theorem dX8_layBelief_75 : decode cX8_layBelief 75 = .ok (.ifCond .eq 7, 3) := by decide +kernel
theorem dX8_layBelief_78 : decode cX8_layBelief 78 = .ok (.iconst 2, 1) := by decide +kernel
theorem dX8_layBelief_79 : decode cX8_layBelief 79 = .ok (.goto 4, 3) := by decide +kernel
theorem dX8_layBelief_82 : decode cX8_layBelief 82 = .ok (.iconst 0, 1) := by decide +kernel
theorem dX8_layBelief_83 : decode cX8_layBelief 83 = .ok (.iastore, 1) := by decide +kernel
theorem dX8_layBelief_84 : decode cX8_layBelief 84 = .ok (.aload_n 0, 1) := by decide +kernel
theorem dX8_layBelief_85 : decode cX8_layBelief 85 = .ok (.getfield 33, 3) := by decide +kernel
theorem dX8_layBelief_88 : decode cX8_layBelief 88 = .ok (.iload_n 3, 1) := by decide +kernel
theorem dX8_layBelief_89 : decode cX8_layBelief 89 = .ok (.aload_n 0, 1) := by decide +kernel
theorem dX8_layBelief_90 : decode cX8_layBelief 90 = .ok (.getfield 30, 3) := by decide +kernel
theorem dX8_layBelief_93 : decode cX8_layBelief 93 = .ok (.iload_n 3, 1) := by decide +kernel
theorem dX8_layBelief_94 : decode cX8_layBelief 94 = .ok (.iaload, 1) := by decide +kernel
theorem dX8_layBelief_95 : decode cX8_layBelief 95 = .ok (.ifCond .eq 7, 3) := by decide +kernel
theorem dX8_layBelief_98 : decode cX8_layBelief 98 = .ok (.iconst 1, 1) := by decide +kernel
theorem dX8_layBelief_99 : decode cX8_layBelief 99 = .ok (.goto 4, 3) := by decide +kernel
theorem dX8_layBelief_102 : decode cX8_layBelief 102 = .ok (.iconst 0, 1) := by decide +kernel
theorem dX8_layBelief_103 : decode cX8_layBelief 103 = .ok (.bastore, 1) := by decide +kernel
theorem dX8_layBelief_104 : decode cX8_layBelief 104 = .ok (.iinc 3 1, 3) := by decide +kernel
theorem dX8_layBelief_107 : decode cX8_layBelief 107 = .ok (.goto (-93), 3) := by decide +kernel
theorem dX8_layBelief_110 : decode cX8_layBelief 110 = .ok (.aload_n 0, 1) := by decide +kernel
theorem dX8_layBelief_111 : decode cX8_layBelief 111 = .ok (.iload_n 1, 1) := by decide +kernel
theorem dX8_layBelief_112 : decode cX8_layBelief 112 = .ok (.invokevirtual 197, 3) := by decide +kernel
theorem dX8_layBelief_115 : decode cX8_layBelief 115 = .ok (.istore_n 3, 1) := by decide +kernel
theorem dX8_layBelief_116 : decode cX8_layBelief 116 = .ok (.iload_n 3, 1) := by decide +kernel
theorem dX8_layBelief_117 : decode cX8_layBelief 117 = .ok (.iconst (-1), 1) := by decide +kernel
theorem dX8_layBelief_118 : decode cX8_layBelief 118 = .ok (.if_icmp .eq 119, 3) := by decide +kernel
theorem dX8_layBelief_121 : decode cX8_layBelief 121 = .ok (.aload_n 0, 1) := by decide +kernel
theorem dX8_layBelief_122 : decode cX8_layBelief 122 = .ok (.getfield 33, 3) := by decide +kernel
theorem dX8_layBelief_125 : decode cX8_layBelief 125 = .ok (.iload_n 3, 1) := by decide +kernel
theorem dX8_layBelief_126 : decode cX8_layBelief 126 = .ok (.iconst 1, 1) := by decide +kernel
theorem dX8_layBelief_127 : decode cX8_layBelief 127 = .ok (.bastore, 1) := by decide +kernel
theorem dX8_layBelief_128 : decode cX8_layBelief 128 = .ok (.aload_n 0, 1) := by decide +kernel
theorem dX8_layBelief_129 : decode cX8_layBelief 129 = .ok (.getfield 188, 3) := by decide +kernel
theorem dX8_layBelief_132 : decode cX8_layBelief 132 = .ok (.aload_n 0, 1) := by decide +kernel
theorem dX8_layBelief_133 : decode cX8_layBelief 133 = .ok (.iload_n 1, 1) := by decide +kernel
theorem dX8_layBelief_134 : decode cX8_layBelief 134 = .ok (.iload_n 3, 1) := by decide +kernel
theorem dX8_layBelief_135 : decode cX8_layBelief 135 = .ok (.aload_n 0, 1) := by decide +kernel
theorem dX8_layBelief_136 : decode cX8_layBelief 136 = .ok (.iload_n 1, 1) := by decide +kernel
theorem dX8_layBelief_137 : decode cX8_layBelief 137 = .ok (.iload_n 3, 1) := by decide +kernel
theorem dX8_layBelief_138 : decode cX8_layBelief 138 = .ok (.invokevirtual 200, 3) := by decide +kernel
theorem dX8_layBelief_141 : decode cX8_layBelief 141 = .ok (.invokevirtual 125, 3) := by decide +kernel
theorem dX8_layBelief_144 : decode cX8_layBelief 144 = .ok (.invokestatic 102, 3) := by decide +kernel
theorem dX8_layBelief_147 : decode cX8_layBelief 147 = .ok (.istore 4, 2) := by decide +kernel
theorem dX8_layBelief_149 : decode cX8_layBelief 149 = .ok (.aload_n 0, 1) := by decide +kernel
theorem dX8_layBelief_150 : decode cX8_layBelief 150 = .ok (.getfield 191, 3) := by decide +kernel
theorem dX8_layBelief_153 : decode cX8_layBelief 153 = .ok (.aload_n 0, 1) := by decide +kernel
theorem dX8_layBelief_154 : decode cX8_layBelief 154 = .ok (.iload_n 1, 1) := by decide +kernel
theorem dX8_layBelief_155 : decode cX8_layBelief 155 = .ok (.iload_n 3, 1) := by decide +kernel
theorem dX8_layBelief_156 : decode cX8_layBelief 156 = .ok (.aload_n 0, 1) := by decide +kernel
theorem dX8_layBelief_157 : decode cX8_layBelief 157 = .ok (.iload_n 1, 1) := by decide +kernel
theorem dX8_layBelief_158 : decode cX8_layBelief 158 = .ok (.iload_n 3, 1) := by decide +kernel
theorem dX8_layBelief_159 : decode cX8_layBelief 159 = .ok (.invokevirtual 200, 3) := by decide +kernel
theorem dX8_layBelief_162 : decode cX8_layBelief 162 = .ok (.invokevirtual 128, 3) := by decide +kernel
theorem dX8_layBelief_165 : decode cX8_layBelief 165 = .ok (.invokestatic 107, 3) := by decide +kernel
theorem dX8_layBelief_168 : decode cX8_layBelief 168 = .ok (.istore 5, 2) := by decide +kernel
theorem dX8_layBelief_170 : decode cX8_layBelief 170 = .ok (.aload_n 0, 1) := by decide +kernel
theorem dX8_layBelief_171 : decode cX8_layBelief 171 = .ok (.getfield 30, 3) := by decide +kernel
theorem dX8_layBelief_174 : decode cX8_layBelief 174 = .ok (.iload_n 3, 1) := by decide +kernel
theorem dX8_layBelief_175 : decode cX8_layBelief 175 = .ok (.iload 4, 2) := by decide +kernel
theorem dX8_layBelief_177 : decode cX8_layBelief 177 = .ok (.iload 5, 2) := by decide +kernel
theorem dX8_layBelief_179 : decode cX8_layBelief 179 = .ok (.if_icmp .gt 7, 3) := by decide +kernel
theorem dX8_layBelief_182 : decode cX8_layBelief 182 = .ok (.iconst 0, 1) := by decide +kernel
theorem dX8_layBelief_183 : decode cX8_layBelief 183 = .ok (.goto 4, 3) := by decide +kernel
theorem dX8_layBelief_186 : decode cX8_layBelief 186 = .ok (.iconst 1, 1) := by decide +kernel
theorem dX8_layBelief_187 : decode cX8_layBelief 187 = .ok (.iastore, 1) := by decide +kernel
theorem dX8_layBelief_188 : decode cX8_layBelief 188 = .ok (.aload_n 0, 1) := by decide +kernel
theorem dX8_layBelief_189 : decode cX8_layBelief 189 = .ok (.iload 4, 2) := by decide +kernel
theorem dX8_layBelief_191 : decode cX8_layBelief 191 = .ok (.iload 5, 2) := by decide +kernel
theorem dX8_layBelief_193 : decode cX8_layBelief 193 = .ok (.if_icmp .gt 8, 3) := by decide +kernel
theorem dX8_layBelief_196 : decode cX8_layBelief 196 = .ok (.iload 4, 2) := by decide +kernel
theorem dX8_layBelief_198 : decode cX8_layBelief 198 = .ok (.goto 7, 3) := by decide +kernel
theorem dX8_layBelief_201 : decode cX8_layBelief 201 = .ok (.aload_n 0, 1) := by decide +kernel
theorem dX8_layBelief_202 : decode cX8_layBelief 202 = .ok (.getfield 188, 3) := by decide +kernel
theorem dX8_layBelief_205 : decode cX8_layBelief 205 = .ok (.putfield 188, 3) := by decide +kernel
theorem dX8_layBelief_208 : decode cX8_layBelief 208 = .ok (.aload_n 0, 1) := by decide +kernel
theorem dX8_layBelief_209 : decode cX8_layBelief 209 = .ok (.iload 4, 2) := by decide +kernel
theorem dX8_layBelief_211 : decode cX8_layBelief 211 = .ok (.iload 5, 2) := by decide +kernel
theorem dX8_layBelief_213 : decode cX8_layBelief 213 = .ok (.if_icmp .gt 8, 3) := by decide +kernel
theorem dX8_layBelief_216 : decode cX8_layBelief 216 = .ok (.iload 5, 2) := by decide +kernel
theorem dX8_layBelief_218 : decode cX8_layBelief 218 = .ok (.goto 7, 3) := by decide +kernel
theorem dX8_layBelief_221 : decode cX8_layBelief 221 = .ok (.aload_n 0, 1) := by decide +kernel
theorem dX8_layBelief_222 : decode cX8_layBelief 222 = .ok (.getfield 191, 3) := by decide +kernel
theorem dX8_layBelief_225 : decode cX8_layBelief 225 = .ok (.putfield 191, 3) := by decide +kernel
theorem dX8_layBelief_228 : decode cX8_layBelief 228 = .ok (.aload_n 0, 1) := by decide +kernel
theorem dX8_layBelief_229 : decode cX8_layBelief 229 = .ok (.iload_n 1, 1) := by decide +kernel
theorem dX8_layBelief_230 : decode cX8_layBelief 230 = .ok (.invokevirtual 197, 3) := by decide +kernel
theorem dX8_layBelief_233 : decode cX8_layBelief 233 = .ok (.istore_n 3, 1) := by decide +kernel
theorem dX8_layBelief_234 : decode cX8_layBelief 234 = .ok (.goto (-118), 3) := by decide +kernel
theorem dX8_layBelief_237 : decode cX8_layBelief 237 = .ok (.return_, 1) := by decide +kernel
theorem dX8_widthOf_0 : decode cX8_widthOf 0 = .ok (.aload_n 0, 1) := by decide +kernel
theorem dX8_widthOf_1 : decode cX8_widthOf 1 = .ok (.iload_n 1, 1) := by decide +kernel
theorem dX8_widthOf_2 : decode cX8_widthOf 2 = .ok (.iload_n 2, 1) := by decide +kernel
theorem dX8_widthOf_3 : decode cX8_widthOf 3 = .ok (.invokevirtual 203, 3) := by decide +kernel
theorem dX8_widthOf_6 : decode cX8_widthOf 6 = .ok (.aload_n 0, 1) := by decide +kernel
theorem dX8_widthOf_7 : decode cX8_widthOf 7 = .ok (.getfield 191, 3) := by decide +kernel
theorem dX8_widthOf_10 : decode cX8_widthOf 10 = .ok (.aload_n 0, 1) := by decide +kernel
theorem dX8_widthOf_11 : decode cX8_widthOf 11 = .ok (.getfield 188, 3) := by decide +kernel
theorem dX8_widthOf_14 : decode cX8_widthOf 14 = .ok (.isub, 1) := by decide +kernel
theorem dX8_widthOf_15 : decode cX8_widthOf 15 = .ok (.ireturn, 1) := by decide +kernel
theorem dX8_valueOf_0 : decode cX8_valueOf 0 = .ok (.aload_n 0, 1) := by decide +kernel
theorem dX8_valueOf_1 : decode cX8_valueOf 1 = .ok (.iload_n 1, 1) := by decide +kernel
theorem dX8_valueOf_2 : decode cX8_valueOf 2 = .ok (.iload_n 2, 1) := by decide +kernel
theorem dX8_valueOf_3 : decode cX8_valueOf 3 = .ok (.invokevirtual 203, 3) := by decide +kernel
theorem dX8_valueOf_6 : decode cX8_valueOf 6 = .ok (.iload_n 3, 1) := by decide +kernel
theorem dX8_valueOf_7 : decode cX8_valueOf 7 = .ok (.ifCond .ne 10, 3) := by decide +kernel
theorem dX8_valueOf_10 : decode cX8_valueOf 10 = .ok (.aload_n 0, 1) := by decide +kernel
theorem dX8_valueOf_11 : decode cX8_valueOf 11 = .ok (.getfield 191, 3) := by decide +kernel
theorem dX8_valueOf_14 : decode cX8_valueOf 14 = .ok (.goto 24, 3) := by decide +kernel
theorem dX8_valueOf_17 : decode cX8_valueOf 17 = .ok (.iload_n 3, 1) := by decide +kernel
theorem dX8_valueOf_18 : decode cX8_valueOf 18 = .ok (.iconst 1, 1) := by decide +kernel
theorem dX8_valueOf_19 : decode cX8_valueOf 19 = .ok (.if_icmp .ne 10, 3) := by decide +kernel
theorem dX8_valueOf_22 : decode cX8_valueOf 22 = .ok (.aload_n 0, 1) := by decide +kernel
theorem dX8_valueOf_23 : decode cX8_valueOf 23 = .ok (.getfield 188, 3) := by decide +kernel
theorem dX8_valueOf_26 : decode cX8_valueOf 26 = .ok (.goto 12, 3) := by decide +kernel
theorem dX8_valueOf_29 : decode cX8_valueOf 29 = .ok (.aload_n 0, 1) := by decide +kernel
theorem dX8_valueOf_30 : decode cX8_valueOf 30 = .ok (.getfield 188, 3) := by decide +kernel
theorem dX8_valueOf_33 : decode cX8_valueOf 33 = .ok (.aload_n 0, 1) := by decide +kernel
theorem dX8_valueOf_34 : decode cX8_valueOf 34 = .ok (.getfield 191, 3) := by decide +kernel
theorem dX8_valueOf_37 : decode cX8_valueOf 37 = .ok (.iadd, 1) := by decide +kernel
theorem dX8_valueOf_38 : decode cX8_valueOf 38 = .ok (.ireturn, 1) := by decide +kernel
theorem dX8_bestOf_0 : decode cX8_bestOf 0 = .ok (.iconst (-1), 1) := by decide +kernel
theorem dX8_bestOf_1 : decode cX8_bestOf 1 = .ok (.istore_n 3, 1) := by decide +kernel
theorem dX8_bestOf_2 : decode cX8_bestOf 2 = .ok (.iconst 0, 1) := by decide +kernel
theorem dX8_bestOf_3 : decode cX8_bestOf 3 = .ok (.istore 4, 2) := by decide +kernel
theorem dX8_bestOf_5 : decode cX8_bestOf 5 = .ok (.iconst 0, 1) := by decide +kernel
theorem dX8_bestOf_6 : decode cX8_bestOf 6 = .ok (.istore 5, 2) := by decide +kernel
theorem dX8_bestOf_8 : decode cX8_bestOf 8 = .ok (.iload 5, 2) := by decide +kernel
theorem dX8_bestOf_10 : decode cX8_bestOf 10 = .ok (.aload_n 0, 1) := by decide +kernel
theorem dX8_bestOf_11 : decode cX8_bestOf 11 = .ok (.invokevirtual 74, 3) := by decide +kernel
theorem dX8_bestOf_14 : decode cX8_bestOf 14 = .ok (.if_icmp .ge 41, 3) := by decide +kernel
theorem dX8_bestOf_17 : decode cX8_bestOf 17 = .ok (.aload_n 0, 1) := by decide +kernel
theorem dX8_bestOf_18 : decode cX8_bestOf 18 = .ok (.iload_n 1, 1) := by decide +kernel
theorem dX8_bestOf_19 : decode cX8_bestOf 19 = .ok (.iload 5, 2) := by decide +kernel
theorem dX8_bestOf_21 : decode cX8_bestOf 21 = .ok (.iload_n 2, 1) := by decide +kernel
theorem dX8_bestOf_22 : decode cX8_bestOf 22 = .ok (.invokevirtual 206, 3) := by decide +kernel
theorem dX8_bestOf_25 : decode cX8_bestOf 25 = .ok (.istore 6, 2) := by decide +kernel
theorem dX8_bestOf_27 : decode cX8_bestOf 27 = .ok (.iload_n 3, 1) := by decide +kernel
theorem dX8_bestOf_28 : decode cX8_bestOf 28 = .ok (.iconst (-1), 1) := by decide +kernel
theorem dX8_bestOf_29 : decode cX8_bestOf 29 = .ok (.if_icmp .eq 13, 3) := by decide +kernel
theorem dX8_bestOf_32 : decode cX8_bestOf 32 = .ok (.iload 6, 2) := by decide +kernel
theorem dX8_bestOf_34 : decode cX8_bestOf 34 = .ok (.iload 4, 2) := by decide +kernel
theorem dX8_bestOf_36 : decode cX8_bestOf 36 = .ok (.if_icmp .lt 6, 3) := by decide +kernel
theorem dX8_bestOf_39 : decode cX8_bestOf 39 = .ok (.goto 10, 3) := by decide +kernel
theorem dX8_bestOf_42 : decode cX8_bestOf 42 = .ok (.iload 5, 2) := by decide +kernel
theorem dX8_bestOf_44 : decode cX8_bestOf 44 = .ok (.istore_n 3, 1) := by decide +kernel
theorem dX8_bestOf_45 : decode cX8_bestOf 45 = .ok (.iload 6, 2) := by decide +kernel
theorem dX8_bestOf_47 : decode cX8_bestOf 47 = .ok (.istore 4, 2) := by decide +kernel
theorem dX8_bestOf_49 : decode cX8_bestOf 49 = .ok (.iinc 5 1, 3) := by decide +kernel
theorem dX8_bestOf_52 : decode cX8_bestOf 52 = .ok (.goto (-44), 3) := by decide +kernel
theorem dX8_bestOf_55 : decode cX8_bestOf 55 = .ok (.iload_n 3, 1) := by decide +kernel
theorem dX8_bestOf_56 : decode cX8_bestOf 56 = .ok (.ireturn, 1) := by decide +kernel
theorem dX8_rivalsOf_0 : decode cX8_rivalsOf 0 = .ok (.aload_n 0, 1) := by decide +kernel
theorem dX8_rivalsOf_1 : decode cX8_rivalsOf 1 = .ok (.iload_n 1, 1) := by decide +kernel
theorem dX8_rivalsOf_2 : decode cX8_rivalsOf 2 = .ok (.iconst 0, 1) := by decide +kernel
theorem dX8_rivalsOf_3 : decode cX8_rivalsOf 3 = .ok (.invokevirtual 209, 3) := by decide +kernel
theorem dX8_rivalsOf_6 : decode cX8_rivalsOf 6 = .ok (.istore_n 2, 1) := by decide +kernel
theorem dX8_rivalsOf_7 : decode cX8_rivalsOf 7 = .ok (.iconst 0, 1) := by decide +kernel
theorem dX8_rivalsOf_8 : decode cX8_rivalsOf 8 = .ok (.istore_n 3, 1) := by decide +kernel
theorem dX8_rivalsOf_9 : decode cX8_rivalsOf 9 = .ok (.iconst 0, 1) := by decide +kernel
theorem dX8_rivalsOf_10 : decode cX8_rivalsOf 10 = .ok (.istore 4, 2) := by decide +kernel
theorem dX8_rivalsOf_12 : decode cX8_rivalsOf 12 = .ok (.iload 4, 2) := by decide +kernel
theorem dX8_rivalsOf_14 : decode cX8_rivalsOf 14 = .ok (.aload_n 0, 1) := by decide +kernel
theorem dX8_rivalsOf_15 : decode cX8_rivalsOf 15 = .ok (.invokevirtual 74, 3) := by decide +kernel
theorem dX8_rivalsOf_18 : decode cX8_rivalsOf 18 = .ok (.if_icmp .ge 44, 3) := by decide +kernel
theorem dX8_rivalsOf_21 : decode cX8_rivalsOf 21 = .ok (.iload_n 3, 1) := by decide +kernel
theorem dX8_rivalsOf_22 : decode cX8_rivalsOf 22 = .ok (.iload 4, 2) := by decide +kernel
theorem dX8_rivalsOf_24 : decode cX8_rivalsOf 24 = .ok (.iload_n 2, 1) := by decide +kernel
theorem dX8_rivalsOf_25 : decode cX8_rivalsOf 25 = .ok (.if_icmp .eq 28, 3) := by decide +kernel
theorem dX8_rivalsOf_28 : decode cX8_rivalsOf 28 = .ok (.aload_n 0, 1) := by decide +kernel
theorem dX8_rivalsOf_29 : decode cX8_rivalsOf 29 = .ok (.iload_n 1, 1) := by decide +kernel
theorem dX8_rivalsOf_30 : decode cX8_rivalsOf 30 = .ok (.iload 4, 2) := by decide +kernel
theorem dX8_rivalsOf_32 : decode cX8_rivalsOf 32 = .ok (.iconst 1, 1) := by decide +kernel
theorem dX8_rivalsOf_33 : decode cX8_rivalsOf 33 = .ok (.invokevirtual 206, 3) := by decide +kernel
theorem dX8_rivalsOf_36 : decode cX8_rivalsOf 36 = .ok (.aload_n 0, 1) := by decide +kernel
theorem dX8_rivalsOf_37 : decode cX8_rivalsOf 37 = .ok (.iload_n 1, 1) := by decide +kernel
theorem dX8_rivalsOf_38 : decode cX8_rivalsOf 38 = .ok (.iload_n 2, 1) := by decide +kernel
theorem dX8_rivalsOf_39 : decode cX8_rivalsOf 39 = .ok (.iconst 0, 1) := by decide +kernel
theorem dX8_rivalsOf_40 : decode cX8_rivalsOf 40 = .ok (.invokevirtual 206, 3) := by decide +kernel
theorem dX8_rivalsOf_43 : decode cX8_rivalsOf 43 = .ok (.if_icmp .ge 10, 3) := by decide +kernel
theorem dX8_rivalsOf_46 : decode cX8_rivalsOf 46 = .ok (.iconst 1, 1) := by decide +kernel
theorem dX8_rivalsOf_47 : decode cX8_rivalsOf 47 = .ok (.iload 4, 2) := by decide +kernel
theorem dX8_rivalsOf_49 : decode cX8_rivalsOf 49 = .ok (.ishl, 1) := by decide +kernel
theorem dX8_rivalsOf_50 : decode cX8_rivalsOf 50 = .ok (.goto 4, 3) := by decide +kernel
theorem dX8_rivalsOf_53 : decode cX8_rivalsOf 53 = .ok (.iconst 0, 1) := by decide +kernel
theorem dX8_rivalsOf_54 : decode cX8_rivalsOf 54 = .ok (.ior, 1) := by decide +kernel
theorem dX8_rivalsOf_55 : decode cX8_rivalsOf 55 = .ok (.istore_n 3, 1) := by decide +kernel
theorem dX8_rivalsOf_56 : decode cX8_rivalsOf 56 = .ok (.iinc 4 1, 3) := by decide +kernel
theorem dX8_rivalsOf_59 : decode cX8_rivalsOf 59 = .ok (.goto (-47), 3) := by decide +kernel
theorem dX8_rivalsOf_62 : decode cX8_rivalsOf 62 = .ok (.iload_n 3, 1) := by decide +kernel
theorem dX8_rivalsOf_63 : decode cX8_rivalsOf 63 = .ok (.ireturn, 1) := by decide +kernel
theorem dX8_originsWith_0 : decode cX8_originsWith 0 = .ok (.aload_n 0, 1) := by decide +kernel
theorem dX8_originsWith_1 : decode cX8_originsWith 1 = .ok (.iload_n 1, 1) := by decide +kernel
theorem dX8_originsWith_2 : decode cX8_originsWith 2 = .ok (.iload_n 2, 1) := by decide +kernel
theorem dX8_originsWith_3 : decode cX8_originsWith 3 = .ok (.invokevirtual 203, 3) := by decide +kernel
theorem dX8_originsWith_6 : decode cX8_originsWith 6 = .ok (.iconst 0, 1) := by decide +kernel
theorem dX8_originsWith_7 : decode cX8_originsWith 7 = .ok (.istore 4, 2) := by decide +kernel
theorem dX8_originsWith_9 : decode cX8_originsWith 9 = .ok (.iconst 0, 1) := by decide +kernel
theorem dX8_originsWith_10 : decode cX8_originsWith 10 = .ok (.istore 5, 2) := by decide +kernel
theorem dX8_originsWith_12 : decode cX8_originsWith 12 = .ok (.iload 5, 2) := by decide +kernel
theorem dX8_originsWith_14 : decode cX8_originsWith 14 = .ok (.aload_n 0, 1) := by decide +kernel
theorem dX8_originsWith_15 : decode cX8_originsWith 15 = .ok (.iload_n 1, 1) := by decide +kernel
theorem dX8_originsWith_16 : decode cX8_originsWith 16 = .ok (.invokevirtual 92, 3) := by decide +kernel
theorem dX8_originsWith_19 : decode cX8_originsWith 19 = .ok (.if_icmp .ge 39, 3) := by decide +kernel
theorem dX8_originsWith_22 : decode cX8_originsWith 22 = .ok (.iload 4, 2) := by decide +kernel
theorem dX8_originsWith_24 : decode cX8_originsWith 24 = .ok (.aload_n 0, 1) := by decide +kernel
theorem dX8_originsWith_25 : decode cX8_originsWith 25 = .ok (.getfield 30, 3) := by decide +kernel
theorem dX8_originsWith_28 : decode cX8_originsWith 28 = .ok (.iload 5, 2) := by decide +kernel
theorem dX8_originsWith_30 : decode cX8_originsWith 30 = .ok (.iaload, 1) := by decide +kernel
theorem dX8_originsWith_31 : decode cX8_originsWith 31 = .ok (.iload_n 3, 1) := by decide +kernel
theorem dX8_originsWith_32 : decode cX8_originsWith 32 = .ok (.if_icmp .ne 16, 3) := by decide +kernel
theorem dX8_originsWith_35 : decode cX8_originsWith 35 = .ok (.iconst 1, 1) := by decide +kernel
theorem dX8_originsWith_36 : decode cX8_originsWith 36 = .ok (.aload_n 0, 1) := by decide +kernel
theorem dX8_originsWith_37 : decode cX8_originsWith 37 = .ok (.iload_n 1, 1) := by decide +kernel
theorem dX8_originsWith_38 : decode cX8_originsWith 38 = .ok (.iload 5, 2) := by decide +kernel
theorem dX8_originsWith_40 : decode cX8_originsWith 40 = .ok (.iconst 0, 1) := by decide +kernel
theorem dX8_originsWith_41 : decode cX8_originsWith 41 = .ok (.invokevirtual 95, 3) := by decide +kernel
theorem dX8_originsWith_44 : decode cX8_originsWith 44 = .ok (.ishl, 1) := by decide +kernel
theorem dX8_originsWith_45 : decode cX8_originsWith 45 = .ok (.goto 4, 3) := by decide +kernel
theorem dX8_originsWith_48 : decode cX8_originsWith 48 = .ok (.iconst 0, 1) := by decide +kernel
theorem dX8_originsWith_49 : decode cX8_originsWith 49 = .ok (.ior, 1) := by decide +kernel
theorem dX8_originsWith_50 : decode cX8_originsWith 50 = .ok (.istore 4, 2) := by decide +kernel
theorem dX8_originsWith_52 : decode cX8_originsWith 52 = .ok (.iinc 5 1, 3) := by decide +kernel
theorem dX8_originsWith_55 : decode cX8_originsWith 55 = .ok (.goto (-43), 3) := by decide +kernel
theorem dX8_originsWith_58 : decode cX8_originsWith 58 = .ok (.iload 4, 2) := by decide +kernel
theorem dX8_originsWith_60 : decode cX8_originsWith 60 = .ok (.ireturn, 1) := by decide +kernel
theorem dX8_keepAside_0 : decode cX8_keepAside 0 = .ok (.iconst 0, 1) := by decide +kernel
theorem dX8_keepAside_1 : decode cX8_keepAside 1 = .ok (.istore_n 1, 1) := by decide +kernel
theorem dX8_keepAside_2 : decode cX8_keepAside 2 = .ok (.iload_n 1, 1) := by decide +kernel
theorem dX8_keepAside_3 : decode cX8_keepAside 3 = .ok (.sipush 2405, 3) := by decide +kernel
theorem dX8_keepAside_6 : decode cX8_keepAside 6 = .ok (.if_icmp .ge 21, 3) := by decide +kernel
theorem dX8_keepAside_9 : decode cX8_keepAside 9 = .ok (.aload_n 0, 1) := by decide +kernel
theorem dX8_keepAside_10 : decode cX8_keepAside 10 = .ok (.getfield 37, 3) := by decide +kernel
theorem dX8_keepAside_13 : decode cX8_keepAside 13 = .ok (.iload_n 1, 1) := by decide +kernel
theorem dX8_keepAside_14 : decode cX8_keepAside 14 = .ok (.aload_n 0, 1) := by decide +kernel
theorem dX8_keepAside_15 : decode cX8_keepAside 15 = .ok (.getfield 17, 3) := by decide +kernel
theorem dX8_keepAside_18 : decode cX8_keepAside 18 = .ok (.iload_n 1, 1) := by decide +kernel
theorem dX8_keepAside_19 : decode cX8_keepAside 19 = .ok (.iaload, 1) := by decide +kernel
theorem dX8_keepAside_20 : decode cX8_keepAside 20 = .ok (.iastore, 1) := by decide +kernel
theorem dX8_keepAside_21 : decode cX8_keepAside 21 = .ok (.iinc 1 1, 3) := by decide +kernel
theorem dX8_keepAside_24 : decode cX8_keepAside 24 = .ok (.goto (-22), 3) := by decide +kernel
theorem dX8_keepAside_27 : decode cX8_keepAside 27 = .ok (.return_, 1) := by decide +kernel
theorem dX8_layBack_0 : decode cX8_layBack 0 = .ok (.iconst 0, 1) := by decide +kernel
theorem dX8_layBack_1 : decode cX8_layBack 1 = .ok (.istore_n 2, 1) := by decide +kernel
theorem dX8_layBack_2 : decode cX8_layBack 2 = .ok (.iload_n 2, 1) := by decide +kernel
theorem dX8_layBack_3 : decode cX8_layBack 3 = .ok (.sipush 2405, 3) := by decide +kernel
theorem dX8_layBack_6 : decode cX8_layBack 6 = .ok (.if_icmp .ge 21, 3) := by decide +kernel
theorem dX8_layBack_9 : decode cX8_layBack 9 = .ok (.aload_n 0, 1) := by decide +kernel
theorem dX8_layBack_10 : decode cX8_layBack 10 = .ok (.getfield 17, 3) := by decide +kernel
theorem dX8_layBack_13 : decode cX8_layBack 13 = .ok (.iload_n 2, 1) := by decide +kernel
theorem dX8_layBack_14 : decode cX8_layBack 14 = .ok (.aload_n 0, 1) := by decide +kernel
theorem dX8_layBack_15 : decode cX8_layBack 15 = .ok (.getfield 37, 3) := by decide +kernel
theorem dX8_layBack_18 : decode cX8_layBack 18 = .ok (.iload_n 2, 1) := by decide +kernel
theorem dX8_layBack_19 : decode cX8_layBack 19 = .ok (.iaload, 1) := by decide +kernel
theorem dX8_layBack_20 : decode cX8_layBack 20 = .ok (.iastore, 1) := by decide +kernel
theorem dX8_layBack_21 : decode cX8_layBack 21 = .ok (.iinc 2 1, 3) := by decide +kernel
theorem dX8_layBack_24 : decode cX8_layBack 24 = .ok (.goto (-22), 3) := by decide +kernel
theorem dX8_layBack_27 : decode cX8_layBack 27 = .ok (.iload_n 1, 1) := by decide +kernel
theorem dX8_layBack_28 : decode cX8_layBack 28 = .ok (.ireturn, 1) := by decide +kernel
theorem dX8_appendFour_0 : decode cX8_appendFour 0 = .ok (.bipush 24, 2) := by decide +kernel
theorem dX8_appendFour_2 : decode cX8_appendFour 2 = .ok (.istore_n 2, 1) := by decide +kernel
theorem dX8_appendFour_3 : decode cX8_appendFour 3 = .ok (.iload_n 2, 1) := by decide +kernel
theorem dX8_appendFour_4 : decode cX8_appendFour 4 = .ok (.ifCond .lt 32, 3) := by decide +kernel
theorem dX8_appendFour_7 : decode cX8_appendFour 7 = .ok (.aload_n 0, 1) := by decide +kernel
theorem dX8_appendFour_8 : decode cX8_appendFour 8 = .ok (.getfield 40, 3) := by decide +kernel
theorem dX8_appendFour_11 : decode cX8_appendFour 11 = .ok (.aload_n 0, 1) := by decide +kernel
theorem dX8_appendFour_12 : decode cX8_appendFour 12 = .ok (.getfield 212, 3) := by decide +kernel
theorem dX8_appendFour_15 : decode cX8_appendFour 15 = .ok (.iload_n 1, 1) := by decide +kernel
theorem dX8_appendFour_16 : decode cX8_appendFour 16 = .ok (.iload_n 2, 1) := by decide +kernel
theorem dX8_appendFour_17 : decode cX8_appendFour 17 = .ok (.ishr, 1) := by decide +kernel
theorem dX8_appendFour_18 : decode cX8_appendFour 18 = .ok (.i2b, 1) := by decide +kernel
theorem dX8_appendFour_19 : decode cX8_appendFour 19 = .ok (.bastore, 1) := by decide +kernel
theorem dX8_appendFour_20 : decode cX8_appendFour 20 = .ok (.aload_n 0, 1) := by decide +kernel
theorem dX8_appendFour_21 : decode cX8_appendFour 21 = .ok (.dup, 1) := by decide +kernel
theorem dX8_appendFour_22 : decode cX8_appendFour 22 = .ok (.getfield 212, 3) := by decide +kernel
theorem dX8_appendFour_25 : decode cX8_appendFour 25 = .ok (.iconst 1, 1) := by decide +kernel
theorem dX8_appendFour_26 : decode cX8_appendFour 26 = .ok (.iadd, 1) := by decide +kernel
theorem dX8_appendFour_27 : decode cX8_appendFour 27 = .ok (.putfield 212, 3) := by decide +kernel
theorem dX8_appendFour_30 : decode cX8_appendFour 30 = .ok (.iinc 2 (-8), 3) := by decide +kernel
theorem dX8_appendFour_33 : decode cX8_appendFour 33 = .ok (.goto (-30), 3) := by decide +kernel
theorem dX8_appendFour_36 : decode cX8_appendFour 36 = .ok (.return_, 1) := by decide +kernel
theorem dX8_append_0 : decode cX8_append 0 = .ok (.aload_n 0, 1) := by decide +kernel
theorem dX8_append_1 : decode cX8_append 1 = .ok (.aload_n 0, 1) := by decide +kernel
theorem dX8_append_2 : decode cX8_append 2 = .ok (.getfield 212, 3) := by decide +kernel
theorem dX8_append_5 : decode cX8_append 5 = .ok (.bipush 20, 2) := by decide +kernel
theorem dX8_append_7 : decode cX8_append 7 = .ok (.iadd, 1) := by decide +kernel
theorem dX8_append_8 : decode cX8_append 8 = .ok (.sipush 600, 3) := by decide +kernel
theorem dX8_append_11 : decode cX8_append 11 = .ok (.if_icmp .gt 7, 3) := by decide +kernel
theorem dX8_append_14 : decode cX8_append 14 = .ok (.iconst 1, 1) := by decide +kernel
theorem dX8_append_15 : decode cX8_append 15 = .ok (.goto 4, 3) := by decide +kernel
theorem dX8_append_18 : decode cX8_append 18 = .ok (.iconst 0, 1) := by decide +kernel
theorem dX8_append_19 : decode cX8_append 19 = .ok (.invokevirtual 215, 3) := by decide +kernel
theorem dX8_append_22 : decode cX8_append 22 = .ok (.ifCond .ne 5, 3) := by decide +kernel
theorem dX8_append_25 : decode cX8_append 25 = .ok (.iconst 0, 1) := by decide +kernel
theorem dX8_append_26 : decode cX8_append 26 = .ok (.ireturn, 1) := by decide +kernel
theorem dX8_append_27 : decode cX8_append 27 = .ok (.aload_n 0, 1) := by decide +kernel
theorem dX8_append_28 : decode cX8_append 28 = .ok (.iload_n 1, 1) := by decide +kernel
theorem dX8_append_29 : decode cX8_append 29 = .ok (.invokevirtual 219, 3) := by decide +kernel
theorem dX8_append_32 : decode cX8_append 32 = .ok (.aload_n 0, 1) := by decide +kernel
theorem dX8_append_33 : decode cX8_append 33 = .ok (.iload_n 2, 1) := by decide +kernel
theorem dX8_append_34 : decode cX8_append 34 = .ok (.invokevirtual 219, 3) := by decide +kernel
theorem dX8_append_37 : decode cX8_append 37 = .ok (.aload_n 0, 1) := by decide +kernel
theorem dX8_append_38 : decode cX8_append 38 = .ok (.iload_n 3, 1) := by decide +kernel
theorem dX8_append_39 : decode cX8_append 39 = .ok (.invokevirtual 219, 3) := by decide +kernel
theorem dX8_append_42 : decode cX8_append 42 = .ok (.aload_n 0, 1) := by decide +kernel
theorem dX8_append_43 : decode cX8_append 43 = .ok (.iload 4, 2) := by decide +kernel
theorem dX8_append_45 : decode cX8_append 45 = .ok (.invokevirtual 219, 3) := by decide +kernel
theorem dX8_append_48 : decode cX8_append 48 = .ok (.aload_n 0, 1) := by decide +kernel
theorem dX8_append_49 : decode cX8_append 49 = .ok (.iload 5, 2) := by decide +kernel
theorem dX8_append_51 : decode cX8_append 51 = .ok (.invokevirtual 219, 3) := by decide +kernel
theorem dX8_append_54 : decode cX8_append 54 = .ok (.aload_n 0, 1) := by decide +kernel
theorem dX8_append_55 : decode cX8_append 55 = .ok (.getfield 212, 3) := by decide +kernel
theorem dX8_append_58 : decode cX8_append 58 = .ok (.ireturn, 1) := by decide +kernel
theorem dX8_truncate_0 : decode cX8_truncate 0 = .ok (.aload_n 0, 1) := by decide +kernel
theorem dX8_truncate_1 : decode cX8_truncate 1 = .ok (.iload_n 1, 1) := by decide +kernel
theorem dX8_truncate_2 : decode cX8_truncate 2 = .ok (.i2l, 1) := by decide +kernel
theorem dX8_truncate_3 : decode cX8_truncate 3 = .ok (.lconst 0, 1) := by decide +kernel
theorem dX8_truncate_4 : decode cX8_truncate 4 = .ok (.aload_n 0, 1) := by decide +kernel
theorem dX8_truncate_5 : decode cX8_truncate 5 = .ok (.getfield 212, 3) := by decide +kernel
theorem dX8_truncate_8 : decode cX8_truncate 8 = .ok (.i2l, 1) := by decide +kernel
theorem dX8_truncate_9 : decode cX8_truncate 9 = .ok (.invokestatic 70, 3) := by decide +kernel
theorem dX8_truncate_12 : decode cX8_truncate 12 = .ok (.invokevirtual 215, 3) := by decide +kernel
theorem dX8_truncate_15 : decode cX8_truncate 15 = .ok (.ifCond .eq 8, 3) := by decide +kernel
theorem dX8_truncate_18 : decode cX8_truncate 18 = .ok (.aload_n 0, 1) := by decide +kernel
theorem dX8_truncate_19 : decode cX8_truncate 19 = .ok (.iload_n 1, 1) := by decide +kernel
theorem dX8_truncate_20 : decode cX8_truncate 20 = .ok (.putfield 212, 3) := by decide +kernel
theorem dX8_truncate_23 : decode cX8_truncate 23 = .ok (.return_, 1) := by decide +kernel
theorem dX8_good_0 : decode cX8_good 0 = .ok (.aload_n 0, 1) := by decide +kernel
theorem dX8_good_1 : decode cX8_good 1 = .ok (.getfield 223, 3) := by decide +kernel
theorem dX8_good_4 : decode cX8_good 4 = .ok (.ifCond .ne 7, 3) := by decide +kernel
theorem dX8_good_7 : decode cX8_good 7 = .ok (.iconst 1, 1) := by decide +kernel
theorem dX8_good_8 : decode cX8_good 8 = .ok (.goto 4, 3) := by decide +kernel
theorem dX8_good_11 : decode cX8_good 11 = .ok (.iconst 0, 1) := by decide +kernel
theorem dX8_good_12 : decode cX8_good 12 = .ok (.ireturn, 1) := by decide +kernel
theorem dX8_errs_0 : decode cX8_errs 0 = .ok (.aload_n 0, 1) := by decide +kernel
theorem dX8_errs_1 : decode cX8_errs 1 = .ok (.invokevirtual 226, 3) := by decide +kernel
theorem dX8_errs_4 : decode cX8_errs 4 = .ok (.ifCond .ne 4, 3) := by decide +kernel
theorem dX8_errs_7 : decode cX8_errs 7 = .ok (.return_, 1) := by decide +kernel
theorem dX8_errs_8 : decode cX8_errs 8 = .ok (.aload_n 0, 1) := by decide +kernel
theorem dX8_errs_9 : decode cX8_errs 9 = .ok (.iload_n 1, 1) := by decide +kernel
theorem dX8_errs_10 : decode cX8_errs 10 = .ok (.putfield 223, 3) := by decide +kernel
theorem dX8_errs_13 : decode cX8_errs 13 = .ok (.aload_n 0, 1) := by decide +kernel
theorem dX8_errs_14 : decode cX8_errs 14 = .ok (.aload_n 0, 1) := by decide +kernel
theorem dX8_errs_15 : decode cX8_errs 15 = .ok (.getfield 229, 3) := by decide +kernel
theorem dX8_errs_18 : decode cX8_errs 18 = .ok (.putfield 44, 3) := by decide +kernel
theorem dX8_errs_21 : decode cX8_errs 21 = .ok (.return_, 1) := by decide +kernel
theorem dX8_byteAt_0 : decode cX8_byteAt 0 = .ok (.iload_n 1, 1) := by decide +kernel
theorem dX8_byteAt_1 : decode cX8_byteAt 1 = .ok (.aload_n 0, 1) := by decide +kernel
theorem dX8_byteAt_2 : decode cX8_byteAt 2 = .ok (.getfield 232, 3) := by decide +kernel
theorem dX8_byteAt_5 : decode cX8_byteAt 5 = .ok (.if_icmp .ge 16, 3) := by decide +kernel
theorem dX8_byteAt_8 : decode cX8_byteAt 8 = .ok (.aload_n 0, 1) := by decide +kernel
theorem dX8_byteAt_9 : decode cX8_byteAt 9 = .ok (.getfield 40, 3) := by decide +kernel
theorem dX8_byteAt_12 : decode cX8_byteAt 12 = .ok (.iload_n 1, 1) := by decide +kernel
theorem dX8_byteAt_13 : decode cX8_byteAt 13 = .ok (.baload, 1) := by decide +kernel
theorem dX8_byteAt_14 : decode cX8_byteAt 14 = .ok (.sipush 255, 3) := by decide +kernel
theorem dX8_byteAt_17 : decode cX8_byteAt 17 = .ok (.iand, 1) := by decide +kernel
theorem dX8_byteAt_18 : decode cX8_byteAt 18 = .ok (.goto 4, 3) := by decide +kernel
theorem dX8_byteAt_21 : decode cX8_byteAt 21 = .ok (.iconst (-1), 1) := by decide +kernel
theorem dX8_byteAt_22 : decode cX8_byteAt 22 = .ok (.ireturn, 1) := by decide +kernel
theorem dX8_scan_0 : decode cX8_scan 0 = .ok (.aload_n 0, 1) := by decide +kernel
theorem dX8_scan_1 : decode cX8_scan 1 = .ok (.aload_n 0, 1) := by decide +kernel
theorem dX8_scan_2 : decode cX8_scan 2 = .ok (.getfield 235, 3) := by decide +kernel
theorem dX8_scan_5 : decode cX8_scan 5 = .ok (.invokevirtual 238, 3) := by decide +kernel
theorem dX8_scan_8 : decode cX8_scan 8 = .ok (.bipush 32, 2) := by decide +kernel
theorem dX8_scan_10 : decode cX8_scan 10 = .ok (.if_icmp .eq 16, 3) := by decide +kernel
theorem dX8_scan_13 : decode cX8_scan 13 = .ok (.aload_n 0, 1) := by decide +kernel
theorem dX8_scan_14 : decode cX8_scan 14 = .ok (.aload_n 0, 1) := by decide +kernel
theorem dX8_scan_15 : decode cX8_scan 15 = .ok (.getfield 235, 3) := by decide +kernel
theorem dX8_scan_18 : decode cX8_scan 18 = .ok (.invokevirtual 238, 3) := by decide +kernel
theorem dX8_scan_21 : decode cX8_scan 21 = .ok (.bipush 10, 2) := by decide +kernel
theorem dX8_scan_23 : decode cX8_scan 23 = .ok (.if_icmp .ne 16, 3) := by decide +kernel
theorem dX8_scan_26 : decode cX8_scan 26 = .ok (.aload_n 0, 1) := by decide +kernel
theorem dX8_scan_27 : decode cX8_scan 27 = .ok (.dup, 1) := by decide +kernel
theorem dX8_scan_28 : decode cX8_scan 28 = .ok (.getfield 235, 3) := by decide +kernel
theorem dX8_scan_31 : decode cX8_scan 31 = .ok (.iconst 1, 1) := by decide +kernel
theorem dX8_scan_32 : decode cX8_scan 32 = .ok (.iadd, 1) := by decide +kernel
theorem dX8_scan_33 : decode cX8_scan 33 = .ok (.putfield 235, 3) := by decide +kernel
theorem dX8_scan_36 : decode cX8_scan 36 = .ok (.goto (-36), 3) := by decide +kernel
theorem dX8_scan_39 : decode cX8_scan 39 = .ok (.aload_n 0, 1) := by decide +kernel
theorem dX8_scan_40 : decode cX8_scan 40 = .ok (.aload_n 0, 1) := by decide +kernel
theorem dX8_scan_41 : decode cX8_scan 41 = .ok (.getfield 235, 3) := by decide +kernel
theorem dX8_scan_44 : decode cX8_scan 44 = .ok (.putfield 229, 3) := by decide +kernel
theorem dX8_scan_47 : decode cX8_scan 47 = .ok (.aload_n 0, 1) := by decide +kernel
theorem dX8_scan_48 : decode cX8_scan 48 = .ok (.aload_n 0, 1) := by decide +kernel
theorem dX8_scan_49 : decode cX8_scan 49 = .ok (.getfield 235, 3) := by decide +kernel
theorem dX8_scan_52 : decode cX8_scan 52 = .ok (.invokevirtual 238, 3) := by decide +kernel
theorem dX8_scan_55 : decode cX8_scan 55 = .ok (.istore_n 1, 1) := by decide +kernel
theorem dX8_scan_56 : decode cX8_scan 56 = .ok (.iload_n 1, 1) := by decide +kernel
theorem dX8_scan_57 : decode cX8_scan 57 = .ok (.iconst (-1), 1) := by decide +kernel
theorem dX8_scan_58 : decode cX8_scan 58 = .ok (.if_icmp .ne 11, 3) := by decide +kernel
theorem dX8_scan_61 : decode cX8_scan 61 = .ok (.aload_n 0, 1) := by decide +kernel
theorem dX8_scan_62 : decode cX8_scan 62 = .ok (.iconst 0, 1) := by decide +kernel
theorem dX8_scan_63 : decode cX8_scan 63 = .ok (.putfield 241, 3) := by decide +kernel
theorem dX8_scan_66 : decode cX8_scan 66 = .ok (.goto 169, 3) := by decide +kernel
theorem dX8_scan_69 : decode cX8_scan 69 = .ok (.iload_n 1, 1) := by decide +kernel
theorem dX8_scan_70 : decode cX8_scan 70 = .ok (.i2l, 1) := by decide +kernel
theorem dX8_scan_71 : decode cX8_scan 71 = .ok (.ldc2_w 244, 3) := by decide +kernel
theorem dX8_scan_74 : decode cX8_scan 74 = .ok (.ldc2_w 246, 3) := by decide +kernel
theorem dX8_scan_77 : decode cX8_scan 77 = .ok (.invokestatic 70, 3) := by decide +kernel
theorem dX8_scan_80 : decode cX8_scan 80 = .ok (.ifCond .eq 45, 3) := by decide +kernel
theorem dX8_scan_83 : decode cX8_scan 83 = .ok (.aload_n 0, 1) := by decide +kernel
theorem dX8_scan_84 : decode cX8_scan 84 = .ok (.aload_n 0, 1) := by decide +kernel
theorem dX8_scan_85 : decode cX8_scan 85 = .ok (.getfield 235, 3) := by decide +kernel
theorem dX8_scan_88 : decode cX8_scan 88 = .ok (.invokevirtual 238, 3) := by decide +kernel
theorem dX8_scan_91 : decode cX8_scan 91 = .ok (.i2l, 1) := by decide +kernel
theorem dX8_scan_92 : decode cX8_scan 92 = .ok (.ldc2_w 244, 3) := by decide +kernel
theorem dX8_scan_95 : decode cX8_scan 95 = .ok (.ldc2_w 246, 3) := by decide +kernel
theorem dX8_scan_98 : decode cX8_scan 98 = .ok (.invokestatic 70, 3) := by decide +kernel
theorem dX8_scan_101 : decode cX8_scan 101 = .ok (.ifCond .eq 16, 3) := by decide +kernel
theorem dX8_scan_104 : decode cX8_scan 104 = .ok (.aload_n 0, 1) := by decide +kernel
theorem dX8_scan_105 : decode cX8_scan 105 = .ok (.dup, 1) := by decide +kernel
theorem dX8_scan_106 : decode cX8_scan 106 = .ok (.getfield 235, 3) := by decide +kernel
theorem dX8_scan_109 : decode cX8_scan 109 = .ok (.iconst 1, 1) := by decide +kernel
theorem dX8_scan_110 : decode cX8_scan 110 = .ok (.iadd, 1) := by decide +kernel
theorem dX8_scan_111 : decode cX8_scan 111 = .ok (.putfield 235, 3) := by decide +kernel
theorem dX8_scan_114 : decode cX8_scan 114 = .ok (.goto (-31), 3) := by decide +kernel
theorem dX8_scan_117 : decode cX8_scan 117 = .ok (.aload_n 0, 1) := by decide +kernel
theorem dX8_scan_118 : decode cX8_scan 118 = .ok (.iconst 1, 1) := by decide +kernel
theorem dX8_scan_119 : decode cX8_scan 119 = .ok (.putfield 241, 3) := by decide +kernel
theorem dX8_scan_122 : decode cX8_scan 122 = .ok (.goto 113, 3) := by decide +kernel
theorem dX8_scan_125 : decode cX8_scan 125 = .ok (.iload_n 1, 1) := by decide +kernel
theorem dX8_scan_126 : decode cX8_scan 126 = .ok (.i2l, 1) := by decide +kernel
theorem dX8_scan_127 : decode cX8_scan 127 = .ok (.ldc2_w 248, 3) := by decide +kernel
theorem dX8_scan_130 : decode cX8_scan 130 = .ok (.ldc2_w 250, 3) := by decide +kernel
theorem dX8_scan_133 : decode cX8_scan 133 = .ok (.invokestatic 70, 3) := by decide +kernel
theorem dX8_scan_136 : decode cX8_scan 136 = .ok (.ifCond .eq 79, 3) := by decide +kernel
theorem dX8_scan_139 : decode cX8_scan 139 = .ok (.aload_n 0, 1) := by decide +kernel
theorem dX8_scan_140 : decode cX8_scan 140 = .ok (.iconst 0, 1) := by decide +kernel
theorem dX8_scan_141 : decode cX8_scan 141 = .ok (.putfield 252, 3) := by decide +kernel
theorem dX8_scan_144 : decode cX8_scan 144 = .ok (.aload_n 0, 1) := by decide +kernel
theorem dX8_scan_145 : decode cX8_scan 145 = .ok (.aload_n 0, 1) := by decide +kernel
theorem dX8_scan_146 : decode cX8_scan 146 = .ok (.getfield 235, 3) := by decide +kernel
theorem dX8_scan_149 : decode cX8_scan 149 = .ok (.invokevirtual 238, 3) := by decide +kernel
theorem dX8_scan_152 : decode cX8_scan 152 = .ok (.i2l, 1) := by decide +kernel
theorem dX8_scan_153 : decode cX8_scan 153 = .ok (.ldc2_w 248, 3) := by decide +kernel
theorem dX8_scan_156 : decode cX8_scan 156 = .ok (.ldc2_w 250, 3) := by decide +kernel
theorem dX8_scan_159 : decode cX8_scan 159 = .ok (.invokestatic 70, 3) := by decide +kernel
theorem dX8_scan_162 : decode cX8_scan 162 = .ok (.ifCond .eq 45, 3) := by decide +kernel
theorem dX8_scan_165 : decode cX8_scan 165 = .ok (.aload_n 0, 1) := by decide +kernel
theorem dX8_scan_166 : decode cX8_scan 166 = .ok (.sipush 9999, 3) := by decide +kernel
theorem dX8_scan_169 : decode cX8_scan 169 = .ok (.bipush 10, 2) := by decide +kernel
theorem dX8_scan_171 : decode cX8_scan 171 = .ok (.aload_n 0, 1) := by decide +kernel
theorem dX8_scan_172 : decode cX8_scan 172 = .ok (.getfield 252, 3) := by decide +kernel
theorem dX8_scan_175 : decode cX8_scan 175 = .ok (.imul, 1) := by decide +kernel
theorem dX8_scan_176 : decode cX8_scan 176 = .ok (.aload_n 0, 1) := by decide +kernel
theorem dX8_scan_177 : decode cX8_scan 177 = .ok (.aload_n 0, 1) := by decide +kernel
theorem dX8_scan_178 : decode cX8_scan 178 = .ok (.getfield 235, 3) := by decide +kernel
theorem dX8_scan_181 : decode cX8_scan 181 = .ok (.invokevirtual 238, 3) := by decide +kernel
theorem dX8_scan_184 : decode cX8_scan 184 = .ok (.iadd, 1) := by decide +kernel
theorem dX8_scan_185 : decode cX8_scan 185 = .ok (.bipush 48, 2) := by decide +kernel
theorem dX8_scan_187 : decode cX8_scan 187 = .ok (.isub, 1) := by decide +kernel
theorem dX8_scan_188 : decode cX8_scan 188 = .ok (.invokestatic 107, 3) := by decide +kernel
theorem dX8_scan_191 : decode cX8_scan 191 = .ok (.putfield 252, 3) := by decide +kernel
theorem dX8_scan_194 : decode cX8_scan 194 = .ok (.aload_n 0, 1) := by decide +kernel
theorem dX8_scan_195 : decode cX8_scan 195 = .ok (.dup, 1) := by decide +kernel
theorem dX8_scan_196 : decode cX8_scan 196 = .ok (.getfield 235, 3) := by decide +kernel
theorem dX8_scan_199 : decode cX8_scan 199 = .ok (.iconst 1, 1) := by decide +kernel
theorem dX8_scan_200 : decode cX8_scan 200 = .ok (.iadd, 1) := by decide +kernel
theorem dX8_scan_201 : decode cX8_scan 201 = .ok (.putfield 235, 3) := by decide +kernel
theorem dX8_scan_204 : decode cX8_scan 204 = .ok (.goto (-60), 3) := by decide +kernel
theorem dX8_scan_207 : decode cX8_scan 207 = .ok (.aload_n 0, 1) := by decide +kernel
theorem dX8_scan_208 : decode cX8_scan 208 = .ok (.iconst 2, 1) := by decide +kernel
theorem dX8_scan_209 : decode cX8_scan 209 = .ok (.putfield 241, 3) := by decide +kernel
theorem dX8_scan_212 : decode cX8_scan 212 = .ok (.goto 23, 3) := by decide +kernel
theorem dX8_scan_215 : decode cX8_scan 215 = .ok (.aload_n 0, 1) := by decide +kernel
theorem dX8_scan_216 : decode cX8_scan 216 = .ok (.iconst 3, 1) := by decide +kernel
theorem dX8_scan_217 : decode cX8_scan 217 = .ok (.putfield 241, 3) := by decide +kernel
theorem dX8_scan_220 : decode cX8_scan 220 = .ok (.aload_n 0, 1) := by decide +kernel
theorem dX8_scan_221 : decode cX8_scan 221 = .ok (.iload_n 1, 1) := by decide +kernel
theorem dX8_scan_222 : decode cX8_scan 222 = .ok (.putfield 252, 3) := by decide +kernel
theorem dX8_scan_225 : decode cX8_scan 225 = .ok (.aload_n 0, 1) := by decide +kernel
theorem dX8_scan_226 : decode cX8_scan 226 = .ok (.dup, 1) := by decide +kernel
theorem dX8_scan_227 : decode cX8_scan 227 = .ok (.getfield 235, 3) := by decide +kernel
theorem dX8_scan_230 : decode cX8_scan 230 = .ok (.iconst 1, 1) := by decide +kernel
theorem dX8_scan_231 : decode cX8_scan 231 = .ok (.iadd, 1) := by decide +kernel
theorem dX8_scan_232 : decode cX8_scan 232 = .ok (.putfield 235, 3) := by decide +kernel
theorem dX8_scan_235 : decode cX8_scan 235 = .ok (.return_, 1) := by decide +kernel
theorem dX8_goOn_0 : decode cX8_goOn 0 = .ok (.aload_n 0, 1) := by decide +kernel
theorem dX8_goOn_1 : decode cX8_goOn 1 = .ok (.invokevirtual 226, 3) := by decide +kernel
theorem dX8_goOn_4 : decode cX8_goOn 4 = .ok (.ifCond .eq 7, 3) := by decide +kernel
theorem dX8_goOn_7 : decode cX8_goOn 7 = .ok (.aload_n 0, 1) := by decide +kernel
theorem dX8_goOn_8 : decode cX8_goOn 8 = .ok (.invokevirtual 255, 3) := by decide +kernel
theorem dX8_goOn_11 : decode cX8_goOn 11 = .ok (.return_, 1) := by decide +kernel
theorem dX8_isWord_0 : decode cX8_isWord 0 = .ok (.aload_n 0, 1) := by decide +kernel
theorem dX8_isWord_1 : decode cX8_isWord 1 = .ok (.invokevirtual 226, 3) := by decide +kernel
theorem dX8_isWord_4 : decode cX8_isWord 4 = .ok (.ifCond .eq 31, 3) := by decide +kernel
theorem dX8_isWord_7 : decode cX8_isWord 7 = .ok (.aload_n 0, 1) := by decide +kernel
theorem dX8_isWord_8 : decode cX8_isWord 8 = .ok (.getfield 241, 3) := by decide +kernel
theorem dX8_isWord_11 : decode cX8_isWord 11 = .ok (.iconst 1, 1) := by decide +kernel
theorem dX8_isWord_12 : decode cX8_isWord 12 = .ok (.if_icmp .ne 23, 3) := by decide +kernel
theorem dX8_isWord_15 : decode cX8_isWord 15 = .ok (.aload_n 0, 1) := by decide +kernel
theorem dX8_isWord_16 : decode cX8_isWord 16 = .ok (.getfield 235, 3) := by decide +kernel
theorem dX8_isWord_19 : decode cX8_isWord 19 = .ok (.aload_n 0, 1) := by decide +kernel
theorem dX8_isWord_20 : decode cX8_isWord 20 = .ok (.getfield 229, 3) := by decide +kernel
theorem dX8_isWord_23 : decode cX8_isWord 23 = .ok (.isub, 1) := by decide +kernel
theorem dX8_isWord_24 : decode cX8_isWord 24 = .ok (.aload_n 1, 1) := by decide +kernel
theorem dX8_isWord_25 : decode cX8_isWord 25 = .ok (.invokevirtual 258, 3) := by decide +kernel
theorem dX8_isWord_28 : decode cX8_isWord 28 = .ok (.if_icmp .ne 7, 3) := by decide +kernel
theorem dX8_isWord_31 : decode cX8_isWord 31 = .ok (.iconst 1, 1) := by decide +kernel
theorem dX8_isWord_32 : decode cX8_isWord 32 = .ok (.goto 4, 3) := by decide +kernel
theorem dX8_isWord_35 : decode cX8_isWord 35 = .ok (.iconst 0, 1) := by decide +kernel
theorem dX8_isWord_36 : decode cX8_isWord 36 = .ok (.istore_n 2, 1) := by decide +kernel
theorem dX8_isWord_37 : decode cX8_isWord 37 = .ok (.iconst 0, 1) := by decide +kernel
theorem dX8_isWord_38 : decode cX8_isWord 38 = .ok (.istore_n 3, 1) := by decide +kernel
theorem dX8_isWord_39 : decode cX8_isWord 39 = .ok (.iload_n 3, 1) := by decide +kernel
theorem dX8_isWord_40 : decode cX8_isWord 40 = .ok (.aload_n 1, 1) := by decide +kernel
theorem dX8_isWord_41 : decode cX8_isWord 41 = .ok (.invokevirtual 258, 3) := by decide +kernel
theorem dX8_isWord_44 : decode cX8_isWord 44 = .ok (.if_icmp .ge 38, 3) := by decide +kernel
theorem dX8_isWord_47 : decode cX8_isWord 47 = .ok (.iload_n 2, 1) := by decide +kernel
theorem dX8_isWord_48 : decode cX8_isWord 48 = .ok (.ifCond .eq 34, 3) := by decide +kernel
theorem dX8_isWord_51 : decode cX8_isWord 51 = .ok (.aload_n 0, 1) := by decide +kernel
theorem dX8_isWord_52 : decode cX8_isWord 52 = .ok (.getfield 40, 3) := by decide +kernel
theorem dX8_isWord_55 : decode cX8_isWord 55 = .ok (.aload_n 0, 1) := by decide +kernel
theorem dX8_isWord_56 : decode cX8_isWord 56 = .ok (.getfield 229, 3) := by decide +kernel
theorem dX8_isWord_59 : decode cX8_isWord 59 = .ok (.iload_n 3, 1) := by decide +kernel
theorem dX8_isWord_60 : decode cX8_isWord 60 = .ok (.iadd, 1) := by decide +kernel
theorem dX8_isWord_61 : decode cX8_isWord 61 = .ok (.baload, 1) := by decide +kernel
theorem dX8_isWord_62 : decode cX8_isWord 62 = .ok (.aload_n 1, 1) := by decide +kernel
theorem dX8_isWord_63 : decode cX8_isWord 63 = .ok (.iload_n 3, 1) := by decide +kernel
theorem dX8_isWord_64 : decode cX8_isWord 64 = .ok (.invokevirtual 263, 3) := by decide +kernel
theorem dX8_isWord_67 : decode cX8_isWord 67 = .ok (.if_icmp .ne 7, 3) := by decide +kernel
theorem dX8_isWord_70 : decode cX8_isWord 70 = .ok (.iconst 1, 1) := by decide +kernel
theorem dX8_isWord_71 : decode cX8_isWord 71 = .ok (.goto 4, 3) := by decide +kernel
theorem dX8_isWord_74 : decode cX8_isWord 74 = .ok (.iconst 0, 1) := by decide +kernel
theorem dX8_isWord_75 : decode cX8_isWord 75 = .ok (.istore_n 2, 1) := by decide +kernel
theorem dX8_isWord_76 : decode cX8_isWord 76 = .ok (.iinc 3 1, 3) := by decide +kernel
theorem dX8_isWord_79 : decode cX8_isWord 79 = .ok (.goto (-40), 3) := by decide +kernel
theorem dX8_isWord_82 : decode cX8_isWord 82 = .ok (.iload_n 2, 1) := by decide +kernel
theorem dX8_isWord_83 : decode cX8_isWord 83 = .ok (.ireturn, 1) := by decide +kernel
theorem dX8_number_0 : decode cX8_number 0 = .ok (.aload_n 0, 1) := by decide +kernel
theorem dX8_number_1 : decode cX8_number 1 = .ok (.invokevirtual 226, 3) := by decide +kernel
theorem dX8_number_4 : decode cX8_number 4 = .ok (.ifCond .eq 16, 3) := by decide +kernel
theorem dX8_number_7 : decode cX8_number 7 = .ok (.aload_n 0, 1) := by decide +kernel
theorem dX8_number_8 : decode cX8_number 8 = .ok (.getfield 241, 3) := by decide +kernel
theorem dX8_number_11 : decode cX8_number 11 = .ok (.iconst 2, 1) := by decide +kernel
theorem dX8_number_12 : decode cX8_number 12 = .ok (.if_icmp .eq 8, 3) := by decide +kernel
theorem dX8_number_15 : decode cX8_number 15 = .ok (.aload_n 0, 1) := by decide +kernel
theorem dX8_number_16 : decode cX8_number 16 = .ok (.iconst 1, 1) := by decide +kernel
theorem dX8_number_17 : decode cX8_number 17 = .ok (.invokevirtual 267, 3) := by decide +kernel
theorem dX8_number_20 : decode cX8_number 20 = .ok (.aload_n 0, 1) := by decide +kernel
theorem dX8_number_21 : decode cX8_number 21 = .ok (.invokevirtual 226, 3) := by decide +kernel
theorem dX8_number_24 : decode cX8_number 24 = .ok (.ifCond .eq 23, 3) := by decide +kernel
theorem dX8_number_27 : decode cX8_number 27 = .ok (.aload_n 0, 1) := by decide +kernel
theorem dX8_number_28 : decode cX8_number 28 = .ok (.getfield 252, 3) := by decide +kernel
theorem dX8_number_31 : decode cX8_number 31 = .ok (.i2l, 1) := by decide +kernel
theorem dX8_number_32 : decode cX8_number 32 = .ok (.iload_n 1, 1) := by decide +kernel
theorem dX8_number_33 : decode cX8_number 33 = .ok (.i2l, 1) := by decide +kernel
theorem dX8_number_34 : decode cX8_number 34 = .ok (.iload_n 2, 1) := by decide +kernel
theorem dX8_number_35 : decode cX8_number 35 = .ok (.i2l, 1) := by decide +kernel
theorem dX8_number_36 : decode cX8_number 36 = .ok (.invokestatic 70, 3) := by decide +kernel
theorem dX8_number_39 : decode cX8_number 39 = .ok (.ifCond .ne 8, 3) := by decide +kernel
theorem dX8_number_42 : decode cX8_number 42 = .ok (.aload_n 0, 1) := by decide +kernel
theorem dX8_number_43 : decode cX8_number 43 = .ok (.iconst 2, 1) := by decide +kernel
theorem dX8_number_44 : decode cX8_number 44 = .ok (.invokevirtual 267, 3) := by decide +kernel
theorem dX8_number_47 : decode cX8_number 47 = .ok (.aload_n 0, 1) := by decide +kernel
theorem dX8_number_48 : decode cX8_number 48 = .ok (.invokevirtual 226, 3) := by decide +kernel
theorem dX8_number_51 : decode cX8_number 51 = .ok (.ifCond .eq 10, 3) := by decide +kernel
theorem dX8_number_54 : decode cX8_number 54 = .ok (.aload_n 0, 1) := by decide +kernel
theorem dX8_number_55 : decode cX8_number 55 = .ok (.getfield 252, 3) := by decide +kernel
theorem dX8_number_58 : decode cX8_number 58 = .ok (.goto 4, 3) := by decide +kernel
theorem dX8_number_61 : decode cX8_number 61 = .ok (.iload_n 1, 1) := by decide +kernel
theorem dX8_number_62 : decode cX8_number 62 = .ok (.istore_n 3, 1) := by decide +kernel
theorem dX8_number_63 : decode cX8_number 63 = .ok (.aload_n 0, 1) := by decide +kernel
theorem dX8_number_64 : decode cX8_number 64 = .ok (.invokevirtual 270, 3) := by decide +kernel
theorem dX8_number_67 : decode cX8_number 67 = .ok (.iload_n 3, 1) := by decide +kernel
theorem dX8_number_68 : decode cX8_number 68 = .ok (.ireturn, 1) := by decide +kernel
theorem dX8_numberBehind_0 : decode cX8_numberBehind 0 = .ok (.aload_n 0, 1) := by decide +kernel
theorem dX8_numberBehind_1 : decode cX8_numberBehind 1 = .ok (.aload_n 1, 1) := by decide +kernel
theorem dX8_numberBehind_2 : decode cX8_numberBehind 2 = .ok (.invokevirtual 273, 3) := by decide +kernel
theorem dX8_numberBehind_5 : decode cX8_numberBehind 5 = .ok (.ifCond .ne 8, 3) := by decide +kernel
theorem dX8_numberBehind_8 : decode cX8_numberBehind 8 = .ok (.aload_n 0, 1) := by decide +kernel
theorem dX8_numberBehind_9 : decode cX8_numberBehind 9 = .ok (.iconst 1, 1) := by decide +kernel
theorem dX8_numberBehind_10 : decode cX8_numberBehind 10 = .ok (.invokevirtual 267, 3) := by decide +kernel
theorem dX8_numberBehind_13 : decode cX8_numberBehind 13 = .ok (.aload_n 0, 1) := by decide +kernel
theorem dX8_numberBehind_14 : decode cX8_numberBehind 14 = .ok (.invokevirtual 270, 3) := by decide +kernel
theorem dX8_numberBehind_17 : decode cX8_numberBehind 17 = .ok (.aload_n 0, 1) := by decide +kernel
theorem dX8_numberBehind_18 : decode cX8_numberBehind 18 = .ok (.iload_n 2, 1) := by decide +kernel
theorem dX8_numberBehind_19 : decode cX8_numberBehind 19 = .ok (.iload_n 3, 1) := by decide +kernel
theorem dX8_numberBehind_20 : decode cX8_numberBehind 20 = .ok (.invokevirtual 277, 3) := by decide +kernel
theorem dX8_numberBehind_23 : decode cX8_numberBehind 23 = .ok (.ireturn, 1) := by decide +kernel
theorem dX8_semicolon_0 : decode cX8_semicolon 0 = .ok (.aload_n 0, 1) := by decide +kernel
theorem dX8_semicolon_1 : decode cX8_semicolon 1 = .ok (.invokevirtual 226, 3) := by decide +kernel
theorem dX8_semicolon_4 : decode cX8_semicolon 4 = .ok (.ifCond .eq 25, 3) := by decide +kernel
theorem dX8_semicolon_7 : decode cX8_semicolon 7 = .ok (.aload_n 0, 1) := by decide +kernel
theorem dX8_semicolon_8 : decode cX8_semicolon 8 = .ok (.getfield 241, 3) := by decide +kernel
theorem dX8_semicolon_11 : decode cX8_semicolon 11 = .ok (.iconst 3, 1) := by decide +kernel
theorem dX8_semicolon_12 : decode cX8_semicolon 12 = .ok (.if_icmp .ne 12, 3) := by decide +kernel
theorem dX8_semicolon_15 : decode cX8_semicolon 15 = .ok (.aload_n 0, 1) := by decide +kernel
theorem dX8_semicolon_16 : decode cX8_semicolon 16 = .ok (.getfield 252, 3) := by decide +kernel
theorem dX8_semicolon_19 : decode cX8_semicolon 19 = .ok (.bipush 59, 2) := by decide +kernel
theorem dX8_semicolon_21 : decode cX8_semicolon 21 = .ok (.if_icmp .eq 8, 3) := by decide +kernel
theorem dX8_semicolon_24 : decode cX8_semicolon 24 = .ok (.aload_n 0, 1) := by decide +kernel
theorem dX8_semicolon_25 : decode cX8_semicolon 25 = .ok (.iconst 1, 1) := by decide +kernel
theorem dX8_semicolon_26 : decode cX8_semicolon 26 = .ok (.invokevirtual 267, 3) := by decide +kernel
theorem dX8_semicolon_29 : decode cX8_semicolon 29 = .ok (.aload_n 0, 1) := by decide +kernel
theorem dX8_semicolon_30 : decode cX8_semicolon 30 = .ok (.invokevirtual 270, 3) := by decide +kernel
theorem dX8_semicolon_33 : decode cX8_semicolon 33 = .ok (.return_, 1) := by decide +kernel
theorem dX8_isKeyword_0 : decode cX8_isKeyword 0 = .ok (.aload_n 0, 1) := by decide +kernel
theorem dX8_isKeyword_1 : decode cX8_isKeyword 1 = .ok (.ldc_w 280, 3) := by decide +kernel
theorem dX8_isKeyword_4 : decode cX8_isKeyword 4 = .ok (.invokevirtual 273, 3) := by decide +kernel
theorem dX8_isKeyword_7 : decode cX8_isKeyword 7 = .ok (.ifCond .ne 53, 3) := by decide +kernel
theorem dX8_isKeyword_10 : decode cX8_isKeyword 10 = .ok (.aload_n 0, 1) := by decide +kernel
theorem dX8_isKeyword_11 : decode cX8_isKeyword 11 = .ok (.ldc_w 282, 3) := by decide +kernel
theorem dX8_isKeyword_14 : decode cX8_isKeyword 14 = .ok (.invokevirtual 273, 3) := by decide +kernel
theorem dX8_isKeyword_17 : decode cX8_isKeyword 17 = .ok (.ifCond .ne 43, 3) := by decide +kernel
theorem dX8_isKeyword_20 : decode cX8_isKeyword 20 = .ok (.aload_n 0, 1) := by decide +kernel
theorem dX8_isKeyword_21 : decode cX8_isKeyword 21 = .ok (.ldc_w 284, 3) := by decide +kernel
theorem dX8_isKeyword_24 : decode cX8_isKeyword 24 = .ok (.invokevirtual 273, 3) := by decide +kernel
theorem dX8_isKeyword_27 : decode cX8_isKeyword 27 = .ok (.ifCond .ne 33, 3) := by decide +kernel
theorem dX8_isKeyword_30 : decode cX8_isKeyword 30 = .ok (.aload_n 0, 1) := by decide +kernel
theorem dX8_isKeyword_31 : decode cX8_isKeyword 31 = .ok (.ldc_w 286, 3) := by decide +kernel
theorem dX8_isKeyword_34 : decode cX8_isKeyword 34 = .ok (.invokevirtual 273, 3) := by decide +kernel
theorem dX8_isKeyword_37 : decode cX8_isKeyword 37 = .ok (.ifCond .ne 23, 3) := by decide +kernel
theorem dX8_isKeyword_40 : decode cX8_isKeyword 40 = .ok (.aload_n 0, 1) := by decide +kernel
theorem dX8_isKeyword_41 : decode cX8_isKeyword 41 = .ok (.ldc_w 288, 3) := by decide +kernel
theorem dX8_isKeyword_44 : decode cX8_isKeyword 44 = .ok (.invokevirtual 273, 3) := by decide +kernel
theorem dX8_isKeyword_47 : decode cX8_isKeyword 47 = .ok (.ifCond .ne 13, 3) := by decide +kernel
theorem dX8_isKeyword_50 : decode cX8_isKeyword 50 = .ok (.aload_n 0, 1) := by decide +kernel
theorem dX8_isKeyword_51 : decode cX8_isKeyword 51 = .ok (.ldc_w 290, 3) := by decide +kernel
theorem dX8_isKeyword_54 : decode cX8_isKeyword 54 = .ok (.invokevirtual 273, 3) := by decide +kernel
theorem dX8_isKeyword_57 : decode cX8_isKeyword 57 = .ok (.ifCond .eq 7, 3) := by decide +kernel
theorem dX8_isKeyword_60 : decode cX8_isKeyword 60 = .ok (.iconst 1, 1) := by decide +kernel
theorem dX8_isKeyword_61 : decode cX8_isKeyword 61 = .ok (.goto 4, 3) := by decide +kernel
theorem dX8_isKeyword_64 : decode cX8_isKeyword 64 = .ok (.iconst 0, 1) := by decide +kernel
theorem dX8_isKeyword_65 : decode cX8_isKeyword 65 = .ok (.istore_n 1, 1) := by decide +kernel
theorem dX8_isKeyword_66 : decode cX8_isKeyword 66 = .ok (.iload_n 1, 1) := by decide +kernel
theorem dX8_isKeyword_67 : decode cX8_isKeyword 67 = .ok (.ifCond .ne 53, 3) := by decide +kernel
theorem dX8_isKeyword_70 : decode cX8_isKeyword 70 = .ok (.aload_n 0, 1) := by decide +kernel
theorem dX8_isKeyword_71 : decode cX8_isKeyword 71 = .ok (.ldc_w 292, 3) := by decide +kernel
theorem dX8_isKeyword_74 : decode cX8_isKeyword 74 = .ok (.invokevirtual 273, 3) := by decide +kernel
theorem dX8_isKeyword_77 : decode cX8_isKeyword 77 = .ok (.ifCond .ne 43, 3) := by decide +kernel
theorem dX8_isKeyword_80 : decode cX8_isKeyword 80 = .ok (.aload_n 0, 1) := by decide +kernel
theorem dX8_isKeyword_81 : decode cX8_isKeyword 81 = .ok (.ldc_w 294, 3) := by decide +kernel
theorem dX8_isKeyword_84 : decode cX8_isKeyword 84 = .ok (.invokevirtual 273, 3) := by decide +kernel
theorem dX8_isKeyword_87 : decode cX8_isKeyword 87 = .ok (.ifCond .ne 33, 3) := by decide +kernel
theorem dX8_isKeyword_90 : decode cX8_isKeyword 90 = .ok (.aload_n 0, 1) := by decide +kernel
theorem dX8_isKeyword_91 : decode cX8_isKeyword 91 = .ok (.ldc_w 296, 3) := by decide +kernel
theorem dX8_isKeyword_94 : decode cX8_isKeyword 94 = .ok (.invokevirtual 273, 3) := by decide +kernel
theorem dX8_isKeyword_97 : decode cX8_isKeyword 97 = .ok (.ifCond .ne 23, 3) := by decide +kernel
theorem dX8_isKeyword_100 : decode cX8_isKeyword 100 = .ok (.aload_n 0, 1) := by decide +kernel
theorem dX8_isKeyword_101 : decode cX8_isKeyword 101 = .ok (.ldc_w 298, 3) := by decide +kernel
theorem dX8_isKeyword_104 : decode cX8_isKeyword 104 = .ok (.invokevirtual 273, 3) := by decide +kernel
theorem dX8_isKeyword_107 : decode cX8_isKeyword 107 = .ok (.ifCond .ne 13, 3) := by decide +kernel
theorem dX8_isKeyword_110 : decode cX8_isKeyword 110 = .ok (.aload_n 0, 1) := by decide +kernel
theorem dX8_isKeyword_111 : decode cX8_isKeyword 111 = .ok (.ldc_w 300, 3) := by decide +kernel
theorem dX8_isKeyword_114 : decode cX8_isKeyword 114 = .ok (.invokevirtual 273, 3) := by decide +kernel
theorem dX8_isKeyword_117 : decode cX8_isKeyword 117 = .ok (.ifCond .eq 7, 3) := by decide +kernel
theorem dX8_isKeyword_120 : decode cX8_isKeyword 120 = .ok (.iconst 1, 1) := by decide +kernel
theorem dX8_isKeyword_121 : decode cX8_isKeyword 121 = .ok (.goto 4, 3) := by decide +kernel
theorem dX8_isKeyword_124 : decode cX8_isKeyword 124 = .ok (.iconst 0, 1) := by decide +kernel
theorem dX8_isKeyword_125 : decode cX8_isKeyword 125 = .ok (.ireturn, 1) := by decide +kernel
theorem dX8_nameOf_0 : decode cX8_nameOf 0 = .ok (.iconst 0, 1) := by decide +kernel
theorem dX8_nameOf_1 : decode cX8_nameOf 1 = .ok (.istore_n 3, 1) := by decide +kernel
theorem dX8_nameOf_2 : decode cX8_nameOf 2 = .ok (.iload_n 1, 1) := by decide +kernel
theorem dX8_nameOf_3 : decode cX8_nameOf 3 = .ok (.istore 4, 2) := by decide +kernel
theorem dX8_nameOf_5 : decode cX8_nameOf 5 = .ok (.iload 4, 2) := by decide +kernel
theorem dX8_nameOf_7 : decode cX8_nameOf 7 = .ok (.iload_n 2, 1) := by decide +kernel
theorem dX8_nameOf_8 : decode cX8_nameOf 8 = .ok (.if_icmp .ge 22, 3) := by decide +kernel
theorem dX8_nameOf_11 : decode cX8_nameOf 11 = .ok (.bipush 27, 2) := by decide +kernel
theorem dX8_nameOf_13 : decode cX8_nameOf 13 = .ok (.iload_n 3, 1) := by decide +kernel
theorem dX8_nameOf_14 : decode cX8_nameOf 14 = .ok (.imul, 1) := by decide +kernel
theorem dX8_nameOf_15 : decode cX8_nameOf 15 = .ok (.aload_n 0, 1) := by decide +kernel
theorem dX8_nameOf_16 : decode cX8_nameOf 16 = .ok (.iload 4, 2) := by decide +kernel
theorem dX8_nameOf_18 : decode cX8_nameOf 18 = .ok (.baload, 1) := by decide +kernel
theorem dX8_nameOf_19 : decode cX8_nameOf 19 = .ok (.iadd, 1) := by decide +kernel
theorem dX8_nameOf_20 : decode cX8_nameOf 20 = .ok (.bipush 96, 2) := by decide +kernel
theorem dX8_nameOf_22 : decode cX8_nameOf 22 = .ok (.isub, 1) := by decide +kernel
theorem dX8_nameOf_23 : decode cX8_nameOf 23 = .ok (.istore_n 3, 1) := by decide +kernel
theorem dX8_nameOf_24 : decode cX8_nameOf 24 = .ok (.iinc 4 1, 3) := by decide +kernel
theorem dX8_nameOf_27 : decode cX8_nameOf 27 = .ok (.goto (-22), 3) := by decide +kernel
theorem dX8_nameOf_30 : decode cX8_nameOf 30 = .ok (.iload_n 3, 1) := by decide +kernel
theorem dX8_nameOf_31 : decode cX8_nameOf 31 = .ok (.ireturn, 1) := by decide +kernel
theorem dX8_nameHere_0 : decode cX8_nameHere 0 = .ok (.aload_n 0, 1) := by decide +kernel
theorem dX8_nameHere_1 : decode cX8_nameHere 1 = .ok (.invokevirtual 226, 3) := by decide +kernel
theorem dX8_nameHere_4 : decode cX8_nameHere 4 = .ok (.ifCond .eq 37, 3) := by decide +kernel
theorem dX8_nameHere_7 : decode cX8_nameHere 7 = .ok (.aload_n 0, 1) := by decide +kernel
theorem dX8_nameHere_8 : decode cX8_nameHere 8 = .ok (.getfield 241, 3) := by decide +kernel
theorem dX8_nameHere_11 : decode cX8_nameHere 11 = .ok (.iconst 1, 1) := by decide +kernel
theorem dX8_nameHere_12 : decode cX8_nameHere 12 = .ok (.if_icmp .ne 24, 3) := by decide +kernel
theorem dX8_nameHere_15 : decode cX8_nameHere 15 = .ok (.aload_n 0, 1) := by decide +kernel
theorem dX8_nameHere_16 : decode cX8_nameHere 16 = .ok (.getfield 235, 3) := by decide +kernel
theorem dX8_nameHere_19 : decode cX8_nameHere 19 = .ok (.aload_n 0, 1) := by decide +kernel
theorem dX8_nameHere_20 : decode cX8_nameHere 20 = .ok (.getfield 229, 3) := by decide +kernel
theorem dX8_nameHere_23 : decode cX8_nameHere 23 = .ok (.isub, 1) := by decide +kernel
theorem dX8_nameHere_24 : decode cX8_nameHere 24 = .ok (.bipush 6, 2) := by decide +kernel
theorem dX8_nameHere_26 : decode cX8_nameHere 26 = .ok (.if_icmp .gt 10, 3) := by decide +kernel
theorem dX8_nameHere_29 : decode cX8_nameHere 29 = .ok (.aload_n 0, 1) := by decide +kernel
theorem dX8_nameHere_30 : decode cX8_nameHere 30 = .ok (.invokevirtual 302, 3) := by decide +kernel
theorem dX8_nameHere_33 : decode cX8_nameHere 33 = .ok (.ifCond .eq 8, 3) := by decide +kernel
theorem dX8_nameHere_36 : decode cX8_nameHere 36 = .ok (.aload_n 0, 1) := by decide +kernel
theorem dX8_nameHere_37 : decode cX8_nameHere 37 = .ok (.iconst 1, 1) := by decide +kernel
theorem dX8_nameHere_38 : decode cX8_nameHere 38 = .ok (.invokevirtual 267, 3) := by decide +kernel
theorem dX8_nameHere_41 : decode cX8_nameHere 41 = .ok (.aload_n 0, 1) := by decide +kernel
theorem dX8_nameHere_42 : decode cX8_nameHere 42 = .ok (.invokevirtual 226, 3) := by decide +kernel
theorem dX8_nameHere_45 : decode cX8_nameHere 45 = .ok (.ifCond .eq 21, 3) := by decide +kernel
theorem dX8_nameHere_48 : decode cX8_nameHere 48 = .ok (.aload_n 0, 1) := by decide +kernel
theorem dX8_nameHere_49 : decode cX8_nameHere 49 = .ok (.getfield 40, 3) := by decide +kernel
theorem dX8_nameHere_52 : decode cX8_nameHere 52 = .ok (.aload_n 0, 1) := by decide +kernel
theorem dX8_nameHere_53 : decode cX8_nameHere 53 = .ok (.getfield 229, 3) := by decide +kernel
theorem dX8_nameHere_56 : decode cX8_nameHere 56 = .ok (.aload_n 0, 1) := by decide +kernel
theorem dX8_nameHere_57 : decode cX8_nameHere 57 = .ok (.getfield 235, 3) := by decide +kernel
theorem dX8_nameHere_60 : decode cX8_nameHere 60 = .ok (.invokestatic 305, 3) := by decide +kernel
theorem dX8_nameHere_63 : decode cX8_nameHere 63 = .ok (.goto 4, 3) := by decide +kernel
theorem dX8_nameHere_66 : decode cX8_nameHere 66 = .ok (.iconst 0, 1) := by decide +kernel
theorem dX8_nameHere_67 : decode cX8_nameHere 67 = .ok (.ireturn, 1) := by decide +kernel
theorem dX8_withName_0 : decode cX8_withName 0 = .ok (.iconst 0, 1) := by decide +kernel
theorem dX8_withName_1 : decode cX8_withName 1 = .ok (.istore 4, 2) := by decide +kernel
theorem dX8_withName_3 : decode cX8_withName 3 = .ok (.iload 4, 2) := by decide +kernel
theorem dX8_withName_5 : decode cX8_withName 5 = .ok (.iload_n 3, 1) := by decide +kernel
theorem dX8_withName_6 : decode cX8_withName 6 = .ok (.if_icmp .ge 25, 3) := by decide +kernel
theorem dX8_withName_9 : decode cX8_withName 9 = .ok (.aload_n 0, 1) := by decide +kernel
theorem dX8_withName_10 : decode cX8_withName 10 = .ok (.getfield 24, 3) := by decide +kernel
theorem dX8_withName_13 : decode cX8_withName 13 = .ok (.iload_n 2, 1) := by decide +kernel
theorem dX8_withName_14 : decode cX8_withName 14 = .ok (.iload 4, 2) := by decide +kernel
theorem dX8_withName_16 : decode cX8_withName 16 = .ok (.iadd, 1) := by decide +kernel
theorem dX8_withName_17 : decode cX8_withName 17 = .ok (.iaload, 1) := by decide +kernel
theorem dX8_withName_18 : decode cX8_withName 18 = .ok (.iload_n 1, 1) := by decide +kernel
theorem dX8_withName_19 : decode cX8_withName 19 = .ok (.if_icmp .ne 6, 3) := by decide +kernel
theorem dX8_withName_22 : decode cX8_withName 22 = .ok (.iload 4, 2) := by decide +kernel
theorem dX8_withName_24 : decode cX8_withName 24 = .ok (.ireturn, 1) := by decide +kernel
theorem dX8_withName_25 : decode cX8_withName 25 = .ok (.iinc 4 1, 3) := by decide +kernel
theorem dX8_withName_28 : decode cX8_withName 28 = .ok (.goto (-25), 3) := by decide +kernel
theorem dX8_withName_31 : decode cX8_withName 31 = .ok (.iconst (-1), 1) := by decide +kernel
theorem dX8_withName_32 : decode cX8_withName 32 = .ok (.ireturn, 1) := by decide +kernel
theorem dX8_parseRules_0 : decode cX8_parseRules 0 = .ok (.aload_n 0, 1) := by decide +kernel
theorem dX8_parseRules_1 : decode cX8_parseRules 1 = .ok (.ldc_w 280, 3) := by decide +kernel
theorem dX8_parseRules_4 : decode cX8_parseRules 4 = .ok (.invokevirtual 273, 3) := by decide +kernel
theorem dX8_parseRules_7 : decode cX8_parseRules 7 = .ok (.ifCond .ne 8, 3) := by decide +kernel
theorem dX8_parseRules_10 : decode cX8_parseRules 10 = .ok (.aload_n 0, 1) := by decide +kernel
theorem dX8_parseRules_11 : decode cX8_parseRules 11 = .ok (.iconst 1, 1) := by decide +kernel
theorem dX8_parseRules_12 : decode cX8_parseRules 12 = .ok (.invokevirtual 267, 3) := by decide +kernel
theorem dX8_parseRules_15 : decode cX8_parseRules 15 = .ok (.aload_n 0, 1) := by decide +kernel
theorem dX8_parseRules_16 : decode cX8_parseRules 16 = .ok (.invokevirtual 270, 3) := by decide +kernel
theorem dX8_parseRules_19 : decode cX8_parseRules 19 = .ok (.aload_n 0, 1) := by decide +kernel
theorem dX8_parseRules_20 : decode cX8_parseRules 20 = .ok (.getfield 24, 3) := by decide +kernel
theorem dX8_parseRules_23 : decode cX8_parseRules 23 = .ok (.iconst 3, 1) := by decide +kernel
theorem dX8_parseRules_24 : decode cX8_parseRules 24 = .ok (.aload_n 0, 1) := by decide +kernel
theorem dX8_parseRules_25 : decode cX8_parseRules 25 = .ok (.ldc_w 282, 3) := by decide +kernel
theorem dX8_parseRules_28 : decode cX8_parseRules 28 = .ok (.iconst 0, 1) := by decide +kernel
theorem dX8_parseRules_29 : decode cX8_parseRules 29 = .ok (.bipush 20, 2) := by decide +kernel
theorem dX8_parseRules_31 : decode cX8_parseRules 31 = .ok (.invokevirtual 309, 3) := by decide +kernel
theorem dX8_parseRules_34 : decode cX8_parseRules 34 = .ok (.iastore, 1) := by decide +kernel
theorem dX8_parseRules_35 : decode cX8_parseRules 35 = .ok (.aload_n 0, 1) := by decide +kernel
theorem dX8_parseRules_36 : decode cX8_parseRules 36 = .ok (.getfield 24, 3) := by decide +kernel
theorem dX8_parseRules_39 : decode cX8_parseRules 39 = .ok (.iconst 4, 1) := by decide +kernel
theorem dX8_parseRules_40 : decode cX8_parseRules 40 = .ok (.aload_n 0, 1) := by decide +kernel
theorem dX8_parseRules_41 : decode cX8_parseRules 41 = .ok (.ldc_w 284, 3) := by decide +kernel
theorem dX8_parseRules_44 : decode cX8_parseRules 44 = .ok (.iconst 0, 1) := by decide +kernel
theorem dX8_parseRules_45 : decode cX8_parseRules 45 = .ok (.bipush 50, 2) := by decide +kernel
theorem dX8_parseRules_47 : decode cX8_parseRules 47 = .ok (.invokevirtual 309, 3) := by decide +kernel
theorem dX8_parseRules_50 : decode cX8_parseRules 50 = .ok (.iastore, 1) := by decide +kernel
theorem dX8_parseRules_51 : decode cX8_parseRules 51 = .ok (.aload_n 0, 1) := by decide +kernel
theorem dX8_parseRules_52 : decode cX8_parseRules 52 = .ok (.getfield 24, 3) := by decide +kernel
theorem dX8_parseRules_55 : decode cX8_parseRules 55 = .ok (.iconst 5, 1) := by decide +kernel
theorem dX8_parseRules_56 : decode cX8_parseRules 56 = .ok (.aload_n 0, 1) := by decide +kernel
theorem dX8_parseRules_57 : decode cX8_parseRules 57 = .ok (.ldc_w 286, 3) := by decide +kernel
theorem dX8_parseRules_60 : decode cX8_parseRules 60 = .ok (.iconst 0, 1) := by decide +kernel
theorem dX8_parseRules_61 : decode cX8_parseRules 61 = .ok (.bipush 10, 2) := by decide +kernel
theorem dX8_parseRules_63 : decode cX8_parseRules 63 = .ok (.invokevirtual 309, 3) := by decide +kernel
theorem dX8_parseRules_66 : decode cX8_parseRules 66 = .ok (.iastore, 1) := by decide +kernel
theorem dX8_parseRules_67 : decode cX8_parseRules 67 = .ok (.aload_n 0, 1) := by decide +kernel
theorem dX8_parseRules_68 : decode cX8_parseRules 68 = .ok (.getfield 24, 3) := by decide +kernel
theorem dX8_parseRules_71 : decode cX8_parseRules 71 = .ok (.bipush 6, 2) := by decide +kernel
theorem dX8_parseRules_73 : decode cX8_parseRules 73 = .ok (.aload_n 0, 1) := by decide +kernel
theorem dX8_parseRules_74 : decode cX8_parseRules 74 = .ok (.ldc_w 288, 3) := by decide +kernel
theorem dX8_parseRules_77 : decode cX8_parseRules 77 = .ok (.iconst 1, 1) := by decide +kernel
theorem dX8_parseRules_78 : decode cX8_parseRules 78 = .ok (.bipush 99, 2) := by decide +kernel
theorem dX8_parseRules_80 : decode cX8_parseRules 80 = .ok (.invokevirtual 309, 3) := by decide +kernel
theorem dX8_parseRules_83 : decode cX8_parseRules 83 = .ok (.iastore, 1) := by decide +kernel
theorem dX8_parseRules_84 : decode cX8_parseRules 84 = .ok (.aload_n 0, 1) := by decide +kernel
theorem dX8_parseRules_85 : decode cX8_parseRules 85 = .ok (.getfield 24, 3) := by decide +kernel
theorem dX8_parseRules_88 : decode cX8_parseRules 88 = .ok (.bipush 7, 2) := by decide +kernel
theorem dX8_parseRules_90 : decode cX8_parseRules 90 = .ok (.aload_n 0, 1) := by decide +kernel
theorem dX8_parseRules_91 : decode cX8_parseRules 91 = .ok (.ldc_w 290, 3) := by decide +kernel
theorem dX8_parseRules_94 : decode cX8_parseRules 94 = .ok (.iconst 1, 1) := by decide +kernel
theorem dX8_parseRules_95 : decode cX8_parseRules 95 = .ok (.iconst 3, 1) := by decide +kernel
theorem dX8_parseRules_96 : decode cX8_parseRules 96 = .ok (.invokevirtual 309, 3) := by decide +kernel
theorem dX8_parseRules_99 : decode cX8_parseRules 99 = .ok (.iastore, 1) := by decide +kernel
theorem dX8_parseRules_100 : decode cX8_parseRules 100 = .ok (.return_, 1) := by decide +kernel
theorem dX8_parseNew_0 : decode cX8_parseNew 0 = .ok (.aload_n 0, 1) := by decide +kernel
theorem dX8_parseNew_1 : decode cX8_parseNew 1 = .ok (.getfield 24, 3) := by decide +kernel
theorem dX8_parseNew_4 : decode cX8_parseNew 4 = .ok (.iload_n 1, 1) := by decide +kernel
theorem dX8_parseNew_5 : decode cX8_parseNew 5 = .ok (.iaload, 1) := by decide +kernel
theorem dX8_parseNew_6 : decode cX8_parseNew 6 = .ok (.bipush 6, 2) := by decide +kernel
theorem dX8_parseNew_8 : decode cX8_parseNew 8 = .ok (.if_icmp .ne 8, 3) := by decide +kernel
theorem dX8_parseNew_11 : decode cX8_parseNew 11 = .ok (.aload_n 0, 1) := by decide +kernel
theorem dX8_parseNew_12 : decode cX8_parseNew 12 = .ok (.iconst 4, 1) := by decide +kernel
theorem dX8_parseNew_13 : decode cX8_parseNew 13 = .ok (.invokevirtual 267, 3) := by decide +kernel
theorem dX8_parseNew_16 : decode cX8_parseNew 16 = .ok (.aload_n 0, 1) := by decide +kernel
theorem dX8_parseNew_17 : decode cX8_parseNew 17 = .ok (.invokevirtual 270, 3) := by decide +kernel
theorem dX8_parseNew_20 : decode cX8_parseNew 20 = .ok (.aload_n 0, 1) := by decide +kernel
theorem dX8_parseNew_21 : decode cX8_parseNew 21 = .ok (.invokevirtual 313, 3) := by decide +kernel
theorem dX8_parseNew_24 : decode cX8_parseNew 24 = .ok (.istore_n 3, 1) := by decide +kernel
theorem dX8_parseNew_25 : decode cX8_parseNew 25 = .ok (.aload_n 0, 1) := by decide +kernel
theorem dX8_parseNew_26 : decode cX8_parseNew 26 = .ok (.invokevirtual 226, 3) := by decide +kernel
theorem dX8_parseNew_29 : decode cX8_parseNew 29 = .ok (.ifCond .eq 24, 3) := by decide +kernel
theorem dX8_parseNew_32 : decode cX8_parseNew 32 = .ok (.aload_n 0, 1) := by decide +kernel
theorem dX8_parseNew_33 : decode cX8_parseNew 33 = .ok (.iload_n 3, 1) := by decide +kernel
theorem dX8_parseNew_34 : decode cX8_parseNew 34 = .ok (.iload_n 2, 1) := by decide +kernel
theorem dX8_parseNew_35 : decode cX8_parseNew 35 = .ok (.aload_n 0, 1) := by decide +kernel
theorem dX8_parseNew_36 : decode cX8_parseNew 36 = .ok (.getfield 24, 3) := by decide +kernel
theorem dX8_parseNew_39 : decode cX8_parseNew 39 = .ok (.iload_n 1, 1) := by decide +kernel
theorem dX8_parseNew_40 : decode cX8_parseNew 40 = .ok (.iaload, 1) := by decide +kernel
theorem dX8_parseNew_41 : decode cX8_parseNew 41 = .ok (.invokevirtual 316, 3) := by decide +kernel
theorem dX8_parseNew_44 : decode cX8_parseNew 44 = .ok (.iconst (-1), 1) := by decide +kernel
theorem dX8_parseNew_45 : decode cX8_parseNew 45 = .ok (.if_icmp .eq 8, 3) := by decide +kernel
theorem dX8_parseNew_48 : decode cX8_parseNew 48 = .ok (.aload_n 0, 1) := by decide +kernel
theorem dX8_parseNew_49 : decode cX8_parseNew 49 = .ok (.iconst 3, 1) := by decide +kernel
theorem dX8_parseNew_50 : decode cX8_parseNew 50 = .ok (.invokevirtual 267, 3) := by decide +kernel
theorem dX8_parseNew_53 : decode cX8_parseNew 53 = .ok (.aload_n 0, 1) := by decide +kernel
theorem dX8_parseNew_54 : decode cX8_parseNew 54 = .ok (.invokevirtual 226, 3) := by decide +kernel
theorem dX8_parseNew_57 : decode cX8_parseNew 57 = .ok (.ifCond .ne 4, 3) := by decide +kernel
theorem dX8_parseNew_60 : decode cX8_parseNew 60 = .ok (.return_, 1) := by decide +kernel
theorem dX8_parseNew_61 : decode cX8_parseNew 61 = .ok (.aload_n 0, 1) := by decide +kernel
theorem dX8_parseNew_62 : decode cX8_parseNew 62 = .ok (.getfield 24, 3) := by decide +kernel
theorem dX8_parseNew_65 : decode cX8_parseNew 65 = .ok (.iload_n 2, 1) := by decide +kernel
theorem dX8_parseNew_66 : decode cX8_parseNew 66 = .ok (.aload_n 0, 1) := by decide +kernel
theorem dX8_parseNew_67 : decode cX8_parseNew 67 = .ok (.getfield 24, 3) := by decide +kernel
theorem dX8_parseNew_70 : decode cX8_parseNew 70 = .ok (.iload_n 1, 1) := by decide +kernel
theorem dX8_parseNew_71 : decode cX8_parseNew 71 = .ok (.iaload, 1) := by decide +kernel
theorem dX8_parseNew_72 : decode cX8_parseNew 72 = .ok (.iadd, 1) := by decide +kernel
theorem dX8_parseNew_73 : decode cX8_parseNew 73 = .ok (.iload_n 3, 1) := by decide +kernel
theorem dX8_parseNew_74 : decode cX8_parseNew 74 = .ok (.iastore, 1) := by decide +kernel
theorem dX8_parseNew_75 : decode cX8_parseNew 75 = .ok (.aload_n 0, 1) := by decide +kernel
theorem dX8_parseNew_76 : decode cX8_parseNew 76 = .ok (.getfield 24, 3) := by decide +kernel
theorem dX8_parseNew_79 : decode cX8_parseNew 79 = .ok (.iload_n 1, 1) := by decide +kernel
theorem dX8_parseNew_80 : decode cX8_parseNew 80 = .ok (.dup2, 1) := by decide +kernel
theorem dX8_parseNew_81 : decode cX8_parseNew 81 = .ok (.iaload, 1) := by decide +kernel
theorem dX8_parseNew_82 : decode cX8_parseNew 82 = .ok (.iconst 1, 1) := by decide +kernel
theorem dX8_parseNew_83 : decode cX8_parseNew 83 = .ok (.iadd, 1) := by decide +kernel
theorem dX8_parseNew_84 : decode cX8_parseNew 84 = .ok (.iastore, 1) := by decide +kernel
theorem dX8_parseNew_85 : decode cX8_parseNew 85 = .ok (.aload_n 0, 1) := by decide +kernel
theorem dX8_parseNew_86 : decode cX8_parseNew 86 = .ok (.invokevirtual 270, 3) := by decide +kernel
theorem dX8_parseNew_89 : decode cX8_parseNew 89 = .ok (.return_, 1) := by decide +kernel
theorem dX8_told_0 : decode cX8_told 0 = .ok (.aload_n 0, 1) := by decide +kernel
theorem dX8_told_1 : decode cX8_told 1 = .ok (.invokevirtual 313, 3) := by decide +kernel
theorem dX8_told_4 : decode cX8_told 4 = .ok (.istore_n 3, 1) := by decide +kernel
theorem dX8_told_5 : decode cX8_told 5 = .ok (.aload_n 0, 1) := by decide +kernel
theorem dX8_told_6 : decode cX8_told 6 = .ok (.invokevirtual 226, 3) := by decide +kernel
theorem dX8_told_9 : decode cX8_told 9 = .ok (.ifCond .eq 18, 3) := by decide +kernel
theorem dX8_told_12 : decode cX8_told 12 = .ok (.aload_n 0, 1) := by decide +kernel
theorem dX8_told_13 : decode cX8_told 13 = .ok (.iload_n 3, 1) := by decide +kernel
theorem dX8_told_14 : decode cX8_told 14 = .ok (.iload_n 2, 1) := by decide +kernel
theorem dX8_told_15 : decode cX8_told 15 = .ok (.aload_n 0, 1) := by decide +kernel
theorem dX8_told_16 : decode cX8_told 16 = .ok (.getfield 24, 3) := by decide +kernel
theorem dX8_told_19 : decode cX8_told 19 = .ok (.iload_n 1, 1) := by decide +kernel
theorem dX8_told_20 : decode cX8_told 20 = .ok (.iaload, 1) := by decide +kernel
theorem dX8_told_21 : decode cX8_told 21 = .ok (.invokevirtual 316, 3) := by decide +kernel
theorem dX8_told_24 : decode cX8_told 24 = .ok (.goto 4, 3) := by decide +kernel
theorem dX8_told_27 : decode cX8_told 27 = .ok (.iconst (-1), 1) := by decide +kernel
theorem dX8_told_28 : decode cX8_told 28 = .ok (.istore 4, 2) := by decide +kernel
theorem dX8_told_30 : decode cX8_told 30 = .ok (.iload 4, 2) := by decide +kernel
theorem dX8_told_32 : decode cX8_told 32 = .ok (.iconst (-1), 1) := by decide +kernel
theorem dX8_told_33 : decode cX8_told 33 = .ok (.if_icmp .ne 8, 3) := by decide +kernel
theorem dX8_told_36 : decode cX8_told 36 = .ok (.aload_n 0, 1) := by decide +kernel
theorem dX8_told_37 : decode cX8_told 37 = .ok (.iconst 3, 1) := by decide +kernel
theorem dX8_told_38 : decode cX8_told 38 = .ok (.invokevirtual 267, 3) := by decide +kernel
theorem dX8_told_41 : decode cX8_told 41 = .ok (.aload_n 0, 1) := by decide +kernel
theorem dX8_told_42 : decode cX8_told 42 = .ok (.invokevirtual 226, 3) := by decide +kernel
theorem dX8_told_45 : decode cX8_told 45 = .ok (.ifCond .eq 8, 3) := by decide +kernel
theorem dX8_told_48 : decode cX8_told 48 = .ok (.iload 4, 2) := by decide +kernel
theorem dX8_told_50 : decode cX8_told 50 = .ok (.goto 4, 3) := by decide +kernel
theorem dX8_told_53 : decode cX8_told 53 = .ok (.iconst 0, 1) := by decide +kernel
theorem dX8_told_54 : decode cX8_told 54 = .ok (.ireturn, 1) := by decide +kernel
theorem dX8_parseLink_0 : decode cX8_parseLink 0 = .ok (.aload_n 0, 1) := by decide +kernel
theorem dX8_parseLink_1 : decode cX8_parseLink 1 = .ok (.invokevirtual 270, 3) := by decide +kernel
theorem dX8_parseLink_4 : decode cX8_parseLink 4 = .ok (.aload_n 0, 1) := by decide +kernel
theorem dX8_parseLink_5 : decode cX8_parseLink 5 = .ok (.iconst 0, 1) := by decide +kernel
theorem dX8_parseLink_6 : decode cX8_parseLink 6 = .ok (.bipush 9, 2) := by decide +kernel
theorem dX8_parseLink_8 : decode cX8_parseLink 8 = .ok (.invokevirtual 319, 3) := by decide +kernel
theorem dX8_parseLink_11 : decode cX8_parseLink 11 = .ok (.istore_n 1, 1) := by decide +kernel
theorem dX8_parseLink_12 : decode cX8_parseLink 12 = .ok (.aload_n 0, 1) := by decide +kernel
theorem dX8_parseLink_13 : decode cX8_parseLink 13 = .ok (.invokevirtual 270, 3) := by decide +kernel
theorem dX8_parseLink_16 : decode cX8_parseLink 16 = .ok (.aload_n 0, 1) := by decide +kernel
theorem dX8_parseLink_17 : decode cX8_parseLink 17 = .ok (.iconst 0, 1) := by decide +kernel
theorem dX8_parseLink_18 : decode cX8_parseLink 18 = .ok (.bipush 9, 2) := by decide +kernel
theorem dX8_parseLink_20 : decode cX8_parseLink 20 = .ok (.invokevirtual 319, 3) := by decide +kernel
theorem dX8_parseLink_23 : decode cX8_parseLink 23 = .ok (.istore_n 2, 1) := by decide +kernel
theorem dX8_parseLink_24 : decode cX8_parseLink 24 = .ok (.aload_n 0, 1) := by decide +kernel
theorem dX8_parseLink_25 : decode cX8_parseLink 25 = .ok (.invokevirtual 226, 3) := by decide +kernel
theorem dX8_parseLink_28 : decode cX8_parseLink 28 = .ok (.ifCond .eq 22, 3) := by decide +kernel
theorem dX8_parseLink_31 : decode cX8_parseLink 31 = .ok (.iload_n 1, 1) := by decide +kernel
theorem dX8_parseLink_32 : decode cX8_parseLink 32 = .ok (.iload_n 2, 1) := by decide +kernel
theorem dX8_parseLink_33 : decode cX8_parseLink 33 = .ok (.if_icmp .eq 12, 3) := by decide +kernel
theorem dX8_parseLink_36 : decode cX8_parseLink 36 = .ok (.aload_n 0, 1) := by decide +kernel
theorem dX8_parseLink_37 : decode cX8_parseLink 37 = .ok (.iload_n 1, 1) := by decide +kernel
theorem dX8_parseLink_38 : decode cX8_parseLink 38 = .ok (.iload_n 2, 1) := by decide +kernel
theorem dX8_parseLink_39 : decode cX8_parseLink 39 = .ok (.invokevirtual 131, 3) := by decide +kernel
theorem dX8_parseLink_42 : decode cX8_parseLink 42 = .ok (.ifCond .eq 8, 3) := by decide +kernel
theorem dX8_parseLink_45 : decode cX8_parseLink 45 = .ok (.aload_n 0, 1) := by decide +kernel
theorem dX8_parseLink_46 : decode cX8_parseLink 46 = .ok (.iconst 3, 1) := by decide +kernel
theorem dX8_parseLink_47 : decode cX8_parseLink 47 = .ok (.invokevirtual 267, 3) := by decide +kernel
theorem dX8_parseLink_50 : decode cX8_parseLink 50 = .ok (.aload_n 0, 1) := by decide +kernel
theorem dX8_parseLink_51 : decode cX8_parseLink 51 = .ok (.invokevirtual 270, 3) := by decide +kernel
theorem dX8_parseLink_54 : decode cX8_parseLink 54 = .ok (.aload_n 0, 1) := by decide +kernel
theorem dX8_parseLink_55 : decode cX8_parseLink 55 = .ok (.ldc_w 298, 3) := by decide +kernel
theorem dX8_parseLink_58 : decode cX8_parseLink 58 = .ok (.invokevirtual 273, 3) := by decide +kernel
theorem dX8_parseLink_61 : decode cX8_parseLink 61 = .ok (.ifCond .eq 16, 3) := by decide +kernel
theorem dX8_parseLink_64 : decode cX8_parseLink 64 = .ok (.aload_n 0, 1) := by decide +kernel
theorem dX8_parseLink_65 : decode cX8_parseLink 65 = .ok (.ldc_w 298, 3) := by decide +kernel
theorem dX8_parseLink_68 : decode cX8_parseLink 68 = .ok (.iconst 0, 1) := by decide +kernel
theorem dX8_parseLink_69 : decode cX8_parseLink 69 = .ok (.bipush 10, 2) := by decide +kernel
theorem dX8_parseLink_71 : decode cX8_parseLink 71 = .ok (.invokevirtual 309, 3) := by decide +kernel
theorem dX8_parseLink_74 : decode cX8_parseLink 74 = .ok (.goto 4, 3) := by decide +kernel
theorem dX8_parseLink_77 : decode cX8_parseLink 77 = .ok (.iconst 5, 1) := by decide +kernel
theorem dX8_parseLink_78 : decode cX8_parseLink 78 = .ok (.istore_n 3, 1) := by decide +kernel
theorem dX8_parseLink_79 : decode cX8_parseLink 79 = .ok (.aload_n 0, 1) := by decide +kernel
theorem dX8_parseLink_80 : decode cX8_parseLink 80 = .ok (.invokevirtual 226, 3) := by decide +kernel
theorem dX8_parseLink_83 : decode cX8_parseLink 83 = .ok (.ifCond .ne 4, 3) := by decide +kernel
theorem dX8_parseLink_86 : decode cX8_parseLink 86 = .ok (.return_, 1) := by decide +kernel
theorem dX8_parseLink_87 : decode cX8_parseLink 87 = .ok (.aload_n 0, 1) := by decide +kernel
theorem dX8_parseLink_88 : decode cX8_parseLink 88 = .ok (.iload_n 1, 1) := by decide +kernel
theorem dX8_parseLink_89 : decode cX8_parseLink 89 = .ok (.iload_n 2, 1) := by decide +kernel
theorem dX8_parseLink_90 : decode cX8_parseLink 90 = .ok (.iload_n 3, 1) := by decide +kernel
theorem dX8_parseLink_91 : decode cX8_parseLink 91 = .ok (.invokevirtual 139, 3) := by decide +kernel
theorem dX8_parseLink_94 : decode cX8_parseLink 94 = .ok (.aload_n 0, 1) := by decide +kernel
theorem dX8_parseLink_95 : decode cX8_parseLink 95 = .ok (.iload_n 2, 1) := by decide +kernel
theorem dX8_parseLink_96 : decode cX8_parseLink 96 = .ok (.iload_n 1, 1) := by decide +kernel
theorem dX8_parseLink_97 : decode cX8_parseLink 97 = .ok (.iload_n 3, 1) := by decide +kernel
theorem dX8_parseLink_98 : decode cX8_parseLink 98 = .ok (.invokevirtual 139, 3) := by decide +kernel
theorem dX8_parseLink_101 : decode cX8_parseLink 101 = .ok (.return_, 1) := by decide +kernel
theorem dX8_parseProbe_0 : decode cX8_parseProbe 0 = .ok (.aload_n 0, 1) := by decide +kernel
theorem dX8_parseProbe_1 : decode cX8_parseProbe 1 = .ok (.invokevirtual 270, 3) := by decide +kernel
theorem dX8_parseProbe_4 : decode cX8_parseProbe 4 = .ok (.aload_n 0, 1) := by decide +kernel
theorem dX8_parseProbe_5 : decode cX8_parseProbe 5 = .ok (.iconst 0, 1) := by decide +kernel
theorem dX8_parseProbe_6 : decode cX8_parseProbe 6 = .ok (.bipush 9, 2) := by decide +kernel
theorem dX8_parseProbe_8 : decode cX8_parseProbe 8 = .ok (.invokevirtual 319, 3) := by decide +kernel
theorem dX8_parseProbe_11 : decode cX8_parseProbe 11 = .ok (.istore_n 1, 1) := by decide +kernel
theorem dX8_parseProbe_12 : decode cX8_parseProbe 12 = .ok (.aload_n 0, 1) := by decide +kernel
theorem dX8_parseProbe_13 : decode cX8_parseProbe 13 = .ok (.invokevirtual 270, 3) := by decide +kernel
theorem dX8_parseProbe_16 : decode cX8_parseProbe 16 = .ok (.aload_n 0, 1) := by decide +kernel
theorem dX8_parseProbe_17 : decode cX8_parseProbe 17 = .ok (.iconst 1, 1) := by decide +kernel
theorem dX8_parseProbe_18 : decode cX8_parseProbe 18 = .ok (.bipush 15, 2) := by decide +kernel
theorem dX8_parseProbe_20 : decode cX8_parseProbe 20 = .ok (.invokevirtual 319, 3) := by decide +kernel
theorem dX8_parseProbe_23 : decode cX8_parseProbe 23 = .ok (.istore_n 2, 1) := by decide +kernel
theorem dX8_parseProbe_24 : decode cX8_parseProbe 24 = .ok (.aload_n 0, 1) := by decide +kernel
theorem dX8_parseProbe_25 : decode cX8_parseProbe 25 = .ok (.invokevirtual 270, 3) := by decide +kernel
theorem dX8_parseProbe_28 : decode cX8_parseProbe 28 = .ok (.aload_n 0, 1) := by decide +kernel
theorem dX8_parseProbe_29 : decode cX8_parseProbe 29 = .ok (.iconst 0, 1) := by decide +kernel
theorem dX8_parseProbe_30 : decode cX8_parseProbe 30 = .ok (.sipush 999, 3) := by decide +kernel
theorem dX8_parseProbe_33 : decode cX8_parseProbe 33 = .ok (.invokevirtual 277, 3) := by decide +kernel
theorem dX8_parseProbe_36 : decode cX8_parseProbe 36 = .ok (.istore_n 3, 1) := by decide +kernel
theorem dX8_parseProbe_37 : decode cX8_parseProbe 37 = .ok (.aload_n 0, 1) := by decide +kernel
theorem dX8_parseProbe_38 : decode cX8_parseProbe 38 = .ok (.iload_n 3, 1) := by decide +kernel
theorem dX8_parseProbe_39 : decode cX8_parseProbe 39 = .ok (.sipush 999, 3) := by decide +kernel
theorem dX8_parseProbe_42 : decode cX8_parseProbe 42 = .ok (.invokevirtual 277, 3) := by decide +kernel
theorem dX8_parseProbe_45 : decode cX8_parseProbe 45 = .ok (.istore 4, 2) := by decide +kernel
theorem dX8_parseProbe_47 : decode cX8_parseProbe 47 = .ok (.aload_n 0, 1) := by decide +kernel
theorem dX8_parseProbe_48 : decode cX8_parseProbe 48 = .ok (.invokevirtual 226, 3) := by decide +kernel
theorem dX8_parseProbe_51 : decode cX8_parseProbe 51 = .ok (.ifCond .eq 14, 3) := by decide +kernel
theorem dX8_parseProbe_54 : decode cX8_parseProbe 54 = .ok (.aload_n 0, 1) := by decide +kernel
theorem dX8_parseProbe_55 : decode cX8_parseProbe 55 = .ok (.iload_n 1, 1) := by decide +kernel
theorem dX8_parseProbe_56 : decode cX8_parseProbe 56 = .ok (.iload_n 2, 1) := by decide +kernel
theorem dX8_parseProbe_57 : decode cX8_parseProbe 57 = .ok (.iload_n 3, 1) := by decide +kernel
theorem dX8_parseProbe_58 : decode cX8_parseProbe 58 = .ok (.iload 4, 2) := by decide +kernel
theorem dX8_parseProbe_60 : decode cX8_parseProbe 60 = .ok (.invokevirtual 322, 3) := by decide +kernel
theorem dX8_parseProbe_63 : decode cX8_parseProbe 63 = .ok (.istore 5, 2) := by decide +kernel
theorem dX8_parseProbe_65 : decode cX8_parseProbe 65 = .ok (.return_, 1) := by decide +kernel
theorem dX8_parseStatement_0 : decode cX8_parseStatement 0 = .ok (.aload_n 0, 1) := by decide +kernel
theorem dX8_parseStatement_1 : decode cX8_parseStatement 1 = .ok (.ldc_w 292, 3) := by decide +kernel
theorem dX8_parseStatement_4 : decode cX8_parseStatement 4 = .ok (.invokevirtual 273, 3) := by decide +kernel
theorem dX8_parseStatement_7 : decode cX8_parseStatement 7 = .ok (.ifCond .eq 13, 3) := by decide +kernel
theorem dX8_parseStatement_10 : decode cX8_parseStatement 10 = .ok (.aload_n 0, 1) := by decide +kernel
theorem dX8_parseStatement_11 : decode cX8_parseStatement 11 = .ok (.iconst 0, 1) := by decide +kernel
theorem dX8_parseStatement_12 : decode cX8_parseStatement 12 = .ok (.bipush 9, 2) := by decide +kernel
theorem dX8_parseStatement_14 : decode cX8_parseStatement 14 = .ok (.invokevirtual 326, 3) := by decide +kernel
theorem dX8_parseStatement_17 : decode cX8_parseStatement 17 = .ok (.goto 62, 3) := by decide +kernel
theorem dX8_parseStatement_20 : decode cX8_parseStatement 20 = .ok (.aload_n 0, 1) := by decide +kernel
theorem dX8_parseStatement_21 : decode cX8_parseStatement 21 = .ok (.ldc_w 294, 3) := by decide +kernel
theorem dX8_parseStatement_24 : decode cX8_parseStatement 24 = .ok (.invokevirtual 273, 3) := by decide +kernel
theorem dX8_parseStatement_27 : decode cX8_parseStatement 27 = .ok (.ifCond .eq 13, 3) := by decide +kernel
theorem dX8_parseStatement_30 : decode cX8_parseStatement 30 = .ok (.aload_n 0, 1) := by decide +kernel
theorem dX8_parseStatement_31 : decode cX8_parseStatement 31 = .ok (.iconst 1, 1) := by decide +kernel
theorem dX8_parseStatement_32 : decode cX8_parseStatement 32 = .ok (.bipush 15, 2) := by decide +kernel
theorem dX8_parseStatement_34 : decode cX8_parseStatement 34 = .ok (.invokevirtual 326, 3) := by decide +kernel
theorem dX8_parseStatement_37 : decode cX8_parseStatement 37 = .ok (.goto 42, 3) := by decide +kernel
theorem dX8_parseStatement_40 : decode cX8_parseStatement 40 = .ok (.aload_n 0, 1) := by decide +kernel
theorem dX8_parseStatement_41 : decode cX8_parseStatement 41 = .ok (.ldc_w 296, 3) := by decide +kernel
theorem dX8_parseStatement_44 : decode cX8_parseStatement 44 = .ok (.invokevirtual 273, 3) := by decide +kernel
theorem dX8_parseStatement_47 : decode cX8_parseStatement 47 = .ok (.ifCond .eq 10, 3) := by decide +kernel
theorem dX8_parseStatement_50 : decode cX8_parseStatement 50 = .ok (.aload_n 0, 1) := by decide +kernel
theorem dX8_parseStatement_51 : decode cX8_parseStatement 51 = .ok (.invokevirtual 329, 3) := by decide +kernel
theorem dX8_parseStatement_54 : decode cX8_parseStatement 54 = .ok (.goto 25, 3) := by decide +kernel
theorem dX8_parseStatement_57 : decode cX8_parseStatement 57 = .ok (.aload_n 0, 1) := by decide +kernel
theorem dX8_parseStatement_58 : decode cX8_parseStatement 58 = .ok (.ldc_w 300, 3) := by decide +kernel
theorem dX8_parseStatement_61 : decode cX8_parseStatement 61 = .ok (.invokevirtual 273, 3) := by decide +kernel
theorem dX8_parseStatement_64 : decode cX8_parseStatement 64 = .ok (.ifCond .eq 10, 3) := by decide +kernel
theorem dX8_parseStatement_67 : decode cX8_parseStatement 67 = .ok (.aload_n 0, 1) := by decide +kernel
theorem dX8_parseStatement_68 : decode cX8_parseStatement 68 = .ok (.invokevirtual 332, 3) := by decide +kernel
theorem dX8_parseStatement_71 : decode cX8_parseStatement 71 = .ok (.goto 8, 3) := by decide +kernel
theorem dX8_parseStatement_74 : decode cX8_parseStatement 74 = .ok (.aload_n 0, 1) := by decide +kernel
theorem dX8_parseStatement_75 : decode cX8_parseStatement 75 = .ok (.iconst 1, 1) := by decide +kernel
theorem dX8_parseStatement_76 : decode cX8_parseStatement 76 = .ok (.invokevirtual 267, 3) := by decide +kernel
theorem dX8_parseStatement_79 : decode cX8_parseStatement 79 = .ok (.aload_n 0, 1) := by decide +kernel
theorem dX8_parseStatement_80 : decode cX8_parseStatement 80 = .ok (.invokevirtual 335, 3) := by decide +kernel
theorem dX8_parseStatement_83 : decode cX8_parseStatement 83 = .ok (.return_, 1) := by decide +kernel
theorem dX8_load_0 : decode cX8_load 0 = .ok (.aload_n 0, 1) := by decide +kernel
theorem dX8_load_1 : decode cX8_load 1 = .ok (.iconst 0, 1) := by decide +kernel
theorem dX8_load_2 : decode cX8_load 2 = .ok (.putfield 3, 3) := by decide +kernel
theorem dX8_load_5 : decode cX8_load 5 = .ok (.aload_n 0, 1) := by decide +kernel
theorem dX8_load_6 : decode cX8_load 6 = .ok (.aload_n 0, 1) := by decide +kernel
theorem dX8_load_7 : decode cX8_load 7 = .ok (.getfield 212, 3) := by decide +kernel
theorem dX8_load_10 : decode cX8_load 10 = .ok (.putfield 232, 3) := by decide +kernel
theorem dX8_load_13 : decode cX8_load 13 = .ok (.aload_n 0, 1) := by decide +kernel
theorem dX8_load_14 : decode cX8_load 14 = .ok (.iconst 0, 1) := by decide +kernel
theorem dX8_load_15 : decode cX8_load 15 = .ok (.putfield 212, 3) := by decide +kernel
theorem dX8_load_18 : decode cX8_load 18 = .ok (.aload_n 0, 1) := by decide +kernel
theorem dX8_load_19 : decode cX8_load 19 = .ok (.iconst 0, 1) := by decide +kernel
theorem dX8_load_20 : decode cX8_load 20 = .ok (.putfield 235, 3) := by decide +kernel
theorem dX8_load_23 : decode cX8_load 23 = .ok (.aload_n 0, 1) := by decide +kernel
theorem dX8_load_24 : decode cX8_load 24 = .ok (.iconst 0, 1) := by decide +kernel
theorem dX8_load_25 : decode cX8_load 25 = .ok (.putfield 223, 3) := by decide +kernel
theorem dX8_load_28 : decode cX8_load 28 = .ok (.aload_n 0, 1) := by decide +kernel
theorem dX8_load_29 : decode cX8_load 29 = .ok (.iconst (-1), 1) := by decide +kernel
theorem dX8_load_30 : decode cX8_load 30 = .ok (.putfield 44, 3) := by decide +kernel
theorem dX8_load_33 : decode cX8_load 33 = .ok (.aload_n 0, 1) := by decide +kernel
theorem dX8_load_34 : decode cX8_load 34 = .ok (.getfield 21, 3) := by decide +kernel
theorem dX8_load_37 : decode cX8_load 37 = .ok (.invokestatic 62, 3) := by decide +kernel
theorem dX8_load_40 : decode cX8_load 40 = .ok (.aload_n 0, 1) := by decide +kernel
theorem dX8_load_41 : decode cX8_load 41 = .ok (.aload_n 0, 1) := by decide +kernel
theorem dX8_load_42 : decode cX8_load 42 = .ok (.getfield 21, 3) := by decide +kernel
theorem dX8_load_45 : decode cX8_load 45 = .ok (.putfield 24, 3) := by decide +kernel
theorem dX8_load_48 : decode cX8_load 48 = .ok (.aload_n 0, 1) := by decide +kernel
theorem dX8_load_49 : decode cX8_load 49 = .ok (.invokevirtual 255, 3) := by decide +kernel
theorem dX8_load_52 : decode cX8_load 52 = .ok (.aload_n 0, 1) := by decide +kernel
theorem dX8_load_53 : decode cX8_load 53 = .ok (.invokevirtual 338, 3) := by decide +kernel
theorem dX8_load_56 : decode cX8_load 56 = .ok (.aload_n 0, 1) := by decide +kernel
theorem dX8_load_57 : decode cX8_load 57 = .ok (.invokevirtual 335, 3) := by decide +kernel
theorem dX8_load_60 : decode cX8_load 60 = .ok (.aload_n 0, 1) := by decide +kernel
theorem dX8_load_61 : decode cX8_load 61 = .ok (.invokevirtual 226, 3) := by decide +kernel
theorem dX8_load_64 : decode cX8_load 64 = .ok (.ifCond .eq 17, 3) := by decide +kernel
theorem dX8_load_67 : decode cX8_load 67 = .ok (.aload_n 0, 1) := by decide +kernel
theorem dX8_load_68 : decode cX8_load 68 = .ok (.getfield 241, 3) := by decide +kernel
theorem dX8_load_71 : decode cX8_load 71 = .ok (.ifCond .eq 10, 3) := by decide +kernel
theorem dX8_load_74 : decode cX8_load 74 = .ok (.aload_n 0, 1) := by decide +kernel
theorem dX8_load_75 : decode cX8_load 75 = .ok (.invokevirtual 341, 3) := by decide +kernel
theorem dX8_load_78 : decode cX8_load 78 = .ok (.goto (-18), 3) := by decide +kernel
theorem dX8_load_81 : decode cX8_load 81 = .ok (.aload_n 0, 1) := by decide +kernel
theorem dX8_load_82 : decode cX8_load 82 = .ok (.aload_n 0, 1) := by decide +kernel
theorem dX8_load_83 : decode cX8_load 83 = .ok (.getfield 17, 3) := by decide +kernel
theorem dX8_load_86 : decode cX8_load 86 = .ok (.putfield 24, 3) := by decide +kernel
theorem dX8_load_89 : decode cX8_load 89 = .ok (.aload_n 0, 1) := by decide +kernel
theorem dX8_load_90 : decode cX8_load 90 = .ok (.invokevirtual 226, 3) := by decide +kernel
theorem dX8_load_93 : decode cX8_load 93 = .ok (.ifCond .ne 6, 3) := by decide +kernel
theorem dX8_load_96 : decode cX8_load 96 = .ok (.bipush (-4), 2) := by decide +kernel
theorem dX8_load_98 : decode cX8_load 98 = .ok (.ireturn, 1) := by decide +kernel
theorem dX8_load_99 : decode cX8_load 99 = .ok (.aload_n 0, 1) := by decide +kernel
theorem dX8_load_100 : decode cX8_load 100 = .ok (.invokevirtual 344, 3) := by decide +kernel
theorem dX8_load_103 : decode cX8_load 103 = .ok (.iconst 0, 1) := by decide +kernel
theorem dX8_load_104 : decode cX8_load 104 = .ok (.istore_n 1, 1) := by decide +kernel
theorem dX8_load_105 : decode cX8_load 105 = .ok (.iload_n 1, 1) := by decide +kernel
theorem dX8_load_106 : decode cX8_load 106 = .ok (.sipush 2405, 3) := by decide +kernel
theorem dX8_load_109 : decode cX8_load 109 = .ok (.if_icmp .ge 21, 3) := by decide +kernel
theorem dX8_load_112 : decode cX8_load 112 = .ok (.aload_n 0, 1) := by decide +kernel
theorem dX8_load_113 : decode cX8_load 113 = .ok (.getfield 17, 3) := by decide +kernel
theorem dX8_load_116 : decode cX8_load 116 = .ok (.iload_n 1, 1) := by decide +kernel
theorem dX8_load_117 : decode cX8_load 117 = .ok (.aload_n 0, 1) := by decide +kernel
theorem dX8_load_118 : decode cX8_load 118 = .ok (.getfield 21, 3) := by decide +kernel
theorem dX8_load_121 : decode cX8_load 121 = .ok (.iload_n 1, 1) := by decide +kernel
theorem dX8_load_122 : decode cX8_load 122 = .ok (.iaload, 1) := by decide +kernel
theorem dX8_load_123 : decode cX8_load 123 = .ok (.iastore, 1) := by decide +kernel
theorem dX8_load_124 : decode cX8_load 124 = .ok (.iinc 1 1, 3) := by decide +kernel
theorem dX8_load_127 : decode cX8_load 127 = .ok (.goto (-22), 3) := by decide +kernel
theorem dX8_load_130 : decode cX8_load 130 = .ok (.aload_n 0, 1) := by decide +kernel
theorem dX8_load_131 : decode cX8_load 131 = .ok (.invokevirtual 66, 3) := by decide +kernel
theorem dX8_load_134 : decode cX8_load 134 = .ok (.ireturn, 1) := by decide +kernel
theorem dX8_errorCode_0 : decode cX8_errorCode 0 = .ok (.aload_n 0, 1) := by decide +kernel
theorem dX8_errorCode_1 : decode cX8_errorCode 1 = .ok (.iconst 0, 1) := by decide +kernel
theorem dX8_errorCode_2 : decode cX8_errorCode 2 = .ok (.putfield 3, 3) := by decide +kernel
theorem dX8_errorCode_5 : decode cX8_errorCode 5 = .ok (.aload_n 0, 1) := by decide +kernel
theorem dX8_errorCode_6 : decode cX8_errorCode 6 = .ok (.getfield 223, 3) := by decide +kernel
theorem dX8_errorCode_9 : decode cX8_errorCode 9 = .ok (.ireturn, 1) := by decide +kernel
theorem dX8_errorPosition_0 : decode cX8_errorPosition 0 = .ok (.aload_n 0, 1) := by decide +kernel
theorem dX8_errorPosition_1 : decode cX8_errorPosition 1 = .ok (.iconst 0, 1) := by decide +kernel
theorem dX8_errorPosition_2 : decode cX8_errorPosition 2 = .ok (.putfield 3, 3) := by decide +kernel
theorem dX8_errorPosition_5 : decode cX8_errorPosition 5 = .ok (.aload_n 0, 1) := by decide +kernel
theorem dX8_errorPosition_6 : decode cX8_errorPosition 6 = .ok (.getfield 44, 3) := by decide +kernel
theorem dX8_errorPosition_9 : decode cX8_errorPosition 9 = .ok (.ireturn, 1) := by decide +kernel
theorem dX8_found_0 : decode cX8_found 0 = .ok (.aload_n 0, 1) := by decide +kernel
theorem dX8_found_1 : decode cX8_found 1 = .ok (.getfield 212, 3) := by decide +kernel
theorem dX8_found_4 : decode cX8_found 4 = .ok (.i2l, 1) := by decide +kernel
theorem dX8_found_5 : decode cX8_found 5 = .ok (.lconst 1, 1) := by decide +kernel
theorem dX8_found_6 : decode cX8_found 6 = .ok (.ldc2_w 347, 3) := by decide +kernel
theorem dX8_found_9 : decode cX8_found 9 = .ok (.invokestatic 70, 3) := by decide +kernel
theorem dX8_found_12 : decode cX8_found 12 = .ok (.istore_n 3, 1) := by decide +kernel
theorem dX8_found_13 : decode cX8_found 13 = .ok (.iconst 0, 1) := by decide +kernel
theorem dX8_found_14 : decode cX8_found 14 = .ok (.istore 4, 2) := by decide +kernel
theorem dX8_found_16 : decode cX8_found 16 = .ok (.iload 4, 2) := by decide +kernel
theorem dX8_found_18 : decode cX8_found 18 = .ok (.aload_n 0, 1) := by decide +kernel
theorem dX8_found_19 : decode cX8_found 19 = .ok (.getfield 212, 3) := by decide +kernel
theorem dX8_found_22 : decode cX8_found 22 = .ok (.if_icmp .ge 31, 3) := by decide +kernel
theorem dX8_found_25 : decode cX8_found 25 = .ok (.iload_n 3, 1) := by decide +kernel
theorem dX8_found_26 : decode cX8_found 26 = .ok (.ifCond .eq 27, 3) := by decide +kernel
theorem dX8_found_29 : decode cX8_found 29 = .ok (.aload_n 0, 1) := by decide +kernel
theorem dX8_found_30 : decode cX8_found 30 = .ok (.getfield 40, 3) := by decide +kernel
theorem dX8_found_33 : decode cX8_found 33 = .ok (.iload 4, 2) := by decide +kernel
theorem dX8_found_35 : decode cX8_found 35 = .ok (.baload, 1) := by decide +kernel
theorem dX8_found_36 : decode cX8_found 36 = .ok (.i2l, 1) := by decide +kernel
theorem dX8_found_37 : decode cX8_found 37 = .ok (.ldc2_w 244, 3) := by decide +kernel
theorem dX8_found_40 : decode cX8_found 40 = .ok (.ldc2_w 246, 3) := by decide +kernel
theorem dX8_found_43 : decode cX8_found 43 = .ok (.invokestatic 70, 3) := by decide +kernel
theorem dX8_found_46 : decode cX8_found 46 = .ok (.istore_n 3, 1) := by decide +kernel
theorem dX8_found_47 : decode cX8_found 47 = .ok (.iinc 4 1, 3) := by decide +kernel
theorem dX8_found_50 : decode cX8_found 50 = .ok (.goto (-34), 3) := by decide +kernel
theorem dX8_found_53 : decode cX8_found 53 = .ok (.iload_n 3, 1) := by decide +kernel
theorem dX8_found_54 : decode cX8_found 54 = .ok (.ifCond .eq 18, 3) := by decide +kernel
theorem dX8_found_57 : decode cX8_found 57 = .ok (.aload_n 0, 1) := by decide +kernel
theorem dX8_found_58 : decode cX8_found 58 = .ok (.getfield 40, 3) := by decide +kernel
theorem dX8_found_61 : decode cX8_found 61 = .ok (.iconst 0, 1) := by decide +kernel
theorem dX8_found_62 : decode cX8_found 62 = .ok (.aload_n 0, 1) := by decide +kernel
theorem dX8_found_63 : decode cX8_found 63 = .ok (.getfield 212, 3) := by decide +kernel
theorem dX8_found_66 : decode cX8_found 66 = .ok (.invokestatic 305, 3) := by decide +kernel
theorem dX8_found_69 : decode cX8_found 69 = .ok (.goto 4, 3) := by decide +kernel
theorem dX8_found_72 : decode cX8_found 72 = .ok (.iconst (-1), 1) := by decide +kernel
theorem dX8_found_73 : decode cX8_found 73 = .ok (.istore 4, 2) := by decide +kernel
theorem dX8_found_75 : decode cX8_found 75 = .ok (.aload_n 0, 1) := by decide +kernel
theorem dX8_found_76 : decode cX8_found 76 = .ok (.iconst 0, 1) := by decide +kernel
theorem dX8_found_77 : decode cX8_found 77 = .ok (.putfield 212, 3) := by decide +kernel
theorem dX8_found_80 : decode cX8_found 80 = .ok (.iload_n 3, 1) := by decide +kernel
theorem dX8_found_81 : decode cX8_found 81 = .ok (.ifCond .eq 14, 3) := by decide +kernel
theorem dX8_found_84 : decode cX8_found 84 = .ok (.aload_n 0, 1) := by decide +kernel
theorem dX8_found_85 : decode cX8_found 85 = .ok (.iload 4, 2) := by decide +kernel
theorem dX8_found_87 : decode cX8_found 87 = .ok (.iload_n 1, 1) := by decide +kernel
theorem dX8_found_88 : decode cX8_found 88 = .ok (.iload_n 2, 1) := by decide +kernel
theorem dX8_found_89 : decode cX8_found 89 = .ok (.invokevirtual 316, 3) := by decide +kernel
theorem dX8_found_92 : decode cX8_found 92 = .ok (.goto 4, 3) := by decide +kernel
theorem dX8_found_95 : decode cX8_found 95 = .ok (.iconst (-1), 1) := by decide +kernel
theorem dX8_found_96 : decode cX8_found 96 = .ok (.ireturn, 1) := by decide +kernel
theorem dX8_findAgent_0 : decode cX8_findAgent 0 = .ok (.aload_n 0, 1) := by decide +kernel
theorem dX8_findAgent_1 : decode cX8_findAgent 1 = .ok (.iconst 0, 1) := by decide +kernel
theorem dX8_findAgent_2 : decode cX8_findAgent 2 = .ok (.putfield 3, 3) := by decide +kernel
theorem dX8_findAgent_5 : decode cX8_findAgent 5 = .ok (.aload_n 0, 1) := by decide +kernel
theorem dX8_findAgent_6 : decode cX8_findAgent 6 = .ok (.bipush 9, 2) := by decide +kernel
theorem dX8_findAgent_8 : decode cX8_findAgent 8 = .ok (.aload_n 0, 1) := by decide +kernel
theorem dX8_findAgent_9 : decode cX8_findAgent 9 = .ok (.invokevirtual 66, 3) := by decide +kernel
theorem dX8_findAgent_12 : decode cX8_findAgent 12 = .ok (.invokevirtual 349, 3) := by decide +kernel
theorem dX8_findAgent_15 : decode cX8_findAgent 15 = .ok (.ireturn, 1) := by decide +kernel
theorem dX8_findWay_0 : decode cX8_findWay 0 = .ok (.aload_n 0, 1) := by decide +kernel
theorem dX8_findWay_1 : decode cX8_findWay 1 = .ok (.iconst 0, 1) := by decide +kernel
theorem dX8_findWay_2 : decode cX8_findWay 2 = .ok (.putfield 3, 3) := by decide +kernel
theorem dX8_findWay_5 : decode cX8_findWay 5 = .ok (.aload_n 0, 1) := by decide +kernel
theorem dX8_findWay_6 : decode cX8_findWay 6 = .ok (.bipush 15, 2) := by decide +kernel
theorem dX8_findWay_8 : decode cX8_findWay 8 = .ok (.aload_n 0, 1) := by decide +kernel
theorem dX8_findWay_9 : decode cX8_findWay 9 = .ok (.invokevirtual 74, 3) := by decide +kernel
theorem dX8_findWay_12 : decode cX8_findWay 12 = .ok (.invokevirtual 349, 3) := by decide +kernel
theorem dX8_findWay_15 : decode cX8_findWay 15 = .ok (.ireturn, 1) := by decide +kernel
theorem dX8_neighborsOf_0 : decode cX8_neighborsOf 0 = .ok (.iconst 0, 1) := by decide +kernel
theorem dX8_neighborsOf_1 : decode cX8_neighborsOf 1 = .ok (.istore_n 2, 1) := by decide +kernel
theorem dX8_neighborsOf_2 : decode cX8_neighborsOf 2 = .ok (.iconst 0, 1) := by decide +kernel
theorem dX8_neighborsOf_3 : decode cX8_neighborsOf 3 = .ok (.istore_n 3, 1) := by decide +kernel
theorem dX8_neighborsOf_4 : decode cX8_neighborsOf 4 = .ok (.iload_n 3, 1) := by decide +kernel
theorem dX8_neighborsOf_5 : decode cX8_neighborsOf 5 = .ok (.aload_n 0, 1) := by decide +kernel
theorem dX8_neighborsOf_6 : decode cX8_neighborsOf 6 = .ok (.invokevirtual 66, 3) := by decide +kernel
theorem dX8_neighborsOf_9 : decode cX8_neighborsOf 9 = .ok (.if_icmp .ge 28, 3) := by decide +kernel
theorem dX8_neighborsOf_12 : decode cX8_neighborsOf 12 = .ok (.iload_n 2, 1) := by decide +kernel
theorem dX8_neighborsOf_13 : decode cX8_neighborsOf 13 = .ok (.aload_n 0, 1) := by decide +kernel
theorem dX8_neighborsOf_14 : decode cX8_neighborsOf 14 = .ok (.iload_n 1, 1) := by decide +kernel
theorem dX8_neighborsOf_15 : decode cX8_neighborsOf 15 = .ok (.iload_n 3, 1) := by decide +kernel
theorem dX8_neighborsOf_16 : decode cX8_neighborsOf 16 = .ok (.invokevirtual 131, 3) := by decide +kernel
theorem dX8_neighborsOf_19 : decode cX8_neighborsOf 19 = .ok (.ifCond .eq 9, 3) := by decide +kernel
theorem dX8_neighborsOf_22 : decode cX8_neighborsOf 22 = .ok (.iconst 1, 1) := by decide +kernel
theorem dX8_neighborsOf_23 : decode cX8_neighborsOf 23 = .ok (.iload_n 3, 1) := by decide +kernel
theorem dX8_neighborsOf_24 : decode cX8_neighborsOf 24 = .ok (.ishl, 1) := by decide +kernel
theorem dX8_neighborsOf_25 : decode cX8_neighborsOf 25 = .ok (.goto 4, 3) := by decide +kernel
theorem dX8_neighborsOf_28 : decode cX8_neighborsOf 28 = .ok (.iconst 0, 1) := by decide +kernel
theorem dX8_neighborsOf_29 : decode cX8_neighborsOf 29 = .ok (.ior, 1) := by decide +kernel
theorem dX8_neighborsOf_30 : decode cX8_neighborsOf 30 = .ok (.istore_n 2, 1) := by decide +kernel
theorem dX8_neighborsOf_31 : decode cX8_neighborsOf 31 = .ok (.iinc 3 1, 3) := by decide +kernel
theorem dX8_neighborsOf_34 : decode cX8_neighborsOf 34 = .ok (.goto (-30), 3) := by decide +kernel
theorem dX8_neighborsOf_37 : decode cX8_neighborsOf 37 = .ok (.iload_n 2, 1) := by decide +kernel
theorem dX8_neighborsOf_38 : decode cX8_neighborsOf 38 = .ok (.ireturn, 1) := by decide +kernel
theorem dX8_bits_0 : decode cX8_bits 0 = .ok (.iconst 0, 1) := by decide +kernel
theorem dX8_bits_1 : decode cX8_bits 1 = .ok (.istore_n 1, 1) := by decide +kernel
theorem dX8_bits_2 : decode cX8_bits 2 = .ok (.iconst 0, 1) := by decide +kernel
theorem dX8_bits_3 : decode cX8_bits 3 = .ok (.istore_n 2, 1) := by decide +kernel
theorem dX8_bits_4 : decode cX8_bits 4 = .ok (.iload_n 2, 1) := by decide +kernel
theorem dX8_bits_5 : decode cX8_bits 5 = .ok (.bipush 6, 2) := by decide +kernel
theorem dX8_bits_7 : decode cX8_bits 7 = .ok (.if_icmp .ge 17, 3) := by decide +kernel
theorem dX8_bits_10 : decode cX8_bits 10 = .ok (.iload_n 1, 1) := by decide +kernel
theorem dX8_bits_11 : decode cX8_bits 11 = .ok (.iload_n 0, 1) := by decide +kernel
theorem dX8_bits_12 : decode cX8_bits 12 = .ok (.iload_n 2, 1) := by decide +kernel
theorem dX8_bits_13 : decode cX8_bits 13 = .ok (.ishr, 1) := by decide +kernel
theorem dX8_bits_14 : decode cX8_bits 14 = .ok (.iconst 1, 1) := by decide +kernel
theorem dX8_bits_15 : decode cX8_bits 15 = .ok (.iand, 1) := by decide +kernel
theorem dX8_bits_16 : decode cX8_bits 16 = .ok (.iadd, 1) := by decide +kernel
theorem dX8_bits_17 : decode cX8_bits 17 = .ok (.istore_n 1, 1) := by decide +kernel
theorem dX8_bits_18 : decode cX8_bits 18 = .ok (.iinc 2 1, 3) := by decide +kernel
theorem dX8_bits_21 : decode cX8_bits 21 = .ok (.goto (-17), 3) := by decide +kernel
theorem dX8_bits_24 : decode cX8_bits 24 = .ok (.iload_n 1, 1) := by decide +kernel
theorem dX8_bits_25 : decode cX8_bits 25 = .ok (.ireturn, 1) := by decide +kernel
theorem dX8_links_0 : decode cX8_links 0 = .ok (.iconst 0, 1) := by decide +kernel
theorem dX8_links_1 : decode cX8_links 1 = .ok (.istore_n 1, 1) := by decide +kernel
theorem dX8_links_2 : decode cX8_links 2 = .ok (.iconst 0, 1) := by decide +kernel
theorem dX8_links_3 : decode cX8_links 3 = .ok (.istore_n 2, 1) := by decide +kernel
theorem dX8_links_4 : decode cX8_links 4 = .ok (.iload_n 2, 1) := by decide +kernel
theorem dX8_links_5 : decode cX8_links 5 = .ok (.aload_n 0, 1) := by decide +kernel
theorem dX8_links_6 : decode cX8_links 6 = .ok (.invokevirtual 66, 3) := by decide +kernel
theorem dX8_links_9 : decode cX8_links 9 = .ok (.if_icmp .ge 20, 3) := by decide +kernel
theorem dX8_links_12 : decode cX8_links 12 = .ok (.iload_n 1, 1) := by decide +kernel
theorem dX8_links_13 : decode cX8_links 13 = .ok (.aload_n 0, 1) := by decide +kernel
theorem dX8_links_14 : decode cX8_links 14 = .ok (.iload_n 2, 1) := by decide +kernel
theorem dX8_links_15 : decode cX8_links 15 = .ok (.invokevirtual 352, 3) := by decide +kernel
theorem dX8_links_18 : decode cX8_links 18 = .ok (.invokestatic 355, 3) := by decide +kernel
theorem dX8_links_21 : decode cX8_links 21 = .ok (.iadd, 1) := by decide +kernel
theorem dX8_links_22 : decode cX8_links 22 = .ok (.istore_n 1, 1) := by decide +kernel
theorem dX8_links_23 : decode cX8_links 23 = .ok (.iinc 2 1, 3) := by decide +kernel
theorem dX8_links_26 : decode cX8_links 26 = .ok (.goto (-22), 3) := by decide +kernel
theorem dX8_links_29 : decode cX8_links 29 = .ok (.iload_n 1, 1) := by decide +kernel
theorem dX8_links_30 : decode cX8_links 30 = .ok (.iconst 2, 1) := by decide +kernel
theorem dX8_links_31 : decode cX8_links 31 = .ok (.idiv, 1) := by decide +kernel
theorem dX8_links_32 : decode cX8_links 32 = .ok (.ireturn, 1) := by decide +kernel
theorem dX8_property_0 : decode cX8_property 0 = .ok (.aload_n 0, 1) := by decide +kernel
theorem dX8_property_1 : decode cX8_property 1 = .ok (.iload_n 1, 1) := by decide +kernel
theorem dX8_property_2 : decode cX8_property 2 = .ok (.i2l, 1) := by decide +kernel
theorem dX8_property_3 : decode cX8_property 3 = .ok (.lconst 0, 1) := by decide +kernel
theorem dX8_property_4 : decode cX8_property 4 = .ok (.ldc2_w 358, 3) := by decide +kernel
theorem dX8_property_7 : decode cX8_property 7 = .ok (.invokestatic 70, 3) := by decide +kernel
theorem dX8_property_10 : decode cX8_property 10 = .ok (.invokevirtual 215, 3) := by decide +kernel
theorem dX8_property_13 : decode cX8_property 13 = .ok (.ifCond .ne 5, 3) := by decide +kernel
theorem dX8_property_16 : decode cX8_property 16 = .ok (.iconst 0, 1) := by decide +kernel
theorem dX8_property_17 : decode cX8_property 17 = .ok (.ireturn, 1) := by decide +kernel
theorem dX8_property_18 : decode cX8_property 18 = .ok (.iload_n 1, 1) := by decide +kernel
theorem dX8_property_19 : decode cX8_property 19 = .ok (.tableswitch 80 0 9 #[53, 58, 63, 80, 80, 80, 80, 80, 70, 75], 53) := by decide +kernel
theorem dX8_property_72 : decode cX8_property 72 = .ok (.aload_n 0, 1) := by decide +kernel
theorem dX8_property_73 : decode cX8_property 73 = .ok (.invokevirtual 66, 3) := by decide +kernel
theorem dX8_property_76 : decode cX8_property 76 = .ok (.ireturn, 1) := by decide +kernel
theorem dX8_property_77 : decode cX8_property 77 = .ok (.aload_n 0, 1) := by decide +kernel
theorem dX8_property_78 : decode cX8_property 78 = .ok (.invokevirtual 74, 3) := by decide +kernel
theorem dX8_property_81 : decode cX8_property 81 = .ok (.ireturn, 1) := by decide +kernel
theorem dX8_property_82 : decode cX8_property 82 = .ok (.aload_n 0, 1) := by decide +kernel
theorem dX8_property_83 : decode cX8_property 83 = .ok (.getfield 17, 3) := by decide +kernel
theorem dX8_property_86 : decode cX8_property 86 = .ok (.iconst 2, 1) := by decide +kernel
theorem dX8_property_87 : decode cX8_property 87 = .ok (.iaload, 1) := by decide +kernel
theorem dX8_property_88 : decode cX8_property 88 = .ok (.ireturn, 1) := by decide +kernel
theorem dX8_property_89 : decode cX8_property 89 = .ok (.aload_n 0, 1) := by decide +kernel
theorem dX8_property_90 : decode cX8_property 90 = .ok (.invokevirtual 160, 3) := by decide +kernel
theorem dX8_property_93 : decode cX8_property 93 = .ok (.ireturn, 1) := by decide +kernel
theorem dX8_property_94 : decode cX8_property 94 = .ok (.aload_n 0, 1) := by decide +kernel
theorem dX8_property_95 : decode cX8_property 95 = .ok (.invokevirtual 360, 3) := by decide +kernel
theorem dX8_property_98 : decode cX8_property 98 = .ok (.ireturn, 1) := by decide +kernel
theorem dX8_property_99 : decode cX8_property 99 = .ok (.aload_n 0, 1) := by decide +kernel
theorem dX8_property_100 : decode cX8_property 100 = .ok (.iload_n 1, 1) := by decide +kernel
theorem dX8_property_101 : decode cX8_property 101 = .ok (.iconst 3, 1) := by decide +kernel
theorem dX8_property_102 : decode cX8_property 102 = .ok (.isub, 1) := by decide +kernel
theorem dX8_property_103 : decode cX8_property 103 = .ok (.invokevirtual 110, 3) := by decide +kernel
theorem dX8_property_106 : decode cX8_property 106 = .ok (.ireturn, 1) := by decide +kernel
theorem dX8_areAgents_0 : decode cX8_areAgents 0 = .ok (.aload_n 0, 1) := by decide +kernel
theorem dX8_areAgents_1 : decode cX8_areAgents 1 = .ok (.iload_n 1, 1) := by decide +kernel
theorem dX8_areAgents_2 : decode cX8_areAgents 2 = .ok (.invokevirtual 88, 3) := by decide +kernel
theorem dX8_areAgents_5 : decode cX8_areAgents 5 = .ok (.ifCond .eq 15, 3) := by decide +kernel
theorem dX8_areAgents_8 : decode cX8_areAgents 8 = .ok (.aload_n 0, 1) := by decide +kernel
theorem dX8_areAgents_9 : decode cX8_areAgents 9 = .ok (.iload_n 2, 1) := by decide +kernel
theorem dX8_areAgents_10 : decode cX8_areAgents 10 = .ok (.invokevirtual 88, 3) := by decide +kernel
theorem dX8_areAgents_13 : decode cX8_areAgents 13 = .ok (.ifCond .eq 7, 3) := by decide +kernel
theorem dX8_areAgents_16 : decode cX8_areAgents 16 = .ok (.iconst 1, 1) := by decide +kernel
theorem dX8_areAgents_17 : decode cX8_areAgents 17 = .ok (.goto 4, 3) := by decide +kernel
theorem dX8_areAgents_20 : decode cX8_areAgents 20 = .ok (.iconst 0, 1) := by decide +kernel
theorem dX8_areAgents_21 : decode cX8_areAgents 21 = .ok (.ireturn, 1) := by decide +kernel
theorem dX8_trust_0 : decode cX8_trust 0 = .ok (.aload_n 0, 1) := by decide +kernel
theorem dX8_trust_1 : decode cX8_trust 1 = .ok (.aload_n 0, 1) := by decide +kernel
theorem dX8_trust_2 : decode cX8_trust 2 = .ok (.iload_n 1, 1) := by decide +kernel
theorem dX8_trust_3 : decode cX8_trust 3 = .ok (.iload_n 2, 1) := by decide +kernel
theorem dX8_trust_4 : decode cX8_trust 4 = .ok (.invokevirtual 363, 3) := by decide +kernel
theorem dX8_trust_7 : decode cX8_trust 7 = .ok (.invokevirtual 215, 3) := by decide +kernel
theorem dX8_trust_10 : decode cX8_trust 10 = .ok (.ifCond .eq 12, 3) := by decide +kernel
theorem dX8_trust_13 : decode cX8_trust 13 = .ok (.aload_n 0, 1) := by decide +kernel
theorem dX8_trust_14 : decode cX8_trust 14 = .ok (.iload_n 1, 1) := by decide +kernel
theorem dX8_trust_15 : decode cX8_trust 15 = .ok (.iload_n 2, 1) := by decide +kernel
theorem dX8_trust_16 : decode cX8_trust 16 = .ok (.invokevirtual 77, 3) := by decide +kernel
theorem dX8_trust_19 : decode cX8_trust 19 = .ok (.goto 4, 3) := by decide +kernel
theorem dX8_trust_22 : decode cX8_trust 22 = .ok (.iconst 0, 1) := by decide +kernel
theorem dX8_trust_23 : decode cX8_trust 23 = .ok (.ireturn, 1) := by decide +kernel
theorem dX8_neighbors_0 : decode cX8_neighbors 0 = .ok (.aload_n 0, 1) := by decide +kernel
theorem dX8_neighbors_1 : decode cX8_neighbors 1 = .ok (.aload_n 0, 1) := by decide +kernel
theorem dX8_neighbors_2 : decode cX8_neighbors 2 = .ok (.iload_n 1, 1) := by decide +kernel
theorem dX8_neighbors_3 : decode cX8_neighbors 3 = .ok (.invokevirtual 88, 3) := by decide +kernel
theorem dX8_neighbors_6 : decode cX8_neighbors 6 = .ok (.invokevirtual 215, 3) := by decide +kernel
theorem dX8_neighbors_9 : decode cX8_neighbors 9 = .ok (.ifCond .eq 11, 3) := by decide +kernel
theorem dX8_neighbors_12 : decode cX8_neighbors 12 = .ok (.aload_n 0, 1) := by decide +kernel
theorem dX8_neighbors_13 : decode cX8_neighbors 13 = .ok (.iload_n 1, 1) := by decide +kernel
theorem dX8_neighbors_14 : decode cX8_neighbors 14 = .ok (.invokevirtual 352, 3) := by decide +kernel
theorem dX8_neighbors_17 : decode cX8_neighbors 17 = .ok (.goto 4, 3) := by decide +kernel
theorem dX8_neighbors_20 : decode cX8_neighbors 20 = .ok (.iconst 0, 1) := by decide +kernel
theorem dX8_neighbors_21 : decode cX8_neighbors 21 = .ok (.ireturn, 1) := by decide +kernel
theorem dX8_distance_0 : decode cX8_distance 0 = .ok (.aload_n 0, 1) := by decide +kernel
theorem dX8_distance_1 : decode cX8_distance 1 = .ok (.aload_n 0, 1) := by decide +kernel
theorem dX8_distance_2 : decode cX8_distance 2 = .ok (.iload_n 1, 1) := by decide +kernel
theorem dX8_distance_3 : decode cX8_distance 3 = .ok (.iload_n 2, 1) := by decide +kernel
theorem dX8_distance_4 : decode cX8_distance 4 = .ok (.invokevirtual 363, 3) := by decide +kernel
theorem dX8_distance_7 : decode cX8_distance 7 = .ok (.invokevirtual 215, 3) := by decide +kernel
theorem dX8_distance_10 : decode cX8_distance 10 = .ok (.ifCond .ne 5, 3) := by decide +kernel
theorem dX8_distance_13 : decode cX8_distance 13 = .ok (.iconst 0, 1) := by decide +kernel
theorem dX8_distance_14 : decode cX8_distance 14 = .ok (.ireturn, 1) := by decide +kernel
theorem dX8_distance_15 : decode cX8_distance 15 = .ok (.iconst 1, 1) := by decide +kernel
theorem dX8_distance_16 : decode cX8_distance 16 = .ok (.iload_n 1, 1) := by decide +kernel
theorem dX8_distance_17 : decode cX8_distance 17 = .ok (.ishl, 1) := by decide +kernel
theorem dX8_distance_18 : decode cX8_distance 18 = .ok (.istore_n 3, 1) := by decide +kernel
theorem dX8_distance_19 : decode cX8_distance 19 = .ok (.iconst 0, 1) := by decide +kernel
theorem dX8_distance_20 : decode cX8_distance 20 = .ok (.istore 4, 2) := by decide +kernel
theorem dX8_distance_22 : decode cX8_distance 22 = .ok (.iload 4, 2) := by decide +kernel
theorem dX8_distance_24 : decode cX8_distance 24 = .ok (.bipush 6, 2) := by decide +kernel
theorem dX8_distance_26 : decode cX8_distance 26 = .ok (.if_icmp .ge 70, 3) := by decide +kernel
theorem dX8_distance_29 : decode cX8_distance 29 = .ok (.iload_n 3, 1) := by decide +kernel
theorem dX8_distance_30 : decode cX8_distance 30 = .ok (.iload_n 2, 1) := by decide +kernel
theorem dX8_distance_31 : decode cX8_distance 31 = .ok (.ishr, 1) := by decide +kernel
theorem dX8_distance_32 : decode cX8_distance 32 = .ok (.iconst 1, 1) := by decide +kernel
theorem dX8_distance_33 : decode cX8_distance 33 = .ok (.iand, 1) := by decide +kernel
theorem dX8_distance_34 : decode cX8_distance 34 = .ok (.iconst 1, 1) := by decide +kernel
theorem dX8_distance_35 : decode cX8_distance 35 = .ok (.if_icmp .ne 6, 3) := by decide +kernel
theorem dX8_distance_38 : decode cX8_distance 38 = .ok (.iload 4, 2) := by decide +kernel
theorem dX8_distance_40 : decode cX8_distance 40 = .ok (.ireturn, 1) := by decide +kernel
theorem dX8_distance_41 : decode cX8_distance 41 = .ok (.iload_n 3, 1) := by decide +kernel
theorem dX8_distance_42 : decode cX8_distance 42 = .ok (.istore 5, 2) := by decide +kernel
theorem dX8_distance_44 : decode cX8_distance 44 = .ok (.iconst 0, 1) := by decide +kernel
theorem dX8_distance_45 : decode cX8_distance 45 = .ok (.istore 6, 2) := by decide +kernel
theorem dX8_distance_47 : decode cX8_distance 47 = .ok (.iload 6, 2) := by decide +kernel
theorem dX8_distance_49 : decode cX8_distance 49 = .ok (.aload_n 0, 1) := by decide +kernel
theorem dX8_distance_50 : decode cX8_distance 50 = .ok (.invokevirtual 66, 3) := by decide +kernel
theorem dX8_distance_53 : decode cX8_distance 53 = .ok (.if_icmp .ge 34, 3) := by decide +kernel
theorem dX8_distance_56 : decode cX8_distance 56 = .ok (.iload 5, 2) := by decide +kernel
theorem dX8_distance_58 : decode cX8_distance 58 = .ok (.iload_n 3, 1) := by decide +kernel
theorem dX8_distance_59 : decode cX8_distance 59 = .ok (.iload 6, 2) := by decide +kernel
theorem dX8_distance_61 : decode cX8_distance 61 = .ok (.ishr, 1) := by decide +kernel
theorem dX8_distance_62 : decode cX8_distance 62 = .ok (.iconst 1, 1) := by decide +kernel
theorem dX8_distance_63 : decode cX8_distance 63 = .ok (.iand, 1) := by decide +kernel
theorem dX8_distance_64 : decode cX8_distance 64 = .ok (.iconst 1, 1) := by decide +kernel
theorem dX8_distance_65 : decode cX8_distance 65 = .ok (.if_icmp .ne 12, 3) := by decide +kernel
theorem dX8_distance_68 : decode cX8_distance 68 = .ok (.aload_n 0, 1) := by decide +kernel
theorem dX8_distance_69 : decode cX8_distance 69 = .ok (.iload 6, 2) := by decide +kernel
theorem dX8_distance_71 : decode cX8_distance 71 = .ok (.invokevirtual 352, 3) := by decide +kernel
theorem dX8_distance_74 : decode cX8_distance 74 = .ok (.goto 4, 3) := by decide +kernel
theorem dX8_distance_77 : decode cX8_distance 77 = .ok (.iconst 0, 1) := by decide +kernel
theorem dX8_distance_78 : decode cX8_distance 78 = .ok (.ior, 1) := by decide +kernel
theorem dX8_distance_79 : decode cX8_distance 79 = .ok (.istore 5, 2) := by decide +kernel
theorem dX8_distance_81 : decode cX8_distance 81 = .ok (.iinc 6 1, 3) := by decide +kernel
theorem dX8_distance_84 : decode cX8_distance 84 = .ok (.goto (-37), 3) := by decide +kernel
theorem dX8_distance_87 : decode cX8_distance 87 = .ok (.iload 5, 2) := by decide +kernel
theorem dX8_distance_89 : decode cX8_distance 89 = .ok (.istore_n 3, 1) := by decide +kernel
theorem dX8_distance_90 : decode cX8_distance 90 = .ok (.iinc 4 1, 3) := by decide +kernel
theorem dX8_distance_93 : decode cX8_distance 93 = .ok (.goto (-71), 3) := by decide +kernel
theorem dX8_distance_96 : decode cX8_distance 96 = .ok (.iconst (-1), 1) := by decide +kernel
theorem dX8_distance_97 : decode cX8_distance 97 = .ok (.ireturn, 1) := by decide +kernel
theorem dX8_mostTrusted_0 : decode cX8_mostTrusted 0 = .ok (.aload_n 0, 1) := by decide +kernel
theorem dX8_mostTrusted_1 : decode cX8_mostTrusted 1 = .ok (.aload_n 0, 1) := by decide +kernel
theorem dX8_mostTrusted_2 : decode cX8_mostTrusted 2 = .ok (.iload_n 1, 1) := by decide +kernel
theorem dX8_mostTrusted_3 : decode cX8_mostTrusted 3 = .ok (.invokevirtual 88, 3) := by decide +kernel
theorem dX8_mostTrusted_6 : decode cX8_mostTrusted 6 = .ok (.invokevirtual 215, 3) := by decide +kernel
theorem dX8_mostTrusted_9 : decode cX8_mostTrusted 9 = .ok (.ifCond .ne 5, 3) := by decide +kernel
theorem dX8_mostTrusted_12 : decode cX8_mostTrusted 12 = .ok (.iconst 0, 1) := by decide +kernel
theorem dX8_mostTrusted_13 : decode cX8_mostTrusted 13 = .ok (.ireturn, 1) := by decide +kernel
theorem dX8_mostTrusted_14 : decode cX8_mostTrusted 14 = .ok (.iconst (-1), 1) := by decide +kernel
theorem dX8_mostTrusted_15 : decode cX8_mostTrusted 15 = .ok (.istore_n 2, 1) := by decide +kernel
theorem dX8_mostTrusted_16 : decode cX8_mostTrusted 16 = .ok (.iconst 0, 1) := by decide +kernel
theorem dX8_mostTrusted_17 : decode cX8_mostTrusted 17 = .ok (.istore_n 3, 1) := by decide +kernel
theorem dX8_mostTrusted_18 : decode cX8_mostTrusted 18 = .ok (.iload_n 3, 1) := by decide +kernel
theorem dX8_mostTrusted_19 : decode cX8_mostTrusted 19 = .ok (.aload_n 0, 1) := by decide +kernel
theorem dX8_mostTrusted_20 : decode cX8_mostTrusted 20 = .ok (.invokevirtual 66, 3) := by decide +kernel
theorem dX8_mostTrusted_23 : decode cX8_mostTrusted 23 = .ok (.if_icmp .ge 40, 3) := by decide +kernel
theorem dX8_mostTrusted_26 : decode cX8_mostTrusted 26 = .ok (.aload_n 0, 1) := by decide +kernel
theorem dX8_mostTrusted_27 : decode cX8_mostTrusted 27 = .ok (.iload_n 1, 1) := by decide +kernel
theorem dX8_mostTrusted_28 : decode cX8_mostTrusted 28 = .ok (.iload_n 3, 1) := by decide +kernel
theorem dX8_mostTrusted_29 : decode cX8_mostTrusted 29 = .ok (.invokevirtual 131, 3) := by decide +kernel
theorem dX8_mostTrusted_32 : decode cX8_mostTrusted 32 = .ok (.ifCond .eq 25, 3) := by decide +kernel
theorem dX8_mostTrusted_35 : decode cX8_mostTrusted 35 = .ok (.iload_n 2, 1) := by decide +kernel
theorem dX8_mostTrusted_36 : decode cX8_mostTrusted 36 = .ok (.iconst (-1), 1) := by decide +kernel
theorem dX8_mostTrusted_37 : decode cX8_mostTrusted 37 = .ok (.if_icmp .eq 18, 3) := by decide +kernel
theorem dX8_mostTrusted_40 : decode cX8_mostTrusted 40 = .ok (.aload_n 0, 1) := by decide +kernel
theorem dX8_mostTrusted_41 : decode cX8_mostTrusted 41 = .ok (.iload_n 1, 1) := by decide +kernel
theorem dX8_mostTrusted_42 : decode cX8_mostTrusted 42 = .ok (.iload_n 3, 1) := by decide +kernel
theorem dX8_mostTrusted_43 : decode cX8_mostTrusted 43 = .ok (.invokevirtual 77, 3) := by decide +kernel
theorem dX8_mostTrusted_46 : decode cX8_mostTrusted 46 = .ok (.aload_n 0, 1) := by decide +kernel
theorem dX8_mostTrusted_47 : decode cX8_mostTrusted 47 = .ok (.iload_n 1, 1) := by decide +kernel
theorem dX8_mostTrusted_48 : decode cX8_mostTrusted 48 = .ok (.iload_n 2, 1) := by decide +kernel
theorem dX8_mostTrusted_49 : decode cX8_mostTrusted 49 = .ok (.invokevirtual 77, 3) := by decide +kernel
theorem dX8_mostTrusted_52 : decode cX8_mostTrusted 52 = .ok (.if_icmp .le 5, 3) := by decide +kernel
theorem dX8_mostTrusted_55 : decode cX8_mostTrusted 55 = .ok (.iload_n 3, 1) := by decide +kernel
theorem dX8_mostTrusted_56 : decode cX8_mostTrusted 56 = .ok (.istore_n 2, 1) := by decide +kernel
theorem dX8_mostTrusted_57 : decode cX8_mostTrusted 57 = .ok (.iinc 3 1, 3) := by decide +kernel
theorem dX8_mostTrusted_60 : decode cX8_mostTrusted 60 = .ok (.goto (-42), 3) := by decide +kernel
theorem dX8_mostTrusted_63 : decode cX8_mostTrusted 63 = .ok (.iload_n 2, 1) := by decide +kernel
theorem dX8_mostTrusted_64 : decode cX8_mostTrusted 64 = .ok (.ireturn, 1) := by decide +kernel
theorem dX8_standing_0 : decode cX8_standing 0 = .ok (.aload_n 0, 1) := by decide +kernel
theorem dX8_standing_1 : decode cX8_standing 1 = .ok (.aload_n 0, 1) := by decide +kernel
theorem dX8_standing_2 : decode cX8_standing 2 = .ok (.iload_n 1, 1) := by decide +kernel
theorem dX8_standing_3 : decode cX8_standing 3 = .ok (.invokevirtual 88, 3) := by decide +kernel
theorem dX8_standing_6 : decode cX8_standing 6 = .ok (.invokevirtual 215, 3) := by decide +kernel
theorem dX8_standing_9 : decode cX8_standing 9 = .ok (.ifCond .ne 5, 3) := by decide +kernel
theorem dX8_standing_12 : decode cX8_standing 12 = .ok (.fconst 0, 1) := by decide +kernel
theorem dX8_standing_13 : decode cX8_standing 13 = .ok (.freturn, 1) := by decide +kernel
theorem dX8_standing_14 : decode cX8_standing 14 = .ok (.iconst 0, 1) := by decide +kernel
theorem dX8_standing_15 : decode cX8_standing 15 = .ok (.istore_n 2, 1) := by decide +kernel
theorem dX8_standing_16 : decode cX8_standing 16 = .ok (.iconst 0, 1) := by decide +kernel
theorem dX8_standing_17 : decode cX8_standing 17 = .ok (.istore_n 3, 1) := by decide +kernel
theorem dX8_standing_18 : decode cX8_standing 18 = .ok (.iload_n 3, 1) := by decide +kernel
theorem dX8_standing_19 : decode cX8_standing 19 = .ok (.aload_n 0, 1) := by decide +kernel
theorem dX8_standing_20 : decode cX8_standing 20 = .ok (.invokevirtual 66, 3) := by decide +kernel
theorem dX8_standing_23 : decode cX8_standing 23 = .ok (.if_icmp .ge 31, 3) := by decide +kernel
theorem dX8_standing_26 : decode cX8_standing 26 = .ok (.iload_n 2, 1) := by decide +kernel
theorem dX8_standing_27 : decode cX8_standing 27 = .ok (.aload_n 0, 1) := by decide +kernel
theorem dX8_standing_28 : decode cX8_standing 28 = .ok (.iload_n 1, 1) := by decide +kernel
theorem dX8_standing_29 : decode cX8_standing 29 = .ok (.iload_n 3, 1) := by decide +kernel
theorem dX8_standing_30 : decode cX8_standing 30 = .ok (.invokevirtual 131, 3) := by decide +kernel
theorem dX8_standing_33 : decode cX8_standing 33 = .ok (.ifCond .eq 12, 3) := by decide +kernel
theorem dX8_standing_36 : decode cX8_standing 36 = .ok (.aload_n 0, 1) := by decide +kernel
theorem dX8_standing_37 : decode cX8_standing 37 = .ok (.iload_n 3, 1) := by decide +kernel
theorem dX8_standing_38 : decode cX8_standing 38 = .ok (.iload_n 1, 1) := by decide +kernel
theorem dX8_standing_39 : decode cX8_standing 39 = .ok (.invokevirtual 77, 3) := by decide +kernel
theorem dX8_standing_42 : decode cX8_standing 42 = .ok (.goto 4, 3) := by decide +kernel
theorem dX8_standing_45 : decode cX8_standing 45 = .ok (.iconst 0, 1) := by decide +kernel
theorem dX8_standing_46 : decode cX8_standing 46 = .ok (.iadd, 1) := by decide +kernel
theorem dX8_standing_47 : decode cX8_standing 47 = .ok (.istore_n 2, 1) := by decide +kernel
theorem dX8_standing_48 : decode cX8_standing 48 = .ok (.iinc 3 1, 3) := by decide +kernel
theorem dX8_standing_51 : decode cX8_standing 51 = .ok (.goto (-33), 3) := by decide +kernel
theorem dX8_standing_54 : decode cX8_standing 54 = .ok (.aload_n 0, 1) := by decide +kernel
theorem dX8_standing_55 : decode cX8_standing 55 = .ok (.iload_n 1, 1) := by decide +kernel
theorem dX8_standing_56 : decode cX8_standing 56 = .ok (.invokevirtual 352, 3) := by decide +kernel
theorem dX8_standing_59 : decode cX8_standing 59 = .ok (.invokestatic 355, 3) := by decide +kernel
theorem dX8_standing_62 : decode cX8_standing 62 = .ok (.istore_n 3, 1) := by decide +kernel
theorem dX8_standing_63 : decode cX8_standing 63 = .ok (.iload_n 3, 1) := by decide +kernel
theorem dX8_standing_64 : decode cX8_standing 64 = .ok (.ifCond .ne 7, 3) := by decide +kernel
theorem dX8_standing_67 : decode cX8_standing 67 = .ok (.fconst 0, 1) := by decide +kernel
theorem dX8_standing_68 : decode cX8_standing 68 = .ok (.goto 8, 3) := by decide +kernel
theorem dX8_standing_71 : decode cX8_standing 71 = .ok (.iload_n 2, 1) := by decide +kernel
theorem dX8_standing_72 : decode cX8_standing 72 = .ok (.i2f, 1) := by decide +kernel
theorem dX8_standing_73 : decode cX8_standing 73 = .ok (.iload_n 3, 1) := by decide +kernel
theorem dX8_standing_74 : decode cX8_standing 74 = .ok (.i2f, 1) := by decide +kernel
theorem dX8_standing_75 : decode cX8_standing 75 = .ok (.fdiv, 1) := by decide +kernel
theorem dX8_standing_76 : decode cX8_standing 76 = .ok (.freturn, 1) := by decide +kernel
theorem dX8_account_0 : decode cX8_account 0 = .ok (.aload_n 0, 1) := by decide +kernel
theorem dX8_account_1 : decode cX8_account 1 = .ok (.aload_n 0, 1) := by decide +kernel
theorem dX8_account_2 : decode cX8_account 2 = .ok (.iload_n 1, 1) := by decide +kernel
theorem dX8_account_3 : decode cX8_account 3 = .ok (.invokevirtual 88, 3) := by decide +kernel
theorem dX8_account_6 : decode cX8_account 6 = .ok (.iload_n 2, 1) := by decide +kernel
theorem dX8_account_7 : decode cX8_account 7 = .ok (.i2l, 1) := by decide +kernel
theorem dX8_account_8 : decode cX8_account 8 = .ok (.lconst 0, 1) := by decide +kernel
theorem dX8_account_9 : decode cX8_account 9 = .ok (.ldc2_w 366, 3) := by decide +kernel
theorem dX8_account_12 : decode cX8_account 12 = .ok (.invokestatic 70, 3) := by decide +kernel
theorem dX8_account_15 : decode cX8_account 15 = .ok (.invokevirtual 368, 3) := by decide +kernel
theorem dX8_account_18 : decode cX8_account 18 = .ok (.ifCond .eq 19, 3) := by decide +kernel
theorem dX8_account_21 : decode cX8_account 21 = .ok (.aload_n 0, 1) := by decide +kernel
theorem dX8_account_22 : decode cX8_account 22 = .ok (.getfield 17, 3) := by decide +kernel
theorem dX8_account_25 : decode cX8_account 25 = .ok (.bipush 57, 2) := by decide +kernel
theorem dX8_account_27 : decode cX8_account 27 = .ok (.iconst 5, 1) := by decide +kernel
theorem dX8_account_28 : decode cX8_account 28 = .ok (.iload_n 1, 1) := by decide +kernel
theorem dX8_account_29 : decode cX8_account 29 = .ok (.imul, 1) := by decide +kernel
theorem dX8_account_30 : decode cX8_account 30 = .ok (.iadd, 1) := by decide +kernel
theorem dX8_account_31 : decode cX8_account 31 = .ok (.iload_n 2, 1) := by decide +kernel
theorem dX8_account_32 : decode cX8_account 32 = .ok (.iadd, 1) := by decide +kernel
theorem dX8_account_33 : decode cX8_account 33 = .ok (.iaload, 1) := by decide +kernel
theorem dX8_account_34 : decode cX8_account 34 = .ok (.goto 4, 3) := by decide +kernel
theorem dX8_account_37 : decode cX8_account 37 = .ok (.iconst 0, 1) := by decide +kernel
theorem dX8_account_38 : decode cX8_account 38 = .ok (.ireturn, 1) := by decide +kernel
theorem dX8_reports_0 : decode cX8_reports 0 = .ok (.aload_n 0, 1) := by decide +kernel
theorem dX8_reports_1 : decode cX8_reports 1 = .ok (.aload_n 0, 1) := by decide +kernel
theorem dX8_reports_2 : decode cX8_reports 2 = .ok (.iload_n 1, 1) := by decide +kernel
theorem dX8_reports_3 : decode cX8_reports 3 = .ok (.invokevirtual 88, 3) := by decide +kernel
theorem dX8_reports_6 : decode cX8_reports 6 = .ok (.invokevirtual 215, 3) := by decide +kernel
theorem dX8_reports_9 : decode cX8_reports 9 = .ok (.ifCond .eq 11, 3) := by decide +kernel
theorem dX8_reports_12 : decode cX8_reports 12 = .ok (.aload_n 0, 1) := by decide +kernel
theorem dX8_reports_13 : decode cX8_reports 13 = .ok (.iload_n 1, 1) := by decide +kernel
theorem dX8_reports_14 : decode cX8_reports 14 = .ok (.invokevirtual 92, 3) := by decide +kernel
theorem dX8_reports_17 : decode cX8_reports 17 = .ok (.goto 4, 3) := by decide +kernel
theorem dX8_reports_20 : decode cX8_reports 20 = .ok (.iconst 0, 1) := by decide +kernel
theorem dX8_reports_21 : decode cX8_reports 21 = .ok (.ireturn, 1) := by decide +kernel
theorem dX8_report_0 : decode cX8_report 0 = .ok (.aload_n 0, 1) := by decide +kernel
theorem dX8_report_1 : decode cX8_report 1 = .ok (.aload_n 0, 1) := by decide +kernel
theorem dX8_report_2 : decode cX8_report 2 = .ok (.iload_n 1, 1) := by decide +kernel
theorem dX8_report_3 : decode cX8_report 3 = .ok (.iload_n 2, 1) := by decide +kernel
theorem dX8_report_4 : decode cX8_report 4 = .ok (.invokevirtual 372, 3) := by decide +kernel
theorem dX8_report_7 : decode cX8_report 7 = .ok (.iload_n 3, 1) := by decide +kernel
theorem dX8_report_8 : decode cX8_report 8 = .ok (.i2l, 1) := by decide +kernel
theorem dX8_report_9 : decode cX8_report 9 = .ok (.lconst 0, 1) := by decide +kernel
theorem dX8_report_10 : decode cX8_report 10 = .ok (.ldc2_w 347, 3) := by decide +kernel
theorem dX8_report_13 : decode cX8_report 13 = .ok (.invokestatic 70, 3) := by decide +kernel
theorem dX8_report_16 : decode cX8_report 16 = .ok (.invokevirtual 368, 3) := by decide +kernel
theorem dX8_report_19 : decode cX8_report 19 = .ok (.ifCond .eq 13, 3) := by decide +kernel
theorem dX8_report_22 : decode cX8_report 22 = .ok (.aload_n 0, 1) := by decide +kernel
theorem dX8_report_23 : decode cX8_report 23 = .ok (.iload_n 1, 1) := by decide +kernel
theorem dX8_report_24 : decode cX8_report 24 = .ok (.iload_n 2, 1) := by decide +kernel
theorem dX8_report_25 : decode cX8_report 25 = .ok (.iload_n 3, 1) := by decide +kernel
theorem dX8_report_26 : decode cX8_report 26 = .ok (.invokevirtual 95, 3) := by decide +kernel
theorem dX8_report_29 : decode cX8_report 29 = .ok (.goto 4, 3) := by decide +kernel
theorem dX8_report_32 : decode cX8_report 32 = .ok (.iconst 0, 1) := by decide +kernel
theorem dX8_report_33 : decode cX8_report 33 = .ok (.ireturn, 1) := by decide +kernel
theorem dX8_statusAt_0 : decode cX8_statusAt 0 = .ok (.aload_n 0, 1) := by decide +kernel
theorem dX8_statusAt_1 : decode cX8_statusAt 1 = .ok (.iload_n 1, 1) := by decide +kernel
theorem dX8_statusAt_2 : decode cX8_statusAt 2 = .ok (.aload_n 0, 1) := by decide +kernel
theorem dX8_statusAt_3 : decode cX8_statusAt 3 = .ok (.iload_n 1, 1) := by decide +kernel
theorem dX8_statusAt_4 : decode cX8_statusAt 4 = .ok (.iload_n 2, 1) := by decide +kernel
theorem dX8_statusAt_5 : decode cX8_statusAt 5 = .ok (.iconst 3, 1) := by decide +kernel
theorem dX8_statusAt_6 : decode cX8_statusAt 6 = .ok (.invokevirtual 95, 3) := by decide +kernel
theorem dX8_statusAt_9 : decode cX8_statusAt 9 = .ok (.invokevirtual 203, 3) := by decide +kernel
theorem dX8_statusAt_12 : decode cX8_statusAt 12 = .ok (.aload_n 0, 1) := by decide +kernel
theorem dX8_statusAt_13 : decode cX8_statusAt 13 = .ok (.getfield 30, 3) := by decide +kernel
theorem dX8_statusAt_16 : decode cX8_statusAt 16 = .ok (.iload_n 2, 1) := by decide +kernel
theorem dX8_statusAt_17 : decode cX8_statusAt 17 = .ok (.iaload, 1) := by decide +kernel
theorem dX8_statusAt_18 : decode cX8_statusAt 18 = .ok (.ireturn, 1) := by decide +kernel
theorem dX8_status_0 : decode cX8_status 0 = .ok (.aload_n 0, 1) := by decide +kernel
theorem dX8_status_1 : decode cX8_status 1 = .ok (.aload_n 0, 1) := by decide +kernel
theorem dX8_status_2 : decode cX8_status 2 = .ok (.iload_n 1, 1) := by decide +kernel
theorem dX8_status_3 : decode cX8_status 3 = .ok (.iload_n 2, 1) := by decide +kernel
theorem dX8_status_4 : decode cX8_status 4 = .ok (.invokevirtual 372, 3) := by decide +kernel
theorem dX8_status_7 : decode cX8_status 7 = .ok (.invokevirtual 215, 3) := by decide +kernel
theorem dX8_status_10 : decode cX8_status 10 = .ok (.ifCond .eq 12, 3) := by decide +kernel
theorem dX8_status_13 : decode cX8_status 13 = .ok (.aload_n 0, 1) := by decide +kernel
theorem dX8_status_14 : decode cX8_status 14 = .ok (.iload_n 1, 1) := by decide +kernel
theorem dX8_status_15 : decode cX8_status 15 = .ok (.iload_n 2, 1) := by decide +kernel
theorem dX8_status_16 : decode cX8_status 16 = .ok (.invokevirtual 375, 3) := by decide +kernel
theorem dX8_status_19 : decode cX8_status 19 = .ok (.goto 4, 3) := by decide +kernel
theorem dX8_status_22 : decode cX8_status 22 = .ok (.iconst 0, 1) := by decide +kernel
theorem dX8_status_23 : decode cX8_status 23 = .ok (.ireturn, 1) := by decide +kernel
theorem dX8_moved_0 : decode cX8_moved 0 = .ok (.aload_n 0, 1) := by decide +kernel
theorem dX8_moved_1 : decode cX8_moved 1 = .ok (.aload_n 0, 1) := by decide +kernel
theorem dX8_moved_2 : decode cX8_moved 2 = .ok (.iload_n 1, 1) := by decide +kernel
theorem dX8_moved_3 : decode cX8_moved 3 = .ok (.iload_n 2, 1) := by decide +kernel
theorem dX8_moved_4 : decode cX8_moved 4 = .ok (.invokevirtual 372, 3) := by decide +kernel
theorem dX8_moved_7 : decode cX8_moved 7 = .ok (.iload_n 3, 1) := by decide +kernel
theorem dX8_moved_8 : decode cX8_moved 8 = .ok (.i2l, 1) := by decide +kernel
theorem dX8_moved_9 : decode cX8_moved 9 = .ok (.lconst 0, 1) := by decide +kernel
theorem dX8_moved_10 : decode cX8_moved 10 = .ok (.lconst 1, 1) := by decide +kernel
theorem dX8_moved_11 : decode cX8_moved 11 = .ok (.invokestatic 70, 3) := by decide +kernel
theorem dX8_moved_14 : decode cX8_moved 14 = .ok (.invokevirtual 368, 3) := by decide +kernel
theorem dX8_moved_17 : decode cX8_moved 17 = .ok (.ifCond .ne 5, 3) := by decide +kernel
theorem dX8_moved_20 : decode cX8_moved 20 = .ok (.iconst 0, 1) := by decide +kernel
theorem dX8_moved_21 : decode cX8_moved 21 = .ok (.ireturn, 1) := by decide +kernel
theorem dX8_moved_22 : decode cX8_moved 22 = .ok (.aload_n 0, 1) := by decide +kernel
theorem dX8_moved_23 : decode cX8_moved 23 = .ok (.iload_n 1, 1) := by decide +kernel
theorem dX8_moved_24 : decode cX8_moved 24 = .ok (.iload_n 2, 1) := by decide +kernel
theorem dX8_moved_25 : decode cX8_moved 25 = .ok (.invokevirtual 179, 3) := by decide +kernel
theorem dX8_moved_28 : decode cX8_moved 28 = .ok (.ifCond .ne 15, 3) := by decide +kernel
theorem dX8_moved_31 : decode cX8_moved 31 = .ok (.aload_n 0, 1) := by decide +kernel
theorem dX8_moved_32 : decode cX8_moved 32 = .ok (.iload_n 1, 1) := by decide +kernel
theorem dX8_moved_33 : decode cX8_moved 33 = .ok (.iload_n 2, 1) := by decide +kernel
theorem dX8_moved_34 : decode cX8_moved 34 = .ok (.invokevirtual 182, 3) := by decide +kernel
theorem dX8_moved_37 : decode cX8_moved 37 = .ok (.iconst (-1), 1) := by decide +kernel
theorem dX8_moved_38 : decode cX8_moved 38 = .ok (.if_icmp .ne 5, 3) := by decide +kernel
theorem dX8_moved_41 : decode cX8_moved 41 = .ok (.iconst (-1), 1) := by decide +kernel
theorem dX8_moved_42 : decode cX8_moved 42 = .ok (.ireturn, 1) := by decide +kernel
theorem dX8_moved_43 : decode cX8_moved 43 = .ok (.iload_n 3, 1) := by decide +kernel
theorem dX8_moved_44 : decode cX8_moved 44 = .ok (.ifCond .ne 18, 3) := by decide +kernel
theorem dX8_moved_47 : decode cX8_moved 47 = .ok (.aload_n 0, 1) := by decide +kernel
theorem dX8_moved_48 : decode cX8_moved 48 = .ok (.iload_n 1, 1) := by decide +kernel
theorem dX8_moved_49 : decode cX8_moved 49 = .ok (.iload_n 2, 1) := by decide +kernel
theorem dX8_moved_50 : decode cX8_moved 50 = .ok (.aload_n 0, 1) := by decide +kernel
theorem dX8_moved_51 : decode cX8_moved 51 = .ok (.iload_n 1, 1) := by decide +kernel
theorem dX8_moved_52 : decode cX8_moved 52 = .ok (.iload_n 2, 1) := by decide +kernel
theorem dX8_moved_53 : decode cX8_moved 53 = .ok (.invokevirtual 200, 3) := by decide +kernel
theorem dX8_moved_56 : decode cX8_moved 56 = .ok (.invokevirtual 125, 3) := by decide +kernel
theorem dX8_moved_59 : decode cX8_moved 59 = .ok (.goto 15, 3) := by decide +kernel
theorem dX8_moved_62 : decode cX8_moved 62 = .ok (.aload_n 0, 1) := by decide +kernel
theorem dX8_moved_63 : decode cX8_moved 63 = .ok (.iload_n 1, 1) := by decide +kernel
theorem dX8_moved_64 : decode cX8_moved 64 = .ok (.iload_n 2, 1) := by decide +kernel
theorem dX8_moved_65 : decode cX8_moved 65 = .ok (.aload_n 0, 1) := by decide +kernel
theorem dX8_moved_66 : decode cX8_moved 66 = .ok (.iload_n 1, 1) := by decide +kernel
theorem dX8_moved_67 : decode cX8_moved 67 = .ok (.iload_n 2, 1) := by decide +kernel
theorem dX8_moved_68 : decode cX8_moved 68 = .ok (.invokevirtual 200, 3) := by decide +kernel
theorem dX8_moved_71 : decode cX8_moved 71 = .ok (.invokevirtual 128, 3) := by decide +kernel
theorem dX8_moved_74 : decode cX8_moved 74 = .ok (.ireturn, 1) := by decide +kernel
theorem dX8_areThere_0 : decode cX8_areThere 0 = .ok (.aload_n 0, 1) := by decide +kernel
theorem dX8_areThere_1 : decode cX8_areThere 1 = .ok (.iload_n 1, 1) := by decide +kernel
theorem dX8_areThere_2 : decode cX8_areThere 2 = .ok (.invokevirtual 88, 3) := by decide +kernel
theorem dX8_areThere_5 : decode cX8_areThere 5 = .ok (.ifCond .eq 15, 3) := by decide +kernel
theorem dX8_areThere_8 : decode cX8_areThere 8 = .ok (.aload_n 0, 1) := by decide +kernel
theorem dX8_areThere_9 : decode cX8_areThere 9 = .ok (.iload_n 2, 1) := by decide +kernel
theorem dX8_areThere_10 : decode cX8_areThere 10 = .ok (.invokevirtual 378, 3) := by decide +kernel
theorem dX8_areThere_13 : decode cX8_areThere 13 = .ok (.ifCond .eq 7, 3) := by decide +kernel
theorem dX8_areThere_16 : decode cX8_areThere 16 = .ok (.iconst 1, 1) := by decide +kernel
theorem dX8_areThere_17 : decode cX8_areThere 17 = .ok (.goto 4, 3) := by decide +kernel
theorem dX8_areThere_20 : decode cX8_areThere 20 = .ok (.iconst 0, 1) := by decide +kernel
theorem dX8_areThere_21 : decode cX8_areThere 21 = .ok (.ireturn, 1) := by decide +kernel
theorem dX8_own_0 : decode cX8_own 0 = .ok (.aload_n 0, 1) := by decide +kernel
theorem dX8_own_1 : decode cX8_own 1 = .ok (.aload_n 0, 1) := by decide +kernel
theorem dX8_own_2 : decode cX8_own 2 = .ok (.iload_n 1, 1) := by decide +kernel
theorem dX8_own_3 : decode cX8_own 3 = .ok (.iload_n 2, 1) := by decide +kernel
theorem dX8_own_4 : decode cX8_own 4 = .ok (.invokevirtual 381, 3) := by decide +kernel
theorem dX8_own_7 : decode cX8_own 7 = .ok (.invokevirtual 215, 3) := by decide +kernel
theorem dX8_own_10 : decode cX8_own 10 = .ok (.ifCond .eq 12, 3) := by decide +kernel
theorem dX8_own_13 : decode cX8_own 13 = .ok (.aload_n 0, 1) := by decide +kernel
theorem dX8_own_14 : decode cX8_own 14 = .ok (.iload_n 1, 1) := by decide +kernel
theorem dX8_own_15 : decode cX8_own 15 = .ok (.iload_n 2, 1) := by decide +kernel
theorem dX8_own_16 : decode cX8_own 16 = .ok (.invokevirtual 169, 3) := by decide +kernel
theorem dX8_own_19 : decode cX8_own 19 = .ok (.goto 4, 3) := by decide +kernel
theorem dX8_own_22 : decode cX8_own 22 = .ok (.iconst 0, 1) := by decide +kernel
theorem dX8_own_23 : decode cX8_own 23 = .ok (.ireturn, 1) := by decide +kernel
theorem dX8_boundOf_0 : decode cX8_boundOf 0 = .ok (.aload_n 0, 1) := by decide +kernel
theorem dX8_boundOf_1 : decode cX8_boundOf 1 = .ok (.iload_n 1, 1) := by decide +kernel
theorem dX8_boundOf_2 : decode cX8_boundOf 2 = .ok (.iload_n 2, 1) := by decide +kernel
theorem dX8_boundOf_3 : decode cX8_boundOf 3 = .ok (.invokevirtual 203, 3) := by decide +kernel
theorem dX8_boundOf_6 : decode cX8_boundOf 6 = .ok (.iload_n 3, 1) := by decide +kernel
theorem dX8_boundOf_7 : decode cX8_boundOf 7 = .ok (.ifCond .ne 10, 3) := by decide +kernel
theorem dX8_boundOf_10 : decode cX8_boundOf 10 = .ok (.aload_n 0, 1) := by decide +kernel
theorem dX8_boundOf_11 : decode cX8_boundOf 11 = .ok (.getfield 188, 3) := by decide +kernel
theorem dX8_boundOf_14 : decode cX8_boundOf 14 = .ok (.goto 7, 3) := by decide +kernel
theorem dX8_boundOf_17 : decode cX8_boundOf 17 = .ok (.aload_n 0, 1) := by decide +kernel
theorem dX8_boundOf_18 : decode cX8_boundOf 18 = .ok (.getfield 191, 3) := by decide +kernel
theorem dX8_boundOf_21 : decode cX8_boundOf 21 = .ok (.ireturn, 1) := by decide +kernel
theorem dX8_belief_0 : decode cX8_belief 0 = .ok (.aload_n 0, 1) := by decide +kernel
theorem dX8_belief_1 : decode cX8_belief 1 = .ok (.aload_n 0, 1) := by decide +kernel
theorem dX8_belief_2 : decode cX8_belief 2 = .ok (.iload_n 1, 1) := by decide +kernel
theorem dX8_belief_3 : decode cX8_belief 3 = .ok (.iload_n 2, 1) := by decide +kernel
theorem dX8_belief_4 : decode cX8_belief 4 = .ok (.invokevirtual 381, 3) := by decide +kernel
theorem dX8_belief_7 : decode cX8_belief 7 = .ok (.iload_n 3, 1) := by decide +kernel
theorem dX8_belief_8 : decode cX8_belief 8 = .ok (.i2l, 1) := by decide +kernel
theorem dX8_belief_9 : decode cX8_belief 9 = .ok (.lconst 0, 1) := by decide +kernel
theorem dX8_belief_10 : decode cX8_belief 10 = .ok (.lconst 1, 1) := by decide +kernel
theorem dX8_belief_11 : decode cX8_belief 11 = .ok (.invokestatic 70, 3) := by decide +kernel
theorem dX8_belief_14 : decode cX8_belief 14 = .ok (.invokevirtual 368, 3) := by decide +kernel
theorem dX8_belief_17 : decode cX8_belief 17 = .ok (.ifCond .eq 13, 3) := by decide +kernel
theorem dX8_belief_20 : decode cX8_belief 20 = .ok (.aload_n 0, 1) := by decide +kernel
theorem dX8_belief_21 : decode cX8_belief 21 = .ok (.iload_n 1, 1) := by decide +kernel
theorem dX8_belief_22 : decode cX8_belief 22 = .ok (.iload_n 2, 1) := by decide +kernel
theorem dX8_belief_23 : decode cX8_belief 23 = .ok (.iload_n 3, 1) := by decide +kernel
theorem dX8_belief_24 : decode cX8_belief 24 = .ok (.invokevirtual 384, 3) := by decide +kernel
theorem dX8_belief_27 : decode cX8_belief 27 = .ok (.goto 4, 3) := by decide +kernel
theorem dX8_belief_30 : decode cX8_belief 30 = .ok (.iconst 0, 1) := by decide +kernel
theorem dX8_belief_31 : decode cX8_belief 31 = .ok (.ireturn, 1) := by decide +kernel
theorem dX8_sources_0 : decode cX8_sources 0 = .ok (.aload_n 0, 1) := by decide +kernel
theorem dX8_sources_1 : decode cX8_sources 1 = .ok (.aload_n 0, 1) := by decide +kernel
theorem dX8_sources_2 : decode cX8_sources 2 = .ok (.iload_n 1, 1) := by decide +kernel
theorem dX8_sources_3 : decode cX8_sources 3 = .ok (.iload_n 2, 1) := by decide +kernel
theorem dX8_sources_4 : decode cX8_sources 4 = .ok (.invokevirtual 381, 3) := by decide +kernel
theorem dX8_sources_7 : decode cX8_sources 7 = .ok (.invokevirtual 215, 3) := by decide +kernel
theorem dX8_sources_10 : decode cX8_sources 10 = .ok (.ifCond .eq 13, 3) := by decide +kernel
theorem dX8_sources_13 : decode cX8_sources 13 = .ok (.aload_n 0, 1) := by decide +kernel
theorem dX8_sources_14 : decode cX8_sources 14 = .ok (.iload_n 1, 1) := by decide +kernel
theorem dX8_sources_15 : decode cX8_sources 15 = .ok (.iload_n 2, 1) := by decide +kernel
theorem dX8_sources_16 : decode cX8_sources 16 = .ok (.iconst 0, 1) := by decide +kernel
theorem dX8_sources_17 : decode cX8_sources 17 = .ok (.invokevirtual 387, 3) := by decide +kernel
theorem dX8_sources_20 : decode cX8_sources 20 = .ok (.goto 4, 3) := by decide +kernel
theorem dX8_sources_23 : decode cX8_sources 23 = .ok (.iconst 0, 1) := by decide +kernel
theorem dX8_sources_24 : decode cX8_sources 24 = .ok (.ireturn, 1) := by decide +kernel
theorem dX8_contradicted_0 : decode cX8_contradicted 0 = .ok (.aload_n 0, 1) := by decide +kernel
theorem dX8_contradicted_1 : decode cX8_contradicted 1 = .ok (.aload_n 0, 1) := by decide +kernel
theorem dX8_contradicted_2 : decode cX8_contradicted 2 = .ok (.iload_n 1, 1) := by decide +kernel
theorem dX8_contradicted_3 : decode cX8_contradicted 3 = .ok (.iload_n 2, 1) := by decide +kernel
theorem dX8_contradicted_4 : decode cX8_contradicted 4 = .ok (.invokevirtual 381, 3) := by decide +kernel
theorem dX8_contradicted_7 : decode cX8_contradicted 7 = .ok (.invokevirtual 215, 3) := by decide +kernel
theorem dX8_contradicted_10 : decode cX8_contradicted 10 = .ok (.ifCond .eq 13, 3) := by decide +kernel
theorem dX8_contradicted_13 : decode cX8_contradicted 13 = .ok (.aload_n 0, 1) := by decide +kernel
theorem dX8_contradicted_14 : decode cX8_contradicted 14 = .ok (.iload_n 1, 1) := by decide +kernel
theorem dX8_contradicted_15 : decode cX8_contradicted 15 = .ok (.iload_n 2, 1) := by decide +kernel
theorem dX8_contradicted_16 : decode cX8_contradicted 16 = .ok (.iconst 1, 1) := by decide +kernel
theorem dX8_contradicted_17 : decode cX8_contradicted 17 = .ok (.invokevirtual 387, 3) := by decide +kernel
theorem dX8_contradicted_20 : decode cX8_contradicted 20 = .ok (.goto 4, 3) := by decide +kernel
theorem dX8_contradicted_23 : decode cX8_contradicted 23 = .ok (.iconst 0, 1) := by decide +kernel
theorem dX8_contradicted_24 : decode cX8_contradicted 24 = .ok (.ireturn, 1) := by decide +kernel
theorem dX8_best_0 : decode cX8_best 0 = .ok (.aload_n 0, 1) := by decide +kernel
theorem dX8_best_1 : decode cX8_best 1 = .ok (.aload_n 0, 1) := by decide +kernel
theorem dX8_best_2 : decode cX8_best 2 = .ok (.iload_n 1, 1) := by decide +kernel
theorem dX8_best_3 : decode cX8_best 3 = .ok (.invokevirtual 88, 3) := by decide +kernel
theorem dX8_best_6 : decode cX8_best 6 = .ok (.iload_n 2, 1) := by decide +kernel
theorem dX8_best_7 : decode cX8_best 7 = .ok (.i2l, 1) := by decide +kernel
theorem dX8_best_8 : decode cX8_best 8 = .ok (.lconst 0, 1) := by decide +kernel
theorem dX8_best_9 : decode cX8_best 9 = .ok (.ldc2_w 390, 3) := by decide +kernel
theorem dX8_best_12 : decode cX8_best 12 = .ok (.invokestatic 70, 3) := by decide +kernel
theorem dX8_best_15 : decode cX8_best 15 = .ok (.invokevirtual 368, 3) := by decide +kernel
theorem dX8_best_18 : decode cX8_best 18 = .ok (.ifCond .eq 12, 3) := by decide +kernel
theorem dX8_best_21 : decode cX8_best 21 = .ok (.aload_n 0, 1) := by decide +kernel
theorem dX8_best_22 : decode cX8_best 22 = .ok (.iload_n 1, 1) := by decide +kernel
theorem dX8_best_23 : decode cX8_best 23 = .ok (.iload_n 2, 1) := by decide +kernel
theorem dX8_best_24 : decode cX8_best 24 = .ok (.invokevirtual 209, 3) := by decide +kernel
theorem dX8_best_27 : decode cX8_best 27 = .ok (.goto 4, 3) := by decide +kernel
theorem dX8_best_30 : decode cX8_best 30 = .ok (.iconst 0, 1) := by decide +kernel
theorem dX8_best_31 : decode cX8_best 31 = .ok (.ireturn, 1) := by decide +kernel
theorem dX8_rivals_0 : decode cX8_rivals 0 = .ok (.aload_n 0, 1) := by decide +kernel
theorem dX8_rivals_1 : decode cX8_rivals 1 = .ok (.aload_n 0, 1) := by decide +kernel
theorem dX8_rivals_2 : decode cX8_rivals 2 = .ok (.iload_n 1, 1) := by decide +kernel
theorem dX8_rivals_3 : decode cX8_rivals 3 = .ok (.invokevirtual 88, 3) := by decide +kernel
theorem dX8_rivals_6 : decode cX8_rivals 6 = .ok (.invokevirtual 215, 3) := by decide +kernel
theorem dX8_rivals_9 : decode cX8_rivals 9 = .ok (.ifCond .eq 11, 3) := by decide +kernel
theorem dX8_rivals_12 : decode cX8_rivals 12 = .ok (.aload_n 0, 1) := by decide +kernel
theorem dX8_rivals_13 : decode cX8_rivals 13 = .ok (.iload_n 1, 1) := by decide +kernel
theorem dX8_rivals_14 : decode cX8_rivals 14 = .ok (.invokevirtual 392, 3) := by decide +kernel
theorem dX8_rivals_17 : decode cX8_rivals 17 = .ok (.goto 4, 3) := by decide +kernel
theorem dX8_rivals_20 : decode cX8_rivals 20 = .ok (.iconst 0, 1) := by decide +kernel
theorem dX8_rivals_21 : decode cX8_rivals 21 = .ok (.ireturn, 1) := by decide +kernel
theorem dX8_nextProbe_0 : decode cX8_nextProbe 0 = .ok (.aload_n 0, 1) := by decide +kernel
theorem dX8_nextProbe_1 : decode cX8_nextProbe 1 = .ok (.aload_n 0, 1) := by decide +kernel
theorem dX8_nextProbe_2 : decode cX8_nextProbe 2 = .ok (.iload_n 1, 1) := by decide +kernel
theorem dX8_nextProbe_3 : decode cX8_nextProbe 3 = .ok (.invokevirtual 88, 3) := by decide +kernel
theorem dX8_nextProbe_6 : decode cX8_nextProbe 6 = .ok (.invokevirtual 215, 3) := by decide +kernel
theorem dX8_nextProbe_9 : decode cX8_nextProbe 9 = .ok (.ifCond .ne 5, 3) := by decide +kernel
theorem dX8_nextProbe_12 : decode cX8_nextProbe 12 = .ok (.iconst 0, 1) := by decide +kernel
theorem dX8_nextProbe_13 : decode cX8_nextProbe 13 = .ok (.ireturn, 1) := by decide +kernel
theorem dX8_nextProbe_14 : decode cX8_nextProbe 14 = .ok (.aload_n 0, 1) := by decide +kernel
theorem dX8_nextProbe_15 : decode cX8_nextProbe 15 = .ok (.iload_n 1, 1) := by decide +kernel
theorem dX8_nextProbe_16 : decode cX8_nextProbe 16 = .ok (.invokevirtual 392, 3) := by decide +kernel
theorem dX8_nextProbe_19 : decode cX8_nextProbe 19 = .ok (.istore_n 2, 1) := by decide +kernel
theorem dX8_nextProbe_20 : decode cX8_nextProbe 20 = .ok (.iload_n 2, 1) := by decide +kernel
theorem dX8_nextProbe_21 : decode cX8_nextProbe 21 = .ok (.ifCond .ne 5, 3) := by decide +kernel
theorem dX8_nextProbe_24 : decode cX8_nextProbe 24 = .ok (.iconst (-1), 1) := by decide +kernel
theorem dX8_nextProbe_25 : decode cX8_nextProbe 25 = .ok (.ireturn, 1) := by decide +kernel
theorem dX8_nextProbe_26 : decode cX8_nextProbe 26 = .ok (.iload_n 2, 1) := by decide +kernel
theorem dX8_nextProbe_27 : decode cX8_nextProbe 27 = .ok (.iconst 1, 1) := by decide +kernel
theorem dX8_nextProbe_28 : decode cX8_nextProbe 28 = .ok (.aload_n 0, 1) := by decide +kernel
theorem dX8_nextProbe_29 : decode cX8_nextProbe 29 = .ok (.iload_n 1, 1) := by decide +kernel
theorem dX8_nextProbe_30 : decode cX8_nextProbe 30 = .ok (.iconst 0, 1) := by decide +kernel
theorem dX8_nextProbe_31 : decode cX8_nextProbe 31 = .ok (.invokevirtual 209, 3) := by decide +kernel
theorem dX8_nextProbe_34 : decode cX8_nextProbe 34 = .ok (.ishl, 1) := by decide +kernel
theorem dX8_nextProbe_35 : decode cX8_nextProbe 35 = .ok (.ior, 1) := by decide +kernel
theorem dX8_nextProbe_36 : decode cX8_nextProbe 36 = .ok (.istore_n 2, 1) := by decide +kernel
theorem dX8_nextProbe_37 : decode cX8_nextProbe 37 = .ok (.iconst (-1), 1) := by decide +kernel
theorem dX8_nextProbe_38 : decode cX8_nextProbe 38 = .ok (.istore_n 3, 1) := by decide +kernel
theorem dX8_nextProbe_39 : decode cX8_nextProbe 39 = .ok (.iconst (-1), 1) := by decide +kernel
theorem dX8_nextProbe_40 : decode cX8_nextProbe 40 = .ok (.istore 4, 2) := by decide +kernel
theorem dX8_nextProbe_42 : decode cX8_nextProbe 42 = .ok (.iconst 0, 1) := by decide +kernel
theorem dX8_nextProbe_43 : decode cX8_nextProbe 43 = .ok (.istore 5, 2) := by decide +kernel
theorem dX8_nextProbe_45 : decode cX8_nextProbe 45 = .ok (.iload 5, 2) := by decide +kernel
theorem dX8_nextProbe_47 : decode cX8_nextProbe 47 = .ok (.aload_n 0, 1) := by decide +kernel
theorem dX8_nextProbe_48 : decode cX8_nextProbe 48 = .ok (.invokevirtual 74, 3) := by decide +kernel
theorem dX8_nextProbe_51 : decode cX8_nextProbe 51 = .ok (.if_icmp .ge 44, 3) := by decide +kernel
theorem dX8_nextProbe_54 : decode cX8_nextProbe 54 = .ok (.aload_n 0, 1) := by decide +kernel
theorem dX8_nextProbe_55 : decode cX8_nextProbe 55 = .ok (.iload_n 1, 1) := by decide +kernel
theorem dX8_nextProbe_56 : decode cX8_nextProbe 56 = .ok (.iload 5, 2) := by decide +kernel
theorem dX8_nextProbe_58 : decode cX8_nextProbe 58 = .ok (.invokevirtual 395, 3) := by decide +kernel
theorem dX8_nextProbe_61 : decode cX8_nextProbe 61 = .ok (.istore 6, 2) := by decide +kernel
theorem dX8_nextProbe_63 : decode cX8_nextProbe 63 = .ok (.iload_n 2, 1) := by decide +kernel
theorem dX8_nextProbe_64 : decode cX8_nextProbe 64 = .ok (.iload 5, 2) := by decide +kernel
theorem dX8_nextProbe_66 : decode cX8_nextProbe 66 = .ok (.ishr, 1) := by decide +kernel
theorem dX8_nextProbe_67 : decode cX8_nextProbe 67 = .ok (.iconst 1, 1) := by decide +kernel
theorem dX8_nextProbe_68 : decode cX8_nextProbe 68 = .ok (.iand, 1) := by decide +kernel
theorem dX8_nextProbe_69 : decode cX8_nextProbe 69 = .ok (.ifCond .eq 20, 3) := by decide +kernel
theorem dX8_nextProbe_72 : decode cX8_nextProbe 72 = .ok (.iload 6, 2) := by decide +kernel
theorem dX8_nextProbe_74 : decode cX8_nextProbe 74 = .ok (.iload 4, 2) := by decide +kernel
theorem dX8_nextProbe_76 : decode cX8_nextProbe 76 = .ok (.if_icmp .gt 6, 3) := by decide +kernel
theorem dX8_nextProbe_79 : decode cX8_nextProbe 79 = .ok (.goto 10, 3) := by decide +kernel
theorem dX8_nextProbe_82 : decode cX8_nextProbe 82 = .ok (.iload 5, 2) := by decide +kernel
theorem dX8_nextProbe_84 : decode cX8_nextProbe 84 = .ok (.istore_n 3, 1) := by decide +kernel
theorem dX8_nextProbe_85 : decode cX8_nextProbe 85 = .ok (.iload 6, 2) := by decide +kernel
theorem dX8_nextProbe_87 : decode cX8_nextProbe 87 = .ok (.istore 4, 2) := by decide +kernel
theorem dX8_nextProbe_89 : decode cX8_nextProbe 89 = .ok (.iinc 5 1, 3) := by decide +kernel
theorem dX8_nextProbe_92 : decode cX8_nextProbe 92 = .ok (.goto (-47), 3) := by decide +kernel
theorem dX8_nextProbe_95 : decode cX8_nextProbe 95 = .ok (.iload_n 3, 1) := by decide +kernel
theorem dX8_nextProbe_96 : decode cX8_nextProbe 96 = .ok (.ireturn, 1) := by decide +kernel
theorem dX8_saved_0 : decode cX8_saved 0 = .ok (.aload_n 0, 1) := by decide +kernel
theorem dX8_saved_1 : decode cX8_saved 1 = .ok (.aload_n 0, 1) := by decide +kernel
theorem dX8_saved_2 : decode cX8_saved 2 = .ok (.iload_n 1, 1) := by decide +kernel
theorem dX8_saved_3 : decode cX8_saved 3 = .ok (.invokevirtual 88, 3) := by decide +kernel
theorem dX8_saved_6 : decode cX8_saved 6 = .ok (.invokevirtual 215, 3) := by decide +kernel
theorem dX8_saved_9 : decode cX8_saved 9 = .ok (.ifCond .ne 5, 3) := by decide +kernel
theorem dX8_saved_12 : decode cX8_saved 12 = .ok (.iconst 0, 1) := by decide +kernel
theorem dX8_saved_13 : decode cX8_saved 13 = .ok (.ireturn, 1) := by decide +kernel
theorem dX8_saved_14 : decode cX8_saved 14 = .ok (.iconst 0, 1) := by decide +kernel
theorem dX8_saved_15 : decode cX8_saved 15 = .ok (.istore_n 2, 1) := by decide +kernel
theorem dX8_saved_16 : decode cX8_saved 16 = .ok (.iconst 0, 1) := by decide +kernel
theorem dX8_saved_17 : decode cX8_saved 17 = .ok (.istore_n 3, 1) := by decide +kernel
theorem dX8_saved_18 : decode cX8_saved 18 = .ok (.iload_n 3, 1) := by decide +kernel
theorem dX8_saved_19 : decode cX8_saved 19 = .ok (.aload_n 0, 1) := by decide +kernel
theorem dX8_saved_20 : decode cX8_saved 20 = .ok (.invokevirtual 74, 3) := by decide +kernel
theorem dX8_saved_23 : decode cX8_saved 23 = .ok (.if_icmp .ge 39, 3) := by decide +kernel
theorem dX8_saved_26 : decode cX8_saved 26 = .ok (.iload_n 2, 1) := by decide +kernel
theorem dX8_saved_27 : decode cX8_saved 27 = .ok (.aload_n 0, 1) := by decide +kernel
theorem dX8_saved_28 : decode cX8_saved 28 = .ok (.iload_n 1, 1) := by decide +kernel
theorem dX8_saved_29 : decode cX8_saved 29 = .ok (.iload_n 3, 1) := by decide +kernel
theorem dX8_saved_30 : decode cX8_saved 30 = .ok (.invokevirtual 169, 3) := by decide +kernel
theorem dX8_saved_33 : decode cX8_saved 33 = .ok (.iconst (-1), 1) := by decide +kernel
theorem dX8_saved_34 : decode cX8_saved 34 = .ok (.if_icmp .ne 19, 3) := by decide +kernel
theorem dX8_saved_37 : decode cX8_saved 37 = .ok (.aload_n 0, 1) := by decide +kernel
theorem dX8_saved_38 : decode cX8_saved 38 = .ok (.iload_n 1, 1) := by decide +kernel
theorem dX8_saved_39 : decode cX8_saved 39 = .ok (.iload_n 3, 1) := by decide +kernel
theorem dX8_saved_40 : decode cX8_saved 40 = .ok (.invokevirtual 395, 3) := by decide +kernel
theorem dX8_saved_43 : decode cX8_saved 43 = .ok (.sipush 999, 3) := by decide +kernel
theorem dX8_saved_46 : decode cX8_saved 46 = .ok (.if_icmp .ge 7, 3) := by decide +kernel
theorem dX8_saved_49 : decode cX8_saved 49 = .ok (.iconst 1, 1) := by decide +kernel
theorem dX8_saved_50 : decode cX8_saved 50 = .ok (.goto 4, 3) := by decide +kernel
theorem dX8_saved_53 : decode cX8_saved 53 = .ok (.iconst 0, 1) := by decide +kernel
theorem dX8_saved_54 : decode cX8_saved 54 = .ok (.iadd, 1) := by decide +kernel
theorem dX8_saved_55 : decode cX8_saved 55 = .ok (.istore_n 2, 1) := by decide +kernel
theorem dX8_saved_56 : decode cX8_saved 56 = .ok (.iinc 3 1, 3) := by decide +kernel
theorem dX8_saved_59 : decode cX8_saved 59 = .ok (.goto (-41), 3) := by decide +kernel
theorem dX8_saved_62 : decode cX8_saved 62 = .ok (.iload_n 2, 1) := by decide +kernel
theorem dX8_saved_63 : decode cX8_saved 63 = .ok (.ireturn, 1) := by decide +kernel
theorem dX8_agreeing_0 : decode cX8_agreeing 0 = .ok (.aload_n 0, 1) := by decide +kernel
theorem dX8_agreeing_1 : decode cX8_agreeing 1 = .ok (.aload_n 0, 1) := by decide +kernel
theorem dX8_agreeing_2 : decode cX8_agreeing 2 = .ok (.iload_n 1, 1) := by decide +kernel
theorem dX8_agreeing_3 : decode cX8_agreeing 3 = .ok (.iload_n 2, 1) := by decide +kernel
theorem dX8_agreeing_4 : decode cX8_agreeing 4 = .ok (.invokevirtual 363, 3) := by decide +kernel
theorem dX8_agreeing_7 : decode cX8_agreeing 7 = .ok (.invokevirtual 215, 3) := by decide +kernel
theorem dX8_agreeing_10 : decode cX8_agreeing 10 = .ok (.ifCond .ne 5, 3) := by decide +kernel
theorem dX8_agreeing_13 : decode cX8_agreeing 13 = .ok (.iconst 0, 1) := by decide +kernel
theorem dX8_agreeing_14 : decode cX8_agreeing 14 = .ok (.ireturn, 1) := by decide +kernel
theorem dX8_agreeing_15 : decode cX8_agreeing 15 = .ok (.iconst 0, 1) := by decide +kernel
theorem dX8_agreeing_16 : decode cX8_agreeing 16 = .ok (.istore_n 3, 1) := by decide +kernel
theorem dX8_agreeing_17 : decode cX8_agreeing 17 = .ok (.iconst 0, 1) := by decide +kernel
theorem dX8_agreeing_18 : decode cX8_agreeing 18 = .ok (.istore 4, 2) := by decide +kernel
theorem dX8_agreeing_20 : decode cX8_agreeing 20 = .ok (.iload 4, 2) := by decide +kernel
theorem dX8_agreeing_22 : decode cX8_agreeing 22 = .ok (.aload_n 0, 1) := by decide +kernel
theorem dX8_agreeing_23 : decode cX8_agreeing 23 = .ok (.invokevirtual 74, 3) := by decide +kernel
theorem dX8_agreeing_26 : decode cX8_agreeing 26 = .ok (.if_icmp .ge 62, 3) := by decide +kernel
theorem dX8_agreeing_29 : decode cX8_agreeing 29 = .ok (.aload_n 0, 1) := by decide +kernel
theorem dX8_agreeing_30 : decode cX8_agreeing 30 = .ok (.iload_n 1, 1) := by decide +kernel
theorem dX8_agreeing_31 : decode cX8_agreeing 31 = .ok (.iload 4, 2) := by decide +kernel
theorem dX8_agreeing_33 : decode cX8_agreeing 33 = .ok (.iconst 0, 1) := by decide +kernel
theorem dX8_agreeing_34 : decode cX8_agreeing 34 = .ok (.invokevirtual 384, 3) := by decide +kernel
theorem dX8_agreeing_37 : decode cX8_agreeing 37 = .ok (.aload_n 0, 1) := by decide +kernel
theorem dX8_agreeing_38 : decode cX8_agreeing 38 = .ok (.iload_n 2, 1) := by decide +kernel
theorem dX8_agreeing_39 : decode cX8_agreeing 39 = .ok (.iload 4, 2) := by decide +kernel
theorem dX8_agreeing_41 : decode cX8_agreeing 41 = .ok (.iconst 0, 1) := by decide +kernel
theorem dX8_agreeing_42 : decode cX8_agreeing 42 = .ok (.invokevirtual 384, 3) := by decide +kernel
theorem dX8_agreeing_45 : decode cX8_agreeing 45 = .ok (.invokestatic 102, 3) := by decide +kernel
theorem dX8_agreeing_48 : decode cX8_agreeing 48 = .ok (.istore 5, 2) := by decide +kernel
theorem dX8_agreeing_50 : decode cX8_agreeing 50 = .ok (.iload_n 3, 1) := by decide +kernel
theorem dX8_agreeing_51 : decode cX8_agreeing 51 = .ok (.iload 5, 2) := by decide +kernel
theorem dX8_agreeing_53 : decode cX8_agreeing 53 = .ok (.aload_n 0, 1) := by decide +kernel
theorem dX8_agreeing_54 : decode cX8_agreeing 54 = .ok (.iload_n 1, 1) := by decide +kernel
theorem dX8_agreeing_55 : decode cX8_agreeing 55 = .ok (.iload 4, 2) := by decide +kernel
theorem dX8_agreeing_57 : decode cX8_agreeing 57 = .ok (.iconst 1, 1) := by decide +kernel
theorem dX8_agreeing_58 : decode cX8_agreeing 58 = .ok (.invokevirtual 384, 3) := by decide +kernel
theorem dX8_agreeing_61 : decode cX8_agreeing 61 = .ok (.aload_n 0, 1) := by decide +kernel
theorem dX8_agreeing_62 : decode cX8_agreeing 62 = .ok (.iload_n 2, 1) := by decide +kernel
theorem dX8_agreeing_63 : decode cX8_agreeing 63 = .ok (.iload 4, 2) := by decide +kernel
theorem dX8_agreeing_65 : decode cX8_agreeing 65 = .ok (.iconst 1, 1) := by decide +kernel
theorem dX8_agreeing_66 : decode cX8_agreeing 66 = .ok (.invokevirtual 384, 3) := by decide +kernel
theorem dX8_agreeing_69 : decode cX8_agreeing 69 = .ok (.invokestatic 107, 3) := by decide +kernel
theorem dX8_agreeing_72 : decode cX8_agreeing 72 = .ok (.if_icmp .gt 7, 3) := by decide +kernel
theorem dX8_agreeing_75 : decode cX8_agreeing 75 = .ok (.iconst 1, 1) := by decide +kernel
theorem dX8_agreeing_76 : decode cX8_agreeing 76 = .ok (.goto 4, 3) := by decide +kernel
theorem dX8_agreeing_79 : decode cX8_agreeing 79 = .ok (.iconst 0, 1) := by decide +kernel
theorem dX8_agreeing_80 : decode cX8_agreeing 80 = .ok (.iadd, 1) := by decide +kernel
theorem dX8_agreeing_81 : decode cX8_agreeing 81 = .ok (.istore_n 3, 1) := by decide +kernel
theorem dX8_agreeing_82 : decode cX8_agreeing 82 = .ok (.iinc 4 1, 3) := by decide +kernel
theorem dX8_agreeing_85 : decode cX8_agreeing 85 = .ok (.goto (-65), 3) := by decide +kernel
theorem dX8_agreeing_88 : decode cX8_agreeing 88 = .ok (.iload_n 3, 1) := by decide +kernel
theorem dX8_agreeing_89 : decode cX8_agreeing 89 = .ok (.ireturn, 1) := by decide +kernel
theorem dX8_common_0 : decode cX8_common 0 = .ok (.aload_n 0, 1) := by decide +kernel
theorem dX8_common_1 : decode cX8_common 1 = .ok (.aload_n 0, 1) := by decide +kernel
theorem dX8_common_2 : decode cX8_common 2 = .ok (.iload_n 1, 1) := by decide +kernel
theorem dX8_common_3 : decode cX8_common 3 = .ok (.invokevirtual 378, 3) := by decide +kernel
theorem dX8_common_6 : decode cX8_common 6 = .ok (.iload_n 2, 1) := by decide +kernel
theorem dX8_common_7 : decode cX8_common 7 = .ok (.i2l, 1) := by decide +kernel
theorem dX8_common_8 : decode cX8_common 8 = .ok (.lconst 0, 1) := by decide +kernel
theorem dX8_common_9 : decode cX8_common 9 = .ok (.lconst 1, 1) := by decide +kernel
theorem dX8_common_10 : decode cX8_common 10 = .ok (.invokestatic 70, 3) := by decide +kernel
theorem dX8_common_13 : decode cX8_common 13 = .ok (.invokevirtual 368, 3) := by decide +kernel
theorem dX8_common_16 : decode cX8_common 16 = .ok (.ifCond .ne 5, 3) := by decide +kernel
theorem dX8_common_19 : decode cX8_common 19 = .ok (.iconst 0, 1) := by decide +kernel
theorem dX8_common_20 : decode cX8_common 20 = .ok (.ireturn, 1) := by decide +kernel
theorem dX8_common_21 : decode cX8_common 21 = .ok (.iconst 0, 1) := by decide +kernel
theorem dX8_common_22 : decode cX8_common 22 = .ok (.istore_n 3, 1) := by decide +kernel
theorem dX8_common_23 : decode cX8_common 23 = .ok (.sipush 999, 3) := by decide +kernel
theorem dX8_common_26 : decode cX8_common 26 = .ok (.istore 4, 2) := by decide +kernel
theorem dX8_common_28 : decode cX8_common 28 = .ok (.iconst 0, 1) := by decide +kernel
theorem dX8_common_29 : decode cX8_common 29 = .ok (.istore 5, 2) := by decide +kernel
theorem dX8_common_31 : decode cX8_common 31 = .ok (.iconst 0, 1) := by decide +kernel
theorem dX8_common_32 : decode cX8_common 32 = .ok (.istore 6, 2) := by decide +kernel
theorem dX8_common_34 : decode cX8_common 34 = .ok (.iload 6, 2) := by decide +kernel
theorem dX8_common_36 : decode cX8_common 36 = .ok (.aload_n 0, 1) := by decide +kernel
theorem dX8_common_37 : decode cX8_common 37 = .ok (.invokevirtual 66, 3) := by decide +kernel
theorem dX8_common_40 : decode cX8_common 40 = .ok (.if_icmp .ge 74, 3) := by decide +kernel
theorem dX8_common_43 : decode cX8_common 43 = .ok (.aload_n 0, 1) := by decide +kernel
theorem dX8_common_44 : decode cX8_common 44 = .ok (.iload 6, 2) := by decide +kernel
theorem dX8_common_46 : decode cX8_common 46 = .ok (.iload_n 1, 1) := by decide +kernel
theorem dX8_common_47 : decode cX8_common 47 = .ok (.invokevirtual 169, 3) := by decide +kernel
theorem dX8_common_50 : decode cX8_common 50 = .ok (.istore 7, 2) := by decide +kernel
theorem dX8_common_52 : decode cX8_common 52 = .ok (.iload 7, 2) := by decide +kernel
theorem dX8_common_54 : decode cX8_common 54 = .ok (.iconst (-1), 1) := by decide +kernel
theorem dX8_common_55 : decode cX8_common 55 = .ok (.if_icmp .ne 6, 3) := by decide +kernel
theorem dX8_common_58 : decode cX8_common 58 = .ok (.goto 50, 3) := by decide +kernel
theorem dX8_common_61 : decode cX8_common 61 = .ok (.iconst 1, 1) := by decide +kernel
theorem dX8_common_62 : decode cX8_common 62 = .ok (.istore 5, 2) := by decide +kernel
theorem dX8_common_64 : decode cX8_common 64 = .ok (.iload_n 3, 1) := by decide +kernel
theorem dX8_common_65 : decode cX8_common 65 = .ok (.aload_n 0, 1) := by decide +kernel
theorem dX8_common_66 : decode cX8_common 66 = .ok (.iload 6, 2) := by decide +kernel
theorem dX8_common_68 : decode cX8_common 68 = .ok (.iload 7, 2) := by decide +kernel
theorem dX8_common_70 : decode cX8_common 70 = .ok (.aload_n 0, 1) := by decide +kernel
theorem dX8_common_71 : decode cX8_common 71 = .ok (.iload 6, 2) := by decide +kernel
theorem dX8_common_73 : decode cX8_common 73 = .ok (.iload 7, 2) := by decide +kernel
theorem dX8_common_75 : decode cX8_common 75 = .ok (.invokevirtual 122, 3) := by decide +kernel
theorem dX8_common_78 : decode cX8_common 78 = .ok (.invokevirtual 125, 3) := by decide +kernel
theorem dX8_common_81 : decode cX8_common 81 = .ok (.invokestatic 102, 3) := by decide +kernel
theorem dX8_common_84 : decode cX8_common 84 = .ok (.istore_n 3, 1) := by decide +kernel
theorem dX8_common_85 : decode cX8_common 85 = .ok (.iload 4, 2) := by decide +kernel
theorem dX8_common_87 : decode cX8_common 87 = .ok (.aload_n 0, 1) := by decide +kernel
theorem dX8_common_88 : decode cX8_common 88 = .ok (.iload 6, 2) := by decide +kernel
theorem dX8_common_90 : decode cX8_common 90 = .ok (.iload 7, 2) := by decide +kernel
theorem dX8_common_92 : decode cX8_common 92 = .ok (.aload_n 0, 1) := by decide +kernel
theorem dX8_common_93 : decode cX8_common 93 = .ok (.iload 6, 2) := by decide +kernel
theorem dX8_common_95 : decode cX8_common 95 = .ok (.iload 7, 2) := by decide +kernel
theorem dX8_common_97 : decode cX8_common 97 = .ok (.invokevirtual 122, 3) := by decide +kernel
theorem dX8_common_100 : decode cX8_common 100 = .ok (.invokevirtual 128, 3) := by decide +kernel
theorem dX8_common_103 : decode cX8_common 103 = .ok (.invokestatic 107, 3) := by decide +kernel
theorem dX8_common_106 : decode cX8_common 106 = .ok (.istore 4, 2) := by decide +kernel
theorem dX8_common_108 : decode cX8_common 108 = .ok (.iinc 6 1, 3) := by decide +kernel
theorem dX8_common_111 : decode cX8_common 111 = .ok (.goto (-77), 3) := by decide +kernel
theorem dX8_common_114 : decode cX8_common 114 = .ok (.iload 5, 2) := by decide +kernel
theorem dX8_common_116 : decode cX8_common 116 = .ok (.ifCond .eq 9, 3) := by decide +kernel
theorem dX8_common_119 : decode cX8_common 119 = .ok (.iload_n 3, 1) := by decide +kernel
theorem dX8_common_120 : decode cX8_common 120 = .ok (.iload 4, 2) := by decide +kernel
theorem dX8_common_122 : decode cX8_common 122 = .ok (.if_icmp .le 7, 3) := by decide +kernel
theorem dX8_common_125 : decode cX8_common 125 = .ok (.iconst (-1), 1) := by decide +kernel
theorem dX8_common_126 : decode cX8_common 126 = .ok (.goto 13, 3) := by decide +kernel
theorem dX8_common_129 : decode cX8_common 129 = .ok (.iload_n 2, 1) := by decide +kernel
theorem dX8_common_130 : decode cX8_common 130 = .ok (.ifCond .ne 7, 3) := by decide +kernel
theorem dX8_common_133 : decode cX8_common 133 = .ok (.iload_n 3, 1) := by decide +kernel
theorem dX8_common_134 : decode cX8_common 134 = .ok (.goto 5, 3) := by decide +kernel
theorem dX8_common_137 : decode cX8_common 137 = .ok (.iload 4, 2) := by decide +kernel
theorem dX8_common_139 : decode cX8_common 139 = .ok (.ireturn, 1) := by decide +kernel
theorem dX8_message_0 : decode cX8_message 0 = .ok (.aload_n 0, 1) := by decide +kernel
theorem dX8_message_1 : decode cX8_message 1 = .ok (.iload_n 2, 1) := by decide +kernel
theorem dX8_message_2 : decode cX8_message 2 = .ok (.i2l, 1) := by decide +kernel
theorem dX8_message_3 : decode cX8_message 3 = .ok (.lconst 0, 1) := by decide +kernel
theorem dX8_message_4 : decode cX8_message 4 = .ok (.ldc2_w 398, 3) := by decide +kernel
theorem dX8_message_7 : decode cX8_message 7 = .ok (.invokestatic 70, 3) := by decide +kernel
theorem dX8_message_10 : decode cX8_message 10 = .ok (.aload_n 0, 1) := by decide +kernel
theorem dX8_message_11 : decode cX8_message 11 = .ok (.iload_n 1, 1) := by decide +kernel
theorem dX8_message_12 : decode cX8_message 12 = .ok (.invokevirtual 400, 3) := by decide +kernel
theorem dX8_message_15 : decode cX8_message 15 = .ok (.invokevirtual 368, 3) := by decide +kernel
theorem dX8_message_18 : decode cX8_message 18 = .ok (.ifCond .ne 5, 3) := by decide +kernel
theorem dX8_message_21 : decode cX8_message 21 = .ok (.iconst 0, 1) := by decide +kernel
theorem dX8_message_22 : decode cX8_message 22 = .ok (.ireturn, 1) := by decide +kernel
theorem dX8_message_23 : decode cX8_message 23 = .ok (.iload_n 2, 1) := by decide +kernel
theorem dX8_message_24 : decode cX8_message 24 = .ok (.tableswitch 72 0 4 #[36, 43, 51, 58, 65], 36) := by decide +kernel
theorem dX8_message_60 : decode cX8_message 60 = .ok (.aload_n 0, 1) := by decide +kernel
theorem dX8_message_61 : decode cX8_message 61 = .ok (.iload_n 1, 1) := by decide +kernel
theorem dX8_message_62 : decode cX8_message 62 = .ok (.iconst 1, 1) := by decide +kernel
theorem dX8_message_63 : decode cX8_message 63 = .ok (.invokevirtual 163, 3) := by decide +kernel
theorem dX8_message_66 : decode cX8_message 66 = .ok (.ireturn, 1) := by decide +kernel
theorem dX8_message_67 : decode cX8_message 67 = .ok (.aload_n 0, 1) := by decide +kernel
theorem dX8_message_68 : decode cX8_message 68 = .ok (.iload_n 1, 1) := by decide +kernel
theorem dX8_message_69 : decode cX8_message 69 = .ok (.bipush 7, 2) := by decide +kernel
theorem dX8_message_71 : decode cX8_message 71 = .ok (.invokevirtual 163, 3) := by decide +kernel
theorem dX8_message_74 : decode cX8_message 74 = .ok (.ireturn, 1) := by decide +kernel
theorem dX8_message_75 : decode cX8_message 75 = .ok (.aload_n 0, 1) := by decide +kernel
theorem dX8_message_76 : decode cX8_message 76 = .ok (.iload_n 1, 1) := by decide +kernel
theorem dX8_message_77 : decode cX8_message 77 = .ok (.iconst 0, 1) := by decide +kernel
theorem dX8_message_78 : decode cX8_message 78 = .ok (.invokevirtual 163, 3) := by decide +kernel
theorem dX8_message_81 : decode cX8_message 81 = .ok (.ireturn, 1) := by decide +kernel
theorem dX8_message_82 : decode cX8_message 82 = .ok (.aload_n 0, 1) := by decide +kernel
theorem dX8_message_83 : decode cX8_message 83 = .ok (.iload_n 1, 1) := by decide +kernel
theorem dX8_message_84 : decode cX8_message 84 = .ok (.iconst 2, 1) := by decide +kernel
theorem dX8_message_85 : decode cX8_message 85 = .ok (.invokevirtual 163, 3) := by decide +kernel
theorem dX8_message_88 : decode cX8_message 88 = .ok (.ireturn, 1) := by decide +kernel
theorem dX8_message_89 : decode cX8_message 89 = .ok (.aload_n 0, 1) := by decide +kernel
theorem dX8_message_90 : decode cX8_message 90 = .ok (.iload_n 1, 1) := by decide +kernel
theorem dX8_message_91 : decode cX8_message 91 = .ok (.iconst 3, 1) := by decide +kernel
theorem dX8_message_92 : decode cX8_message 92 = .ok (.invokevirtual 163, 3) := by decide +kernel
theorem dX8_message_95 : decode cX8_message 95 = .ok (.ireturn, 1) := by decide +kernel
theorem dX8_message_96 : decode cX8_message 96 = .ok (.aload_n 0, 1) := by decide +kernel
theorem dX8_message_97 : decode cX8_message 97 = .ok (.iload_n 1, 1) := by decide +kernel
theorem dX8_message_98 : decode cX8_message 98 = .ok (.invokevirtual 166, 3) := by decide +kernel
theorem dX8_message_101 : decode cX8_message 101 = .ok (.ireturn, 1) := by decide +kernel
theorem dX8_holding_0 : decode cX8_holding 0 = .ok (.iconst 0, 1) := by decide +kernel
theorem dX8_holding_1 : decode cX8_holding 1 = .ok (.istore_n 3, 1) := by decide +kernel
theorem dX8_holding_2 : decode cX8_holding 2 = .ok (.aload_n 0, 1) := by decide +kernel
theorem dX8_holding_3 : decode cX8_holding 3 = .ok (.iconst 0, 1) := by decide +kernel
theorem dX8_holding_4 : decode cX8_holding 4 = .ok (.putfield 403, 3) := by decide +kernel
theorem dX8_holding_7 : decode cX8_holding 7 = .ok (.aload_n 0, 1) := by decide +kernel
theorem dX8_holding_8 : decode cX8_holding 8 = .ok (.sipush 999, 3) := by decide +kernel
theorem dX8_holding_11 : decode cX8_holding 11 = .ok (.putfield 406, 3) := by decide +kernel
theorem dX8_holding_14 : decode cX8_holding 14 = .ok (.iconst 0, 1) := by decide +kernel
theorem dX8_holding_15 : decode cX8_holding 15 = .ok (.istore 4, 2) := by decide +kernel
theorem dX8_holding_17 : decode cX8_holding 17 = .ok (.iload 4, 2) := by decide +kernel
theorem dX8_holding_19 : decode cX8_holding 19 = .ok (.aload_n 0, 1) := by decide +kernel
theorem dX8_holding_20 : decode cX8_holding 20 = .ok (.iload_n 1, 1) := by decide +kernel
theorem dX8_holding_21 : decode cX8_holding 21 = .ok (.invokevirtual 92, 3) := by decide +kernel
theorem dX8_holding_24 : decode cX8_holding 24 = .ok (.if_icmp .ge 121, 3) := by decide +kernel
theorem dX8_holding_27 : decode cX8_holding 27 = .ok (.aload_n 0, 1) := by decide +kernel
theorem dX8_holding_28 : decode cX8_holding 28 = .ok (.getfield 30, 3) := by decide +kernel
theorem dX8_holding_31 : decode cX8_holding 31 = .ok (.iload 4, 2) := by decide +kernel
theorem dX8_holding_33 : decode cX8_holding 33 = .ok (.iaload, 1) := by decide +kernel
theorem dX8_holding_34 : decode cX8_holding 34 = .ok (.iconst (-1), 1) := by decide +kernel
theorem dX8_holding_35 : decode cX8_holding 35 = .ok (.if_icmp .eq 104, 3) := by decide +kernel
theorem dX8_holding_38 : decode cX8_holding 38 = .ok (.aload_n 0, 1) := by decide +kernel
theorem dX8_holding_39 : decode cX8_holding 39 = .ok (.iload_n 1, 1) := by decide +kernel
theorem dX8_holding_40 : decode cX8_holding 40 = .ok (.iload 4, 2) := by decide +kernel
theorem dX8_holding_42 : decode cX8_holding 42 = .ok (.invokevirtual 194, 3) := by decide +kernel
theorem dX8_holding_45 : decode cX8_holding 45 = .ok (.ifCond .eq 6, 3) := by decide +kernel
theorem dX8_holding_48 : decode cX8_holding 48 = .ok (.goto 91, 3) := by decide +kernel
theorem dX8_holding_51 : decode cX8_holding 51 = .ok (.aload_n 0, 1) := by decide +kernel
theorem dX8_holding_52 : decode cX8_holding 52 = .ok (.iload_n 1, 1) := by decide +kernel
theorem dX8_holding_53 : decode cX8_holding 53 = .ok (.iload 4, 2) := by decide +kernel
theorem dX8_holding_55 : decode cX8_holding 55 = .ok (.aload_n 0, 1) := by decide +kernel
theorem dX8_holding_56 : decode cX8_holding 56 = .ok (.iload_n 1, 1) := by decide +kernel
theorem dX8_holding_57 : decode cX8_holding 57 = .ok (.iload 4, 2) := by decide +kernel
theorem dX8_holding_59 : decode cX8_holding 59 = .ok (.invokevirtual 200, 3) := by decide +kernel
theorem dX8_holding_62 : decode cX8_holding 62 = .ok (.invokevirtual 125, 3) := by decide +kernel
theorem dX8_holding_65 : decode cX8_holding 65 = .ok (.istore 5, 2) := by decide +kernel
theorem dX8_holding_67 : decode cX8_holding 67 = .ok (.aload_n 0, 1) := by decide +kernel
theorem dX8_holding_68 : decode cX8_holding 68 = .ok (.iload_n 1, 1) := by decide +kernel
theorem dX8_holding_69 : decode cX8_holding 69 = .ok (.iload 4, 2) := by decide +kernel
theorem dX8_holding_71 : decode cX8_holding 71 = .ok (.aload_n 0, 1) := by decide +kernel
theorem dX8_holding_72 : decode cX8_holding 72 = .ok (.iload_n 1, 1) := by decide +kernel
theorem dX8_holding_73 : decode cX8_holding 73 = .ok (.iload 4, 2) := by decide +kernel
theorem dX8_holding_75 : decode cX8_holding 75 = .ok (.invokevirtual 200, 3) := by decide +kernel
theorem dX8_holding_78 : decode cX8_holding 78 = .ok (.invokevirtual 128, 3) := by decide +kernel
theorem dX8_holding_81 : decode cX8_holding 81 = .ok (.istore 6, 2) := by decide +kernel
theorem dX8_holding_83 : decode cX8_holding 83 = .ok (.iload_n 2, 1) := by decide +kernel
theorem dX8_holding_84 : decode cX8_holding 84 = .ok (.i2l, 1) := by decide +kernel
theorem dX8_holding_85 : decode cX8_holding 85 = .ok (.iload 5, 2) := by decide +kernel
theorem dX8_holding_87 : decode cX8_holding 87 = .ok (.i2l, 1) := by decide +kernel
theorem dX8_holding_88 : decode cX8_holding 88 = .ok (.iload 6, 2) := by decide +kernel
theorem dX8_holding_90 : decode cX8_holding 90 = .ok (.i2l, 1) := by decide +kernel
theorem dX8_holding_91 : decode cX8_holding 91 = .ok (.invokestatic 70, 3) := by decide +kernel
theorem dX8_holding_94 : decode cX8_holding 94 = .ok (.ifCond .ne 6, 3) := by decide +kernel
theorem dX8_holding_97 : decode cX8_holding 97 = .ok (.goto 42, 3) := by decide +kernel
theorem dX8_holding_100 : decode cX8_holding 100 = .ok (.iload_n 3, 1) := by decide +kernel
theorem dX8_holding_101 : decode cX8_holding 101 = .ok (.iconst 1, 1) := by decide +kernel
theorem dX8_holding_102 : decode cX8_holding 102 = .ok (.aload_n 0, 1) := by decide +kernel
theorem dX8_holding_103 : decode cX8_holding 103 = .ok (.iload_n 1, 1) := by decide +kernel
theorem dX8_holding_104 : decode cX8_holding 104 = .ok (.iload 4, 2) := by decide +kernel
theorem dX8_holding_106 : decode cX8_holding 106 = .ok (.iconst 0, 1) := by decide +kernel
theorem dX8_holding_107 : decode cX8_holding 107 = .ok (.invokevirtual 95, 3) := by decide +kernel
theorem dX8_holding_110 : decode cX8_holding 110 = .ok (.ishl, 1) := by decide +kernel
theorem dX8_holding_111 : decode cX8_holding 111 = .ok (.ior, 1) := by decide +kernel
theorem dX8_holding_112 : decode cX8_holding 112 = .ok (.istore_n 3, 1) := by decide +kernel
theorem dX8_holding_113 : decode cX8_holding 113 = .ok (.aload_n 0, 1) := by decide +kernel
theorem dX8_holding_114 : decode cX8_holding 114 = .ok (.aload_n 0, 1) := by decide +kernel
theorem dX8_holding_115 : decode cX8_holding 115 = .ok (.getfield 403, 3) := by decide +kernel
theorem dX8_holding_118 : decode cX8_holding 118 = .ok (.iload 5, 2) := by decide +kernel
theorem dX8_holding_120 : decode cX8_holding 120 = .ok (.invokestatic 102, 3) := by decide +kernel
theorem dX8_holding_123 : decode cX8_holding 123 = .ok (.putfield 403, 3) := by decide +kernel
theorem dX8_holding_126 : decode cX8_holding 126 = .ok (.aload_n 0, 1) := by decide +kernel
theorem dX8_holding_127 : decode cX8_holding 127 = .ok (.aload_n 0, 1) := by decide +kernel
theorem dX8_holding_128 : decode cX8_holding 128 = .ok (.getfield 406, 3) := by decide +kernel
theorem dX8_holding_131 : decode cX8_holding 131 = .ok (.iload 6, 2) := by decide +kernel
theorem dX8_holding_133 : decode cX8_holding 133 = .ok (.invokestatic 107, 3) := by decide +kernel
theorem dX8_holding_136 : decode cX8_holding 136 = .ok (.putfield 406, 3) := by decide +kernel
theorem dX8_holding_139 : decode cX8_holding 139 = .ok (.iinc 4 1, 3) := by decide +kernel
theorem dX8_holding_142 : decode cX8_holding 142 = .ok (.goto (-125), 3) := by decide +kernel
theorem dX8_holding_145 : decode cX8_holding 145 = .ok (.iload_n 3, 1) := by decide +kernel
theorem dX8_holding_146 : decode cX8_holding 146 = .ok (.ireturn, 1) := by decide +kernel
theorem dX8_agreed_0 : decode cX8_agreed 0 = .ok (.aload_n 0, 1) := by decide +kernel
theorem dX8_agreed_1 : decode cX8_agreed 1 = .ok (.iload_n 1, 1) := by decide +kernel
theorem dX8_agreed_2 : decode cX8_agreed 2 = .ok (.iload_n 2, 1) := by decide +kernel
theorem dX8_agreed_3 : decode cX8_agreed 3 = .ok (.invokevirtual 203, 3) := by decide +kernel
theorem dX8_agreed_6 : decode cX8_agreed 6 = .ok (.iconst (-1), 1) := by decide +kernel
theorem dX8_agreed_7 : decode cX8_agreed 7 = .ok (.istore_n 3, 1) := by decide +kernel
theorem dX8_agreed_8 : decode cX8_agreed 8 = .ok (.iconst 0, 1) := by decide +kernel
theorem dX8_agreed_9 : decode cX8_agreed 9 = .ok (.istore 4, 2) := by decide +kernel
theorem dX8_agreed_11 : decode cX8_agreed 11 = .ok (.iconst 0, 1) := by decide +kernel
theorem dX8_agreed_12 : decode cX8_agreed 12 = .ok (.istore 5, 2) := by decide +kernel
theorem dX8_agreed_14 : decode cX8_agreed 14 = .ok (.iload 5, 2) := by decide +kernel
theorem dX8_agreed_16 : decode cX8_agreed 16 = .ok (.sipush 999, 3) := by decide +kernel
theorem dX8_agreed_19 : decode cX8_agreed 19 = .ok (.if_icmp .gt 68, 3) := by decide +kernel
theorem dX8_agreed_22 : decode cX8_agreed 22 = .ok (.aload_n 0, 1) := by decide +kernel
theorem dX8_agreed_23 : decode cX8_agreed 23 = .ok (.iload_n 1, 1) := by decide +kernel
theorem dX8_agreed_24 : decode cX8_agreed 24 = .ok (.iload 5, 2) := by decide +kernel
theorem dX8_agreed_26 : decode cX8_agreed 26 = .ok (.invokevirtual 409, 3) := by decide +kernel
theorem dX8_agreed_29 : decode cX8_agreed 29 = .ok (.istore 6, 2) := by decide +kernel
theorem dX8_agreed_31 : decode cX8_agreed 31 = .ok (.iload 6, 2) := by decide +kernel
theorem dX8_agreed_33 : decode cX8_agreed 33 = .ok (.invokestatic 355, 3) := by decide +kernel
theorem dX8_agreed_36 : decode cX8_agreed 36 = .ok (.iload 4, 2) := by decide +kernel
theorem dX8_agreed_38 : decode cX8_agreed 38 = .ok (.invokestatic 355, 3) := by decide +kernel
theorem dX8_agreed_41 : decode cX8_agreed 41 = .ok (.isub, 1) := by decide +kernel
theorem dX8_agreed_42 : decode cX8_agreed 42 = .ok (.istore 7, 2) := by decide +kernel
theorem dX8_agreed_44 : decode cX8_agreed 44 = .ok (.iload 6, 2) := by decide +kernel
theorem dX8_agreed_46 : decode cX8_agreed 46 = .ok (.ifCond .eq 35, 3) := by decide +kernel
theorem dX8_agreed_49 : decode cX8_agreed 49 = .ok (.iload_n 3, 1) := by decide +kernel
theorem dX8_agreed_50 : decode cX8_agreed 50 = .ok (.iconst (-1), 1) := by decide +kernel
theorem dX8_agreed_51 : decode cX8_agreed 51 = .ok (.if_icmp .eq 23, 3) := by decide +kernel
theorem dX8_agreed_54 : decode cX8_agreed 54 = .ok (.iload 7, 2) := by decide +kernel
theorem dX8_agreed_56 : decode cX8_agreed 56 = .ok (.ifCond .lt 25, 3) := by decide +kernel
theorem dX8_agreed_59 : decode cX8_agreed 59 = .ok (.iload 7, 2) := by decide +kernel
theorem dX8_agreed_61 : decode cX8_agreed 61 = .ok (.ifCond .ne 13, 3) := by decide +kernel
theorem dX8_agreed_64 : decode cX8_agreed 64 = .ok (.iload 6, 2) := by decide +kernel
theorem dX8_agreed_66 : decode cX8_agreed 66 = .ok (.iload 4, 2) := by decide +kernel
theorem dX8_agreed_68 : decode cX8_agreed 68 = .ok (.if_icmp .lt 6, 3) := by decide +kernel
theorem dX8_agreed_71 : decode cX8_agreed 71 = .ok (.goto 10, 3) := by decide +kernel
theorem dX8_agreed_74 : decode cX8_agreed 74 = .ok (.iload 5, 2) := by decide +kernel
theorem dX8_agreed_76 : decode cX8_agreed 76 = .ok (.istore_n 3, 1) := by decide +kernel
theorem dX8_agreed_77 : decode cX8_agreed 77 = .ok (.iload 6, 2) := by decide +kernel
theorem dX8_agreed_79 : decode cX8_agreed 79 = .ok (.istore 4, 2) := by decide +kernel
theorem dX8_agreed_81 : decode cX8_agreed 81 = .ok (.iinc 5 1, 3) := by decide +kernel
theorem dX8_agreed_84 : decode cX8_agreed 84 = .ok (.goto (-70), 3) := by decide +kernel
theorem dX8_agreed_87 : decode cX8_agreed 87 = .ok (.iload_n 3, 1) := by decide +kernel
theorem dX8_agreed_88 : decode cX8_agreed 88 = .ok (.ireturn, 1) := by decide +kernel
theorem dX8_majorityOf_0 : decode cX8_majorityOf 0 = .ok (.aload_n 0, 1) := by decide +kernel
theorem dX8_majorityOf_1 : decode cX8_majorityOf 1 = .ok (.iload_n 1, 1) := by decide +kernel
theorem dX8_majorityOf_2 : decode cX8_majorityOf 2 = .ok (.iload_n 2, 1) := by decide +kernel
theorem dX8_majorityOf_3 : decode cX8_majorityOf 3 = .ok (.invokevirtual 412, 3) := by decide +kernel
theorem dX8_majorityOf_6 : decode cX8_majorityOf 6 = .ok (.istore_n 3, 1) := by decide +kernel
theorem dX8_majorityOf_7 : decode cX8_majorityOf 7 = .ok (.iload_n 3, 1) := by decide +kernel
theorem dX8_majorityOf_8 : decode cX8_majorityOf 8 = .ok (.iconst (-1), 1) := by decide +kernel
theorem dX8_majorityOf_9 : decode cX8_majorityOf 9 = .ok (.if_icmp .ne 7, 3) := by decide +kernel
theorem dX8_majorityOf_12 : decode cX8_majorityOf 12 = .ok (.iconst 0, 1) := by decide +kernel
theorem dX8_majorityOf_13 : decode cX8_majorityOf 13 = .ok (.goto 9, 3) := by decide +kernel
theorem dX8_majorityOf_16 : decode cX8_majorityOf 16 = .ok (.aload_n 0, 1) := by decide +kernel
theorem dX8_majorityOf_17 : decode cX8_majorityOf 17 = .ok (.iload_n 1, 1) := by decide +kernel
theorem dX8_majorityOf_18 : decode cX8_majorityOf 18 = .ok (.iload_n 3, 1) := by decide +kernel
theorem dX8_majorityOf_19 : decode cX8_majorityOf 19 = .ok (.invokevirtual 409, 3) := by decide +kernel
theorem dX8_majorityOf_22 : decode cX8_majorityOf 22 = .ok (.ireturn, 1) := by decide +kernel
theorem dX8_majority_0 : decode cX8_majority 0 = .ok (.aload_n 0, 1) := by decide +kernel
theorem dX8_majority_1 : decode cX8_majority 1 = .ok (.aload_n 0, 1) := by decide +kernel
theorem dX8_majority_2 : decode cX8_majority 2 = .ok (.iload_n 1, 1) := by decide +kernel
theorem dX8_majority_3 : decode cX8_majority 3 = .ok (.iload_n 2, 1) := by decide +kernel
theorem dX8_majority_4 : decode cX8_majority 4 = .ok (.invokevirtual 381, 3) := by decide +kernel
theorem dX8_majority_7 : decode cX8_majority 7 = .ok (.invokevirtual 215, 3) := by decide +kernel
theorem dX8_majority_10 : decode cX8_majority 10 = .ok (.ifCond .eq 12, 3) := by decide +kernel
theorem dX8_majority_13 : decode cX8_majority 13 = .ok (.aload_n 0, 1) := by decide +kernel
theorem dX8_majority_14 : decode cX8_majority 14 = .ok (.iload_n 1, 1) := by decide +kernel
theorem dX8_majority_15 : decode cX8_majority 15 = .ok (.iload_n 2, 1) := by decide +kernel
theorem dX8_majority_16 : decode cX8_majority 16 = .ok (.invokevirtual 415, 3) := by decide +kernel
theorem dX8_majority_19 : decode cX8_majority 19 = .ok (.goto 4, 3) := by decide +kernel
theorem dX8_majority_22 : decode cX8_majority 22 = .ok (.iconst 0, 1) := by decide +kernel
theorem dX8_majority_23 : decode cX8_majority 23 = .ok (.ireturn, 1) := by decide +kernel
theorem dX8_majorityBound_0 : decode cX8_majorityBound 0 = .ok (.aload_n 0, 1) := by decide +kernel
theorem dX8_majorityBound_1 : decode cX8_majorityBound 1 = .ok (.aload_n 0, 1) := by decide +kernel
theorem dX8_majorityBound_2 : decode cX8_majorityBound 2 = .ok (.iload_n 1, 1) := by decide +kernel
theorem dX8_majorityBound_3 : decode cX8_majorityBound 3 = .ok (.iload_n 2, 1) := by decide +kernel
theorem dX8_majorityBound_4 : decode cX8_majorityBound 4 = .ok (.invokevirtual 381, 3) := by decide +kernel
theorem dX8_majorityBound_7 : decode cX8_majorityBound 7 = .ok (.iload_n 3, 1) := by decide +kernel
theorem dX8_majorityBound_8 : decode cX8_majorityBound 8 = .ok (.i2l, 1) := by decide +kernel
theorem dX8_majorityBound_9 : decode cX8_majorityBound 9 = .ok (.lconst 0, 1) := by decide +kernel
theorem dX8_majorityBound_10 : decode cX8_majorityBound 10 = .ok (.lconst 1, 1) := by decide +kernel
theorem dX8_majorityBound_11 : decode cX8_majorityBound 11 = .ok (.invokestatic 70, 3) := by decide +kernel
theorem dX8_majorityBound_14 : decode cX8_majorityBound 14 = .ok (.invokevirtual 368, 3) := by decide +kernel
theorem dX8_majorityBound_17 : decode cX8_majorityBound 17 = .ok (.ifCond .ne 5, 3) := by decide +kernel
theorem dX8_majorityBound_20 : decode cX8_majorityBound 20 = .ok (.iconst 0, 1) := by decide +kernel
theorem dX8_majorityBound_21 : decode cX8_majorityBound 21 = .ok (.ireturn, 1) := by decide +kernel
theorem dX8_majorityBound_22 : decode cX8_majorityBound 22 = .ok (.aload_n 0, 1) := by decide +kernel
theorem dX8_majorityBound_23 : decode cX8_majorityBound 23 = .ok (.iload_n 1, 1) := by decide +kernel
theorem dX8_majorityBound_24 : decode cX8_majorityBound 24 = .ok (.iload_n 2, 1) := by decide +kernel
theorem dX8_majorityBound_25 : decode cX8_majorityBound 25 = .ok (.invokevirtual 415, 3) := by decide +kernel
theorem dX8_majorityBound_28 : decode cX8_majorityBound 28 = .ok (.ifCond .ne 5, 3) := by decide +kernel
theorem dX8_majorityBound_31 : decode cX8_majorityBound 31 = .ok (.iconst (-1), 1) := by decide +kernel
theorem dX8_majorityBound_32 : decode cX8_majorityBound 32 = .ok (.ireturn, 1) := by decide +kernel
theorem dX8_majorityBound_33 : decode cX8_majorityBound 33 = .ok (.iload_n 3, 1) := by decide +kernel
theorem dX8_majorityBound_34 : decode cX8_majorityBound 34 = .ok (.ifCond .ne 10, 3) := by decide +kernel
theorem dX8_majorityBound_37 : decode cX8_majorityBound 37 = .ok (.aload_n 0, 1) := by decide +kernel
theorem dX8_majorityBound_38 : decode cX8_majorityBound 38 = .ok (.getfield 403, 3) := by decide +kernel
theorem dX8_majorityBound_41 : decode cX8_majorityBound 41 = .ok (.goto 7, 3) := by decide +kernel
theorem dX8_majorityBound_44 : decode cX8_majorityBound 44 = .ok (.aload_n 0, 1) := by decide +kernel
theorem dX8_majorityBound_45 : decode cX8_majorityBound 45 = .ok (.getfield 406, 3) := by decide +kernel
theorem dX8_majorityBound_48 : decode cX8_majorityBound 48 = .ok (.ireturn, 1) := by decide +kernel
theorem dX8_regret_0 : decode cX8_regret 0 = .ok (.aload_n 0, 1) := by decide +kernel
theorem dX8_regret_1 : decode cX8_regret 1 = .ok (.aload_n 0, 1) := by decide +kernel
theorem dX8_regret_2 : decode cX8_regret 2 = .ok (.iload_n 1, 1) := by decide +kernel
theorem dX8_regret_3 : decode cX8_regret 3 = .ok (.invokevirtual 88, 3) := by decide +kernel
theorem dX8_regret_6 : decode cX8_regret 6 = .ok (.invokevirtual 215, 3) := by decide +kernel
theorem dX8_regret_9 : decode cX8_regret 9 = .ok (.ifCond .ne 5, 3) := by decide +kernel
theorem dX8_regret_12 : decode cX8_regret 12 = .ok (.iconst 0, 1) := by decide +kernel
theorem dX8_regret_13 : decode cX8_regret 13 = .ok (.ireturn, 1) := by decide +kernel
theorem dX8_regret_14 : decode cX8_regret 14 = .ok (.aload_n 0, 1) := by decide +kernel
theorem dX8_regret_15 : decode cX8_regret 15 = .ok (.iload_n 1, 1) := by decide +kernel
theorem dX8_regret_16 : decode cX8_regret 16 = .ok (.iconst 0, 1) := by decide +kernel
theorem dX8_regret_17 : decode cX8_regret 17 = .ok (.invokevirtual 209, 3) := by decide +kernel
theorem dX8_regret_20 : decode cX8_regret 20 = .ok (.istore_n 2, 1) := by decide +kernel
theorem dX8_regret_21 : decode cX8_regret 21 = .ok (.iload_n 2, 1) := by decide +kernel
theorem dX8_regret_22 : decode cX8_regret 22 = .ok (.iconst (-1), 1) := by decide +kernel
theorem dX8_regret_23 : decode cX8_regret 23 = .ok (.if_icmp .ne 7, 3) := by decide +kernel
theorem dX8_regret_26 : decode cX8_regret 26 = .ok (.iconst (-1), 1) := by decide +kernel
theorem dX8_regret_27 : decode cX8_regret 27 = .ok (.goto 23, 3) := by decide +kernel
theorem dX8_regret_30 : decode cX8_regret 30 = .ok (.aload_n 0, 1) := by decide +kernel
theorem dX8_regret_31 : decode cX8_regret 31 = .ok (.iload_n 1, 1) := by decide +kernel
theorem dX8_regret_32 : decode cX8_regret 32 = .ok (.iload_n 2, 1) := by decide +kernel
theorem dX8_regret_33 : decode cX8_regret 33 = .ok (.iconst 0, 1) := by decide +kernel
theorem dX8_regret_34 : decode cX8_regret 34 = .ok (.invokevirtual 206, 3) := by decide +kernel
theorem dX8_regret_37 : decode cX8_regret 37 = .ok (.aload_n 0, 1) := by decide +kernel
theorem dX8_regret_38 : decode cX8_regret 38 = .ok (.iload_n 1, 1) := by decide +kernel
theorem dX8_regret_39 : decode cX8_regret 39 = .ok (.aload_n 0, 1) := by decide +kernel
theorem dX8_regret_40 : decode cX8_regret 40 = .ok (.iload_n 1, 1) := by decide +kernel
theorem dX8_regret_41 : decode cX8_regret 41 = .ok (.iconst 1, 1) := by decide +kernel
theorem dX8_regret_42 : decode cX8_regret 42 = .ok (.invokevirtual 209, 3) := by decide +kernel
theorem dX8_regret_45 : decode cX8_regret 45 = .ok (.iconst 1, 1) := by decide +kernel
theorem dX8_regret_46 : decode cX8_regret 46 = .ok (.invokevirtual 206, 3) := by decide +kernel
theorem dX8_regret_49 : decode cX8_regret 49 = .ok (.isub, 1) := by decide +kernel
theorem dX8_regret_50 : decode cX8_regret 50 = .ok (.ireturn, 1) := by decide +kernel
theorem dX8_reaches_0 : decode cX8_reaches 0 = .ok (.iconst 1, 1) := by decide +kernel
theorem dX8_reaches_1 : decode cX8_reaches 1 = .ok (.iload_n 1, 1) := by decide +kernel
theorem dX8_reaches_2 : decode cX8_reaches 2 = .ok (.ishl, 1) := by decide +kernel
theorem dX8_reaches_3 : decode cX8_reaches 3 = .ok (.istore 4, 2) := by decide +kernel
theorem dX8_reaches_5 : decode cX8_reaches 5 = .ok (.iconst 0, 1) := by decide +kernel
theorem dX8_reaches_6 : decode cX8_reaches 6 = .ok (.istore 5, 2) := by decide +kernel
theorem dX8_reaches_8 : decode cX8_reaches 8 = .ok (.iload 5, 2) := by decide +kernel
theorem dX8_reaches_10 : decode cX8_reaches 10 = .ok (.bipush 6, 2) := by decide +kernel
theorem dX8_reaches_12 : decode cX8_reaches 12 = .ok (.if_icmp .ge 89, 3) := by decide +kernel
theorem dX8_reaches_15 : decode cX8_reaches 15 = .ok (.iload 4, 2) := by decide +kernel
theorem dX8_reaches_17 : decode cX8_reaches 17 = .ok (.istore 6, 2) := by decide +kernel
theorem dX8_reaches_19 : decode cX8_reaches 19 = .ok (.iconst 0, 1) := by decide +kernel
theorem dX8_reaches_20 : decode cX8_reaches 20 = .ok (.istore 7, 2) := by decide +kernel
theorem dX8_reaches_22 : decode cX8_reaches 22 = .ok (.iload 7, 2) := by decide +kernel
theorem dX8_reaches_24 : decode cX8_reaches 24 = .ok (.bipush 36, 2) := by decide +kernel
theorem dX8_reaches_26 : decode cX8_reaches 26 = .ok (.if_icmp .ge 65, 3) := by decide +kernel
theorem dX8_reaches_29 : decode cX8_reaches 29 = .ok (.iload 4, 2) := by decide +kernel
theorem dX8_reaches_31 : decode cX8_reaches 31 = .ok (.iload 7, 2) := by decide +kernel
theorem dX8_reaches_33 : decode cX8_reaches 33 = .ok (.bipush 6, 2) := by decide +kernel
theorem dX8_reaches_35 : decode cX8_reaches 35 = .ok (.idiv, 1) := by decide +kernel
theorem dX8_reaches_36 : decode cX8_reaches 36 = .ok (.ishr, 1) := by decide +kernel
theorem dX8_reaches_37 : decode cX8_reaches 37 = .ok (.iconst 1, 1) := by decide +kernel
theorem dX8_reaches_38 : decode cX8_reaches 38 = .ok (.iand, 1) := by decide +kernel
theorem dX8_reaches_39 : decode cX8_reaches 39 = .ok (.iconst 1, 1) := by decide +kernel
theorem dX8_reaches_40 : decode cX8_reaches 40 = .ok (.if_icmp .ne 21, 3) := by decide +kernel
theorem dX8_reaches_43 : decode cX8_reaches 43 = .ok (.aload_n 0, 1) := by decide +kernel
theorem dX8_reaches_44 : decode cX8_reaches 44 = .ok (.getfield 17, 3) := by decide +kernel
theorem dX8_reaches_47 : decode cX8_reaches 47 = .ok (.bipush 21, 2) := by decide +kernel
theorem dX8_reaches_49 : decode cX8_reaches 49 = .ok (.iload 7, 2) := by decide +kernel
theorem dX8_reaches_51 : decode cX8_reaches 51 = .ok (.iadd, 1) := by decide +kernel
theorem dX8_reaches_52 : decode cX8_reaches 52 = .ok (.iaload, 1) := by decide +kernel
theorem dX8_reaches_53 : decode cX8_reaches 53 = .ok (.iload_n 3, 1) := by decide +kernel
theorem dX8_reaches_54 : decode cX8_reaches 54 = .ok (.if_icmp .lt 7, 3) := by decide +kernel
theorem dX8_reaches_57 : decode cX8_reaches 57 = .ok (.iconst 1, 1) := by decide +kernel
theorem dX8_reaches_58 : decode cX8_reaches 58 = .ok (.goto 4, 3) := by decide +kernel
theorem dX8_reaches_61 : decode cX8_reaches 61 = .ok (.iconst 0, 1) := by decide +kernel
theorem dX8_reaches_62 : decode cX8_reaches 62 = .ok (.istore 8, 2) := by decide +kernel
theorem dX8_reaches_64 : decode cX8_reaches 64 = .ok (.iload 6, 2) := by decide +kernel
theorem dX8_reaches_66 : decode cX8_reaches 66 = .ok (.iload 8, 2) := by decide +kernel
theorem dX8_reaches_68 : decode cX8_reaches 68 = .ok (.ifCond .eq 13, 3) := by decide +kernel
theorem dX8_reaches_71 : decode cX8_reaches 71 = .ok (.iconst 1, 1) := by decide +kernel
theorem dX8_reaches_72 : decode cX8_reaches 72 = .ok (.iload 7, 2) := by decide +kernel
theorem dX8_reaches_74 : decode cX8_reaches 74 = .ok (.bipush 6, 2) := by decide +kernel
theorem dX8_reaches_76 : decode cX8_reaches 76 = .ok (.irem, 1) := by decide +kernel
theorem dX8_reaches_77 : decode cX8_reaches 77 = .ok (.ishl, 1) := by decide +kernel
theorem dX8_reaches_78 : decode cX8_reaches 78 = .ok (.goto 4, 3) := by decide +kernel
theorem dX8_reaches_81 : decode cX8_reaches 81 = .ok (.iconst 0, 1) := by decide +kernel
theorem dX8_reaches_82 : decode cX8_reaches 82 = .ok (.ior, 1) := by decide +kernel
theorem dX8_reaches_83 : decode cX8_reaches 83 = .ok (.istore 6, 2) := by decide +kernel
theorem dX8_reaches_85 : decode cX8_reaches 85 = .ok (.iinc 7 1, 3) := by decide +kernel
theorem dX8_reaches_88 : decode cX8_reaches 88 = .ok (.goto (-66), 3) := by decide +kernel
theorem dX8_reaches_91 : decode cX8_reaches 91 = .ok (.iload 6, 2) := by decide +kernel
theorem dX8_reaches_93 : decode cX8_reaches 93 = .ok (.istore 4, 2) := by decide +kernel
theorem dX8_reaches_95 : decode cX8_reaches 95 = .ok (.iinc 5 1, 3) := by decide +kernel
theorem dX8_reaches_98 : decode cX8_reaches 98 = .ok (.goto (-90), 3) := by decide +kernel
theorem dX8_reaches_101 : decode cX8_reaches 101 = .ok (.iload 4, 2) := by decide +kernel
theorem dX8_reaches_103 : decode cX8_reaches 103 = .ok (.iload_n 2, 1) := by decide +kernel
theorem dX8_reaches_104 : decode cX8_reaches 104 = .ok (.ishr, 1) := by decide +kernel
theorem dX8_reaches_105 : decode cX8_reaches 105 = .ok (.iconst 1, 1) := by decide +kernel
theorem dX8_reaches_106 : decode cX8_reaches 106 = .ok (.iand, 1) := by decide +kernel
theorem dX8_reaches_107 : decode cX8_reaches 107 = .ok (.iconst 1, 1) := by decide +kernel
theorem dX8_reaches_108 : decode cX8_reaches 108 = .ok (.if_icmp .ne 7, 3) := by decide +kernel
theorem dX8_reaches_111 : decode cX8_reaches 111 = .ok (.iconst 1, 1) := by decide +kernel
theorem dX8_reaches_112 : decode cX8_reaches 112 = .ok (.goto 4, 3) := by decide +kernel
theorem dX8_reaches_115 : decode cX8_reaches 115 = .ok (.iconst 0, 1) := by decide +kernel
theorem dX8_reaches_116 : decode cX8_reaches 116 = .ok (.ireturn, 1) := by decide +kernel
theorem dX8_bottleneck_0 : decode cX8_bottleneck 0 = .ok (.aload_n 0, 1) := by decide +kernel
theorem dX8_bottleneck_1 : decode cX8_bottleneck 1 = .ok (.aload_n 0, 1) := by decide +kernel
theorem dX8_bottleneck_2 : decode cX8_bottleneck 2 = .ok (.iload_n 1, 1) := by decide +kernel
theorem dX8_bottleneck_3 : decode cX8_bottleneck 3 = .ok (.iload_n 2, 1) := by decide +kernel
theorem dX8_bottleneck_4 : decode cX8_bottleneck 4 = .ok (.invokevirtual 363, 3) := by decide +kernel
theorem dX8_bottleneck_7 : decode cX8_bottleneck 7 = .ok (.invokevirtual 215, 3) := by decide +kernel
theorem dX8_bottleneck_10 : decode cX8_bottleneck 10 = .ok (.ifCond .ne 5, 3) := by decide +kernel
theorem dX8_bottleneck_13 : decode cX8_bottleneck 13 = .ok (.iconst 0, 1) := by decide +kernel
theorem dX8_bottleneck_14 : decode cX8_bottleneck 14 = .ok (.ireturn, 1) := by decide +kernel
theorem dX8_bottleneck_15 : decode cX8_bottleneck 15 = .ok (.bipush 10, 2) := by decide +kernel
theorem dX8_bottleneck_17 : decode cX8_bottleneck 17 = .ok (.istore_n 3, 1) := by decide +kernel
theorem dX8_bottleneck_18 : decode cX8_bottleneck 18 = .ok (.iload_n 3, 1) := by decide +kernel
theorem dX8_bottleneck_19 : decode cX8_bottleneck 19 = .ok (.ifCond .lt 19, 3) := by decide +kernel
theorem dX8_bottleneck_22 : decode cX8_bottleneck 22 = .ok (.aload_n 0, 1) := by decide +kernel
theorem dX8_bottleneck_23 : decode cX8_bottleneck 23 = .ok (.iload_n 1, 1) := by decide +kernel
theorem dX8_bottleneck_24 : decode cX8_bottleneck 24 = .ok (.iload_n 2, 1) := by decide +kernel
theorem dX8_bottleneck_25 : decode cX8_bottleneck 25 = .ok (.iload_n 3, 1) := by decide +kernel
theorem dX8_bottleneck_26 : decode cX8_bottleneck 26 = .ok (.invokevirtual 418, 3) := by decide +kernel
theorem dX8_bottleneck_29 : decode cX8_bottleneck 29 = .ok (.ifCond .ne 9, 3) := by decide +kernel
theorem dX8_bottleneck_32 : decode cX8_bottleneck 32 = .ok (.iinc 3 (-1), 3) := by decide +kernel
theorem dX8_bottleneck_35 : decode cX8_bottleneck 35 = .ok (.goto (-17), 3) := by decide +kernel
theorem dX8_bottleneck_38 : decode cX8_bottleneck 38 = .ok (.iload_n 3, 1) := by decide +kernel
theorem dX8_bottleneck_39 : decode cX8_bottleneck 39 = .ok (.ireturn, 1) := by decide +kernel
theorem dX8_doRound_0 : decode cX8_doRound 0 = .ok (.iconst 0, 1) := by decide +kernel
theorem dX8_doRound_1 : decode cX8_doRound 1 = .ok (.istore_n 1, 1) := by decide +kernel
theorem dX8_doRound_2 : decode cX8_doRound 2 = .ok (.iload_n 1, 1) := by decide +kernel
theorem dX8_doRound_3 : decode cX8_doRound 3 = .ok (.aload_n 0, 1) := by decide +kernel
theorem dX8_doRound_4 : decode cX8_doRound 4 = .ok (.invokevirtual 66, 3) := by decide +kernel
theorem dX8_doRound_7 : decode cX8_doRound 7 = .ok (.if_icmp .ge 15, 3) := by decide +kernel
theorem dX8_doRound_10 : decode cX8_doRound 10 = .ok (.aload_n 0, 1) := by decide +kernel
theorem dX8_doRound_11 : decode cX8_doRound 11 = .ok (.iload_n 1, 1) := by decide +kernel
theorem dX8_doRound_12 : decode cX8_doRound 12 = .ok (.invokevirtual 421, 3) := by decide +kernel
theorem dX8_doRound_15 : decode cX8_doRound 15 = .ok (.istore_n 2, 1) := by decide +kernel
theorem dX8_doRound_16 : decode cX8_doRound 16 = .ok (.iinc 1 1, 3) := by decide +kernel
theorem dX8_doRound_19 : decode cX8_doRound 19 = .ok (.goto (-17), 3) := by decide +kernel
theorem dX8_doRound_22 : decode cX8_doRound 22 = .ok (.aload_n 0, 1) := by decide +kernel
theorem dX8_doRound_23 : decode cX8_doRound 23 = .ok (.bipush 100, 2) := by decide +kernel
theorem dX8_doRound_25 : decode cX8_doRound 25 = .ok (.invokevirtual 424, 3) := by decide +kernel
theorem dX8_doRound_28 : decode cX8_doRound 28 = .ok (.ireturn, 1) := by decide +kernel
theorem dX8_informed_0 : decode cX8_informed 0 = .ok (.aload_n 0, 1) := by decide +kernel
theorem dX8_informed_1 : decode cX8_informed 1 = .ok (.aload_n 0, 1) := by decide +kernel
theorem dX8_informed_2 : decode cX8_informed 2 = .ok (.iload_n 1, 1) := by decide +kernel
theorem dX8_informed_3 : decode cX8_informed 3 = .ok (.iload_n 2, 1) := by decide +kernel
theorem dX8_informed_4 : decode cX8_informed 4 = .ok (.invokevirtual 381, 3) := by decide +kernel
theorem dX8_informed_7 : decode cX8_informed 7 = .ok (.iload_n 3, 1) := by decide +kernel
theorem dX8_informed_8 : decode cX8_informed 8 = .ok (.i2l, 1) := by decide +kernel
theorem dX8_informed_9 : decode cX8_informed 9 = .ok (.lconst 0, 1) := by decide +kernel
theorem dX8_informed_10 : decode cX8_informed 10 = .ok (.ldc2_w 347, 3) := by decide +kernel
theorem dX8_informed_13 : decode cX8_informed 13 = .ok (.invokestatic 70, 3) := by decide +kernel
theorem dX8_informed_16 : decode cX8_informed 16 = .ok (.invokevirtual 368, 3) := by decide +kernel
theorem dX8_informed_19 : decode cX8_informed 19 = .ok (.ifCond .ne 5, 3) := by decide +kernel
theorem dX8_informed_22 : decode cX8_informed 22 = .ok (.iconst 0, 1) := by decide +kernel
theorem dX8_informed_23 : decode cX8_informed 23 = .ok (.ireturn, 1) := by decide +kernel
theorem dX8_informed_24 : decode cX8_informed 24 = .ok (.aload_n 0, 1) := by decide +kernel
theorem dX8_informed_25 : decode cX8_informed 25 = .ok (.invokevirtual 427, 3) := by decide +kernel
theorem dX8_informed_28 : decode cX8_informed 28 = .ok (.iconst 0, 1) := by decide +kernel
theorem dX8_informed_29 : decode cX8_informed 29 = .ok (.istore 4, 2) := by decide +kernel
theorem dX8_informed_31 : decode cX8_informed 31 = .ok (.iload 4, 2) := by decide +kernel
theorem dX8_informed_33 : decode cX8_informed 33 = .ok (.iload_n 3, 1) := by decide +kernel
theorem dX8_informed_34 : decode cX8_informed 34 = .ok (.if_icmp .ge 15, 3) := by decide +kernel
theorem dX8_informed_37 : decode cX8_informed 37 = .ok (.aload_n 0, 1) := by decide +kernel
theorem dX8_informed_38 : decode cX8_informed 38 = .ok (.invokevirtual 430, 3) := by decide +kernel
theorem dX8_informed_41 : decode cX8_informed 41 = .ok (.istore 5, 2) := by decide +kernel
theorem dX8_informed_43 : decode cX8_informed 43 = .ok (.iinc 4 1, 3) := by decide +kernel
theorem dX8_informed_46 : decode cX8_informed 46 = .ok (.goto (-15), 3) := by decide +kernel
theorem dX8_informed_49 : decode cX8_informed 49 = .ok (.iconst 0, 1) := by decide +kernel
theorem dX8_informed_50 : decode cX8_informed 50 = .ok (.istore 4, 2) := by decide +kernel
theorem dX8_informed_52 : decode cX8_informed 52 = .ok (.iconst 0, 1) := by decide +kernel
theorem dX8_informed_53 : decode cX8_informed 53 = .ok (.istore 5, 2) := by decide +kernel
theorem dX8_informed_55 : decode cX8_informed 55 = .ok (.iload 5, 2) := by decide +kernel
theorem dX8_informed_57 : decode cX8_informed 57 = .ok (.aload_n 0, 1) := by decide +kernel
theorem dX8_informed_58 : decode cX8_informed 58 = .ok (.invokevirtual 66, 3) := by decide +kernel
theorem dX8_informed_61 : decode cX8_informed 61 = .ok (.if_icmp .ge 34, 3) := by decide +kernel
theorem dX8_informed_64 : decode cX8_informed 64 = .ok (.iload 4, 2) := by decide +kernel
theorem dX8_informed_66 : decode cX8_informed 66 = .ok (.aload_n 0, 1) := by decide +kernel
theorem dX8_informed_67 : decode cX8_informed 67 = .ok (.iload 5, 2) := by decide +kernel
theorem dX8_informed_69 : decode cX8_informed 69 = .ok (.iload_n 1, 1) := by decide +kernel
theorem dX8_informed_70 : decode cX8_informed 70 = .ok (.iload_n 2, 1) := by decide +kernel
theorem dX8_informed_71 : decode cX8_informed 71 = .ok (.invokevirtual 99, 3) := by decide +kernel
theorem dX8_informed_74 : decode cX8_informed 74 = .ok (.iconst (-1), 1) := by decide +kernel
theorem dX8_informed_75 : decode cX8_informed 75 = .ok (.if_icmp .ne 7, 3) := by decide +kernel
theorem dX8_informed_78 : decode cX8_informed 78 = .ok (.iconst 0, 1) := by decide +kernel
theorem dX8_informed_79 : decode cX8_informed 79 = .ok (.goto 7, 3) := by decide +kernel
theorem dX8_informed_82 : decode cX8_informed 82 = .ok (.iconst 1, 1) := by decide +kernel
theorem dX8_informed_83 : decode cX8_informed 83 = .ok (.iload 5, 2) := by decide +kernel
theorem dX8_informed_85 : decode cX8_informed 85 = .ok (.ishl, 1) := by decide +kernel
theorem dX8_informed_86 : decode cX8_informed 86 = .ok (.ior, 1) := by decide +kernel
theorem dX8_informed_87 : decode cX8_informed 87 = .ok (.istore 4, 2) := by decide +kernel
theorem dX8_informed_89 : decode cX8_informed 89 = .ok (.iinc 5 1, 3) := by decide +kernel
theorem dX8_informed_92 : decode cX8_informed 92 = .ok (.goto (-37), 3) := by decide +kernel
theorem dX8_informed_95 : decode cX8_informed 95 = .ok (.aload_n 0, 1) := by decide +kernel
theorem dX8_informed_96 : decode cX8_informed 96 = .ok (.iload 4, 2) := by decide +kernel
theorem dX8_informed_98 : decode cX8_informed 98 = .ok (.invokevirtual 433, 3) := by decide +kernel
theorem dX8_informed_101 : decode cX8_informed 101 = .ok (.ireturn, 1) := by decide +kernel
theorem dX8_exchange_0 : decode cX8_exchange 0 = .ok (.aload_n 0, 1) := by decide +kernel
theorem dX8_exchange_1 : decode cX8_exchange 1 = .ok (.iload_n 1, 1) := by decide +kernel
theorem dX8_exchange_2 : decode cX8_exchange 2 = .ok (.i2l, 1) := by decide +kernel
theorem dX8_exchange_3 : decode cX8_exchange 3 = .ok (.lconst 1, 1) := by decide +kernel
theorem dX8_exchange_4 : decode cX8_exchange 4 = .ok (.ldc2_w 347, 3) := by decide +kernel
theorem dX8_exchange_7 : decode cX8_exchange 7 = .ok (.invokestatic 70, 3) := by decide +kernel
theorem dX8_exchange_10 : decode cX8_exchange 10 = .ok (.invokevirtual 215, 3) := by decide +kernel
theorem dX8_exchange_13 : decode cX8_exchange 13 = .ok (.ifCond .ne 5, 3) := by decide +kernel
theorem dX8_exchange_16 : decode cX8_exchange 16 = .ok (.iconst 0, 1) := by decide +kernel
theorem dX8_exchange_17 : decode cX8_exchange 17 = .ok (.ireturn, 1) := by decide +kernel
theorem dX8_exchange_18 : decode cX8_exchange 18 = .ok (.aload_n 0, 1) := by decide +kernel
theorem dX8_exchange_19 : decode cX8_exchange 19 = .ok (.invokevirtual 344, 3) := by decide +kernel
theorem dX8_exchange_22 : decode cX8_exchange 22 = .ok (.iconst 0, 1) := by decide +kernel
theorem dX8_exchange_23 : decode cX8_exchange 23 = .ok (.istore_n 2, 1) := by decide +kernel
theorem dX8_exchange_24 : decode cX8_exchange 24 = .ok (.iconst 0, 1) := by decide +kernel
theorem dX8_exchange_25 : decode cX8_exchange 25 = .ok (.istore_n 3, 1) := by decide +kernel
theorem dX8_exchange_26 : decode cX8_exchange 26 = .ok (.iload_n 3, 1) := by decide +kernel
theorem dX8_exchange_27 : decode cX8_exchange 27 = .ok (.iload_n 1, 1) := by decide +kernel
theorem dX8_exchange_28 : decode cX8_exchange 28 = .ok (.if_icmp .ge 16, 3) := by decide +kernel
theorem dX8_exchange_31 : decode cX8_exchange 31 = .ok (.iload_n 2, 1) := by decide +kernel
theorem dX8_exchange_32 : decode cX8_exchange 32 = .ok (.aload_n 0, 1) := by decide +kernel
theorem dX8_exchange_33 : decode cX8_exchange 33 = .ok (.invokevirtual 430, 3) := by decide +kernel
theorem dX8_exchange_36 : decode cX8_exchange 36 = .ok (.iadd, 1) := by decide +kernel
theorem dX8_exchange_37 : decode cX8_exchange 37 = .ok (.istore_n 2, 1) := by decide +kernel
theorem dX8_exchange_38 : decode cX8_exchange 38 = .ok (.iinc 3 1, 3) := by decide +kernel
theorem dX8_exchange_41 : decode cX8_exchange 41 = .ok (.goto (-15), 3) := by decide +kernel
theorem dX8_exchange_44 : decode cX8_exchange 44 = .ok (.iload_n 2, 1) := by decide +kernel
theorem dX8_exchange_45 : decode cX8_exchange 45 = .ok (.ireturn, 1) := by decide +kernel
theorem dX8_cleanse_0 : decode cX8_cleanse 0 = .ok (.aload_n 0, 1) := by decide +kernel
theorem dX8_cleanse_1 : decode cX8_cleanse 1 = .ok (.aload_n 0, 1) := by decide +kernel
theorem dX8_cleanse_2 : decode cX8_cleanse 2 = .ok (.iload_n 1, 1) := by decide +kernel
theorem dX8_cleanse_3 : decode cX8_cleanse 3 = .ok (.invokevirtual 88, 3) := by decide +kernel
theorem dX8_cleanse_6 : decode cX8_cleanse 6 = .ok (.invokevirtual 215, 3) := by decide +kernel
theorem dX8_cleanse_9 : decode cX8_cleanse 9 = .ok (.ifCond .ne 5, 3) := by decide +kernel
theorem dX8_cleanse_12 : decode cX8_cleanse 12 = .ok (.iconst 0, 1) := by decide +kernel
theorem dX8_cleanse_13 : decode cX8_cleanse 13 = .ok (.ireturn, 1) := by decide +kernel
theorem dX8_cleanse_14 : decode cX8_cleanse 14 = .ok (.aload_n 0, 1) := by decide +kernel
theorem dX8_cleanse_15 : decode cX8_cleanse 15 = .ok (.invokevirtual 344, 3) := by decide +kernel
theorem dX8_cleanse_18 : decode cX8_cleanse 18 = .ok (.iconst 0, 1) := by decide +kernel
theorem dX8_cleanse_19 : decode cX8_cleanse 19 = .ok (.istore_n 2, 1) := by decide +kernel
theorem dX8_cleanse_20 : decode cX8_cleanse 20 = .ok (.iload_n 2, 1) := by decide +kernel
theorem dX8_cleanse_21 : decode cX8_cleanse 21 = .ok (.aload_n 0, 1) := by decide +kernel
theorem dX8_cleanse_22 : decode cX8_cleanse 22 = .ok (.iload_n 1, 1) := by decide +kernel
theorem dX8_cleanse_23 : decode cX8_cleanse 23 = .ok (.invokevirtual 92, 3) := by decide +kernel
theorem dX8_cleanse_26 : decode cX8_cleanse 26 = .ok (.if_icmp .ge 30, 3) := by decide +kernel
theorem dX8_cleanse_29 : decode cX8_cleanse 29 = .ok (.aload_n 0, 1) := by decide +kernel
theorem dX8_cleanse_30 : decode cX8_cleanse 30 = .ok (.getfield 47, 3) := by decide +kernel
theorem dX8_cleanse_33 : decode cX8_cleanse 33 = .ok (.iload_n 2, 1) := by decide +kernel
theorem dX8_cleanse_34 : decode cX8_cleanse 34 = .ok (.aload_n 0, 1) := by decide +kernel
theorem dX8_cleanse_35 : decode cX8_cleanse 35 = .ok (.iload_n 1, 1) := by decide +kernel
theorem dX8_cleanse_36 : decode cX8_cleanse 36 = .ok (.iload_n 2, 1) := by decide +kernel
theorem dX8_cleanse_37 : decode cX8_cleanse 37 = .ok (.invokevirtual 375, 3) := by decide +kernel
theorem dX8_cleanse_40 : decode cX8_cleanse 40 = .ok (.iconst 1, 1) := by decide +kernel
theorem dX8_cleanse_41 : decode cX8_cleanse 41 = .ok (.if_icmp .ne 7, 3) := by decide +kernel
theorem dX8_cleanse_44 : decode cX8_cleanse 44 = .ok (.iconst 1, 1) := by decide +kernel
theorem dX8_cleanse_45 : decode cX8_cleanse 45 = .ok (.goto 4, 3) := by decide +kernel
theorem dX8_cleanse_48 : decode cX8_cleanse 48 = .ok (.iconst 0, 1) := by decide +kernel
theorem dX8_cleanse_49 : decode cX8_cleanse 49 = .ok (.bastore, 1) := by decide +kernel
theorem dX8_cleanse_50 : decode cX8_cleanse 50 = .ok (.iinc 2 1, 3) := by decide +kernel
theorem dX8_cleanse_53 : decode cX8_cleanse 53 = .ok (.goto (-33), 3) := by decide +kernel
theorem dX8_cleanse_56 : decode cX8_cleanse 56 = .ok (.iconst 0, 1) := by decide +kernel
theorem dX8_cleanse_57 : decode cX8_cleanse 57 = .ok (.istore_n 2, 1) := by decide +kernel
theorem dX8_cleanse_58 : decode cX8_cleanse 58 = .ok (.aload_n 0, 1) := by decide +kernel
theorem dX8_cleanse_59 : decode cX8_cleanse 59 = .ok (.iload_n 1, 1) := by decide +kernel
theorem dX8_cleanse_60 : decode cX8_cleanse 60 = .ok (.invokevirtual 92, 3) := by decide +kernel
theorem dX8_cleanse_63 : decode cX8_cleanse 63 = .ok (.iconst 1, 1) := by decide +kernel
theorem dX8_cleanse_64 : decode cX8_cleanse 64 = .ok (.isub, 1) := by decide +kernel
theorem dX8_cleanse_65 : decode cX8_cleanse 65 = .ok (.istore_n 3, 1) := by decide +kernel
theorem dX8_cleanse_66 : decode cX8_cleanse 66 = .ok (.iload_n 3, 1) := by decide +kernel
theorem dX8_cleanse_67 : decode cX8_cleanse 67 = .ok (.ifCond .lt 30, 3) := by decide +kernel
theorem dX8_cleanse_70 : decode cX8_cleanse 70 = .ok (.aload_n 0, 1) := by decide +kernel
theorem dX8_cleanse_71 : decode cX8_cleanse 71 = .ok (.getfield 47, 3) := by decide +kernel
theorem dX8_cleanse_74 : decode cX8_cleanse 74 = .ok (.iload_n 3, 1) := by decide +kernel
theorem dX8_cleanse_75 : decode cX8_cleanse 75 = .ok (.baload, 1) := by decide +kernel
theorem dX8_cleanse_76 : decode cX8_cleanse 76 = .ok (.ifCond .ne 6, 3) := by decide +kernel
theorem dX8_cleanse_79 : decode cX8_cleanse 79 = .ok (.goto 12, 3) := by decide +kernel
theorem dX8_cleanse_82 : decode cX8_cleanse 82 = .ok (.aload_n 0, 1) := by decide +kernel
theorem dX8_cleanse_83 : decode cX8_cleanse 83 = .ok (.iload_n 1, 1) := by decide +kernel
theorem dX8_cleanse_84 : decode cX8_cleanse 84 = .ok (.iload_n 3, 1) := by decide +kernel
theorem dX8_cleanse_85 : decode cX8_cleanse 85 = .ok (.invokevirtual 147, 3) := by decide +kernel
theorem dX8_cleanse_88 : decode cX8_cleanse 88 = .ok (.iinc 2 1, 3) := by decide +kernel
theorem dX8_cleanse_91 : decode cX8_cleanse 91 = .ok (.iinc 3 (-1), 3) := by decide +kernel
theorem dX8_cleanse_94 : decode cX8_cleanse 94 = .ok (.goto (-28), 3) := by decide +kernel
theorem dX8_cleanse_97 : decode cX8_cleanse 97 = .ok (.iload_n 2, 1) := by decide +kernel
theorem dX8_cleanse_98 : decode cX8_cleanse 98 = .ok (.ireturn, 1) := by decide +kernel
theorem dX8_areBounds_0 : decode cX8_areBounds 0 = .ok (.iload_n 0, 1) := by decide +kernel
theorem dX8_areBounds_1 : decode cX8_areBounds 1 = .ok (.i2l, 1) := by decide +kernel
theorem dX8_areBounds_2 : decode cX8_areBounds 2 = .ok (.lconst 0, 1) := by decide +kernel
theorem dX8_areBounds_3 : decode cX8_areBounds 3 = .ok (.ldc2_w 436, 3) := by decide +kernel
theorem dX8_areBounds_6 : decode cX8_areBounds 6 = .ok (.invokestatic 70, 3) := by decide +kernel
theorem dX8_areBounds_9 : decode cX8_areBounds 9 = .ok (.ifCond .eq 20, 3) := by decide +kernel
theorem dX8_areBounds_12 : decode cX8_areBounds 12 = .ok (.iload_n 1, 1) := by decide +kernel
theorem dX8_areBounds_13 : decode cX8_areBounds 13 = .ok (.i2l, 1) := by decide +kernel
theorem dX8_areBounds_14 : decode cX8_areBounds 14 = .ok (.iload_n 0, 1) := by decide +kernel
theorem dX8_areBounds_15 : decode cX8_areBounds 15 = .ok (.i2l, 1) := by decide +kernel
theorem dX8_areBounds_16 : decode cX8_areBounds 16 = .ok (.ldc2_w 436, 3) := by decide +kernel
theorem dX8_areBounds_19 : decode cX8_areBounds 19 = .ok (.invokestatic 70, 3) := by decide +kernel
theorem dX8_areBounds_22 : decode cX8_areBounds 22 = .ok (.ifCond .eq 7, 3) := by decide +kernel
theorem dX8_areBounds_25 : decode cX8_areBounds 25 = .ok (.iconst 1, 1) := by decide +kernel
theorem dX8_areBounds_26 : decode cX8_areBounds 26 = .ok (.goto 4, 3) := by decide +kernel
theorem dX8_areBounds_29 : decode cX8_areBounds 29 = .ok (.iconst 0, 1) := by decide +kernel
theorem dX8_areBounds_30 : decode cX8_areBounds 30 = .ok (.ireturn, 1) := by decide +kernel
theorem dX8_beliefIf_0 : decode cX8_beliefIf 0 = .ok (.aload_n 0, 1) := by decide +kernel
theorem dX8_beliefIf_1 : decode cX8_beliefIf 1 = .ok (.aload_n 0, 1) := by decide +kernel
theorem dX8_beliefIf_2 : decode cX8_beliefIf 2 = .ok (.iload_n 1, 1) := by decide +kernel
theorem dX8_beliefIf_3 : decode cX8_beliefIf 3 = .ok (.iload_n 2, 1) := by decide +kernel
theorem dX8_beliefIf_4 : decode cX8_beliefIf 4 = .ok (.invokevirtual 381, 3) := by decide +kernel
theorem dX8_beliefIf_7 : decode cX8_beliefIf 7 = .ok (.iload_n 3, 1) := by decide +kernel
theorem dX8_beliefIf_8 : decode cX8_beliefIf 8 = .ok (.iload 4, 2) := by decide +kernel
theorem dX8_beliefIf_10 : decode cX8_beliefIf 10 = .ok (.invokestatic 438, 3) := by decide +kernel
theorem dX8_beliefIf_13 : decode cX8_beliefIf 13 = .ok (.ifCond .eq 18, 3) := by decide +kernel
theorem dX8_beliefIf_16 : decode cX8_beliefIf 16 = .ok (.iload 5, 2) := by decide +kernel
theorem dX8_beliefIf_18 : decode cX8_beliefIf 18 = .ok (.i2l, 1) := by decide +kernel
theorem dX8_beliefIf_19 : decode cX8_beliefIf 19 = .ok (.lconst 0, 1) := by decide +kernel
theorem dX8_beliefIf_20 : decode cX8_beliefIf 20 = .ok (.lconst 1, 1) := by decide +kernel
theorem dX8_beliefIf_21 : decode cX8_beliefIf 21 = .ok (.invokestatic 70, 3) := by decide +kernel
theorem dX8_beliefIf_24 : decode cX8_beliefIf 24 = .ok (.ifCond .eq 7, 3) := by decide +kernel
theorem dX8_beliefIf_27 : decode cX8_beliefIf 27 = .ok (.iconst 1, 1) := by decide +kernel
theorem dX8_beliefIf_28 : decode cX8_beliefIf 28 = .ok (.goto 4, 3) := by decide +kernel
theorem dX8_beliefIf_31 : decode cX8_beliefIf 31 = .ok (.iconst 0, 1) := by decide +kernel
theorem dX8_beliefIf_32 : decode cX8_beliefIf 32 = .ok (.invokevirtual 368, 3) := by decide +kernel
theorem dX8_beliefIf_35 : decode cX8_beliefIf 35 = .ok (.ifCond .ne 5, 3) := by decide +kernel
theorem dX8_beliefIf_38 : decode cX8_beliefIf 38 = .ok (.iconst 0, 1) := by decide +kernel
theorem dX8_beliefIf_39 : decode cX8_beliefIf 39 = .ok (.ireturn, 1) := by decide +kernel
theorem dX8_beliefIf_40 : decode cX8_beliefIf 40 = .ok (.aload_n 0, 1) := by decide +kernel
theorem dX8_beliefIf_41 : decode cX8_beliefIf 41 = .ok (.invokevirtual 427, 3) := by decide +kernel
theorem dX8_beliefIf_44 : decode cX8_beliefIf 44 = .ok (.aload_n 0, 1) := by decide +kernel
theorem dX8_beliefIf_45 : decode cX8_beliefIf 45 = .ok (.iload_n 1, 1) := by decide +kernel
theorem dX8_beliefIf_46 : decode cX8_beliefIf 46 = .ok (.iload_n 2, 1) := by decide +kernel
theorem dX8_beliefIf_47 : decode cX8_beliefIf 47 = .ok (.iload_n 3, 1) := by decide +kernel
theorem dX8_beliefIf_48 : decode cX8_beliefIf 48 = .ok (.iload 4, 2) := by decide +kernel
theorem dX8_beliefIf_50 : decode cX8_beliefIf 50 = .ok (.invokevirtual 322, 3) := by decide +kernel
theorem dX8_beliefIf_53 : decode cX8_beliefIf 53 = .ok (.istore 6, 2) := by decide +kernel
theorem dX8_beliefIf_55 : decode cX8_beliefIf 55 = .ok (.aload_n 0, 1) := by decide +kernel
theorem dX8_beliefIf_56 : decode cX8_beliefIf 56 = .ok (.aload_n 0, 1) := by decide +kernel
theorem dX8_beliefIf_57 : decode cX8_beliefIf 57 = .ok (.iload_n 1, 1) := by decide +kernel
theorem dX8_beliefIf_58 : decode cX8_beliefIf 58 = .ok (.iload_n 2, 1) := by decide +kernel
theorem dX8_beliefIf_59 : decode cX8_beliefIf 59 = .ok (.iload 5, 2) := by decide +kernel
theorem dX8_beliefIf_61 : decode cX8_beliefIf 61 = .ok (.invokevirtual 384, 3) := by decide +kernel
theorem dX8_beliefIf_64 : decode cX8_beliefIf 64 = .ok (.invokevirtual 433, 3) := by decide +kernel
theorem dX8_beliefIf_67 : decode cX8_beliefIf 67 = .ok (.ireturn, 1) := by decide +kernel
theorem dX8_trustIf_0 : decode cX8_trustIf 0 = .ok (.aload_n 0, 1) := by decide +kernel
theorem dX8_trustIf_1 : decode cX8_trustIf 1 = .ok (.aload_n 0, 1) := by decide +kernel
theorem dX8_trustIf_2 : decode cX8_trustIf 2 = .ok (.iload_n 1, 1) := by decide +kernel
theorem dX8_trustIf_3 : decode cX8_trustIf 3 = .ok (.iload_n 2, 1) := by decide +kernel
theorem dX8_trustIf_4 : decode cX8_trustIf 4 = .ok (.invokevirtual 381, 3) := by decide +kernel
theorem dX8_trustIf_7 : decode cX8_trustIf 7 = .ok (.ifCond .eq 16, 3) := by decide +kernel
theorem dX8_trustIf_10 : decode cX8_trustIf 10 = .ok (.aload_n 0, 1) := by decide +kernel
theorem dX8_trustIf_11 : decode cX8_trustIf 11 = .ok (.iload 5, 2) := by decide +kernel
theorem dX8_trustIf_13 : decode cX8_trustIf 13 = .ok (.invokevirtual 88, 3) := by decide +kernel
theorem dX8_trustIf_16 : decode cX8_trustIf 16 = .ok (.ifCond .eq 7, 3) := by decide +kernel
theorem dX8_trustIf_19 : decode cX8_trustIf 19 = .ok (.iconst 1, 1) := by decide +kernel
theorem dX8_trustIf_20 : decode cX8_trustIf 20 = .ok (.goto 4, 3) := by decide +kernel
theorem dX8_trustIf_23 : decode cX8_trustIf 23 = .ok (.iconst 0, 1) := by decide +kernel
theorem dX8_trustIf_24 : decode cX8_trustIf 24 = .ok (.iload_n 3, 1) := by decide +kernel
theorem dX8_trustIf_25 : decode cX8_trustIf 25 = .ok (.iload 4, 2) := by decide +kernel
theorem dX8_trustIf_27 : decode cX8_trustIf 27 = .ok (.invokestatic 438, 3) := by decide +kernel
theorem dX8_trustIf_30 : decode cX8_trustIf 30 = .ok (.invokevirtual 368, 3) := by decide +kernel
theorem dX8_trustIf_33 : decode cX8_trustIf 33 = .ok (.ifCond .ne 5, 3) := by decide +kernel
theorem dX8_trustIf_36 : decode cX8_trustIf 36 = .ok (.iconst 0, 1) := by decide +kernel
theorem dX8_trustIf_37 : decode cX8_trustIf 37 = .ok (.ireturn, 1) := by decide +kernel
theorem dX8_trustIf_38 : decode cX8_trustIf 38 = .ok (.aload_n 0, 1) := by decide +kernel
theorem dX8_trustIf_39 : decode cX8_trustIf 39 = .ok (.invokevirtual 427, 3) := by decide +kernel
theorem dX8_trustIf_42 : decode cX8_trustIf 42 = .ok (.aload_n 0, 1) := by decide +kernel
theorem dX8_trustIf_43 : decode cX8_trustIf 43 = .ok (.iload_n 1, 1) := by decide +kernel
theorem dX8_trustIf_44 : decode cX8_trustIf 44 = .ok (.iload_n 2, 1) := by decide +kernel
theorem dX8_trustIf_45 : decode cX8_trustIf 45 = .ok (.iload_n 3, 1) := by decide +kernel
theorem dX8_trustIf_46 : decode cX8_trustIf 46 = .ok (.iload 4, 2) := by decide +kernel
theorem dX8_trustIf_48 : decode cX8_trustIf 48 = .ok (.invokevirtual 322, 3) := by decide +kernel
theorem dX8_trustIf_51 : decode cX8_trustIf 51 = .ok (.istore 6, 2) := by decide +kernel
theorem dX8_trustIf_53 : decode cX8_trustIf 53 = .ok (.aload_n 0, 1) := by decide +kernel
theorem dX8_trustIf_54 : decode cX8_trustIf 54 = .ok (.aload_n 0, 1) := by decide +kernel
theorem dX8_trustIf_55 : decode cX8_trustIf 55 = .ok (.iload_n 1, 1) := by decide +kernel
theorem dX8_trustIf_56 : decode cX8_trustIf 56 = .ok (.iload 5, 2) := by decide +kernel
theorem dX8_trustIf_58 : decode cX8_trustIf 58 = .ok (.invokevirtual 77, 3) := by decide +kernel
theorem dX8_trustIf_61 : decode cX8_trustIf 61 = .ok (.invokevirtual 433, 3) := by decide +kernel
theorem dX8_trustIf_64 : decode cX8_trustIf 64 = .ok (.ireturn, 1) := by decide +kernel
theorem dX8_widthAfter_0 : decode cX8_widthAfter 0 = .ok (.aload_n 0, 1) := by decide +kernel
theorem dX8_widthAfter_1 : decode cX8_widthAfter 1 = .ok (.aload_n 0, 1) := by decide +kernel
theorem dX8_widthAfter_2 : decode cX8_widthAfter 2 = .ok (.iload_n 1, 1) := by decide +kernel
theorem dX8_widthAfter_3 : decode cX8_widthAfter 3 = .ok (.iload_n 2, 1) := by decide +kernel
theorem dX8_widthAfter_4 : decode cX8_widthAfter 4 = .ok (.invokevirtual 381, 3) := by decide +kernel
theorem dX8_widthAfter_7 : decode cX8_widthAfter 7 = .ok (.iload_n 3, 1) := by decide +kernel
theorem dX8_widthAfter_8 : decode cX8_widthAfter 8 = .ok (.i2l, 1) := by decide +kernel
theorem dX8_widthAfter_9 : decode cX8_widthAfter 9 = .ok (.lconst 0, 1) := by decide +kernel
theorem dX8_widthAfter_10 : decode cX8_widthAfter 10 = .ok (.ldc2_w 441, 3) := by decide +kernel
theorem dX8_widthAfter_13 : decode cX8_widthAfter 13 = .ok (.invokestatic 70, 3) := by decide +kernel
theorem dX8_widthAfter_16 : decode cX8_widthAfter 16 = .ok (.invokevirtual 368, 3) := by decide +kernel
theorem dX8_widthAfter_19 : decode cX8_widthAfter 19 = .ok (.ifCond .ne 5, 3) := by decide +kernel
theorem dX8_widthAfter_22 : decode cX8_widthAfter 22 = .ok (.iconst 0, 1) := by decide +kernel
theorem dX8_widthAfter_23 : decode cX8_widthAfter 23 = .ok (.ireturn, 1) := by decide +kernel
theorem dX8_widthAfter_24 : decode cX8_widthAfter 24 = .ok (.aload_n 0, 1) := by decide +kernel
theorem dX8_widthAfter_25 : decode cX8_widthAfter 25 = .ok (.invokevirtual 427, 3) := by decide +kernel
theorem dX8_widthAfter_28 : decode cX8_widthAfter 28 = .ok (.iload_n 3, 1) := by decide +kernel
theorem dX8_widthAfter_29 : decode cX8_widthAfter 29 = .ok (.ifCond .le 11, 3) := by decide +kernel
theorem dX8_widthAfter_32 : decode cX8_widthAfter 32 = .ok (.aload_n 0, 1) := by decide +kernel
theorem dX8_widthAfter_33 : decode cX8_widthAfter 33 = .ok (.iload_n 3, 1) := by decide +kernel
theorem dX8_widthAfter_34 : decode cX8_widthAfter 34 = .ok (.invokevirtual 443, 3) := by decide +kernel
theorem dX8_widthAfter_37 : decode cX8_widthAfter 37 = .ok (.goto 4, 3) := by decide +kernel
theorem dX8_widthAfter_40 : decode cX8_widthAfter 40 = .ok (.iconst 0, 1) := by decide +kernel
theorem dX8_widthAfter_41 : decode cX8_widthAfter 41 = .ok (.istore 4, 2) := by decide +kernel
theorem dX8_widthAfter_43 : decode cX8_widthAfter 43 = .ok (.aload_n 0, 1) := by decide +kernel
theorem dX8_widthAfter_44 : decode cX8_widthAfter 44 = .ok (.aload_n 0, 1) := by decide +kernel
theorem dX8_widthAfter_45 : decode cX8_widthAfter 45 = .ok (.iload_n 1, 1) := by decide +kernel
theorem dX8_widthAfter_46 : decode cX8_widthAfter 46 = .ok (.iload_n 2, 1) := by decide +kernel
theorem dX8_widthAfter_47 : decode cX8_widthAfter 47 = .ok (.invokevirtual 395, 3) := by decide +kernel
theorem dX8_widthAfter_50 : decode cX8_widthAfter 50 = .ok (.invokevirtual 433, 3) := by decide +kernel
theorem dX8_widthAfter_53 : decode cX8_widthAfter 53 = .ok (.ireturn, 1) := by decide +kernel
theorem dX8_widthBut_0 : decode cX8_widthBut 0 = .ok (.aload_n 0, 1) := by decide +kernel
theorem dX8_widthBut_1 : decode cX8_widthBut 1 = .ok (.iload_n 3, 1) := by decide +kernel
theorem dX8_widthBut_2 : decode cX8_widthBut 2 = .ok (.putfield 27, 3) := by decide +kernel
theorem dX8_widthBut_5 : decode cX8_widthBut 5 = .ok (.aload_n 0, 1) := by decide +kernel
theorem dX8_widthBut_6 : decode cX8_widthBut 6 = .ok (.iload_n 1, 1) := by decide +kernel
theorem dX8_widthBut_7 : decode cX8_widthBut 7 = .ok (.iload_n 2, 1) := by decide +kernel
theorem dX8_widthBut_8 : decode cX8_widthBut 8 = .ok (.invokevirtual 395, 3) := by decide +kernel
theorem dX8_widthBut_11 : decode cX8_widthBut 11 = .ok (.istore 4, 2) := by decide +kernel
theorem dX8_widthBut_13 : decode cX8_widthBut 13 = .ok (.aload_n 0, 1) := by decide +kernel
theorem dX8_widthBut_14 : decode cX8_widthBut 14 = .ok (.iconst (-1), 1) := by decide +kernel
theorem dX8_widthBut_15 : decode cX8_widthBut 15 = .ok (.putfield 27, 3) := by decide +kernel
theorem dX8_widthBut_18 : decode cX8_widthBut 18 = .ok (.iload 4, 2) := by decide +kernel
theorem dX8_widthBut_20 : decode cX8_widthBut 20 = .ok (.ireturn, 1) := by decide +kernel
theorem dX8_widthWithout_0 : decode cX8_widthWithout 0 = .ok (.aload_n 0, 1) := by decide +kernel
theorem dX8_widthWithout_1 : decode cX8_widthWithout 1 = .ok (.aload_n 0, 1) := by decide +kernel
theorem dX8_widthWithout_2 : decode cX8_widthWithout 2 = .ok (.iload_n 1, 1) := by decide +kernel
theorem dX8_widthWithout_3 : decode cX8_widthWithout 3 = .ok (.iload_n 2, 1) := by decide +kernel
theorem dX8_widthWithout_4 : decode cX8_widthWithout 4 = .ok (.invokevirtual 381, 3) := by decide +kernel
theorem dX8_widthWithout_7 : decode cX8_widthWithout 7 = .ok (.ifCond .eq 15, 3) := by decide +kernel
theorem dX8_widthWithout_10 : decode cX8_widthWithout 10 = .ok (.aload_n 0, 1) := by decide +kernel
theorem dX8_widthWithout_11 : decode cX8_widthWithout 11 = .ok (.iload_n 3, 1) := by decide +kernel
theorem dX8_widthWithout_12 : decode cX8_widthWithout 12 = .ok (.invokevirtual 88, 3) := by decide +kernel
theorem dX8_widthWithout_15 : decode cX8_widthWithout 15 = .ok (.ifCond .eq 7, 3) := by decide +kernel
theorem dX8_widthWithout_18 : decode cX8_widthWithout 18 = .ok (.iconst 1, 1) := by decide +kernel
theorem dX8_widthWithout_19 : decode cX8_widthWithout 19 = .ok (.goto 4, 3) := by decide +kernel
theorem dX8_widthWithout_22 : decode cX8_widthWithout 22 = .ok (.iconst 0, 1) := by decide +kernel
theorem dX8_widthWithout_23 : decode cX8_widthWithout 23 = .ok (.invokevirtual 215, 3) := by decide +kernel
theorem dX8_widthWithout_26 : decode cX8_widthWithout 26 = .ok (.ifCond .eq 13, 3) := by decide +kernel
theorem dX8_widthWithout_29 : decode cX8_widthWithout 29 = .ok (.aload_n 0, 1) := by decide +kernel
theorem dX8_widthWithout_30 : decode cX8_widthWithout 30 = .ok (.iload_n 1, 1) := by decide +kernel
theorem dX8_widthWithout_31 : decode cX8_widthWithout 31 = .ok (.iload_n 2, 1) := by decide +kernel
theorem dX8_widthWithout_32 : decode cX8_widthWithout 32 = .ok (.iload_n 3, 1) := by decide +kernel
theorem dX8_widthWithout_33 : decode cX8_widthWithout 33 = .ok (.invokevirtual 446, 3) := by decide +kernel
theorem dX8_widthWithout_36 : decode cX8_widthWithout 36 = .ok (.goto 4, 3) := by decide +kernel
theorem dX8_widthWithout_39 : decode cX8_widthWithout 39 = .ok (.iconst 0, 1) := by decide +kernel
theorem dX8_widthWithout_40 : decode cX8_widthWithout 40 = .ok (.ireturn, 1) := by decide +kernel
theorem dX8_mostUseful_0 : decode cX8_mostUseful 0 = .ok (.aload_n 0, 1) := by decide +kernel
theorem dX8_mostUseful_1 : decode cX8_mostUseful 1 = .ok (.aload_n 0, 1) := by decide +kernel
theorem dX8_mostUseful_2 : decode cX8_mostUseful 2 = .ok (.iload_n 1, 1) := by decide +kernel
theorem dX8_mostUseful_3 : decode cX8_mostUseful 3 = .ok (.invokevirtual 88, 3) := by decide +kernel
theorem dX8_mostUseful_6 : decode cX8_mostUseful 6 = .ok (.invokevirtual 215, 3) := by decide +kernel
theorem dX8_mostUseful_9 : decode cX8_mostUseful 9 = .ok (.ifCond .ne 5, 3) := by decide +kernel
theorem dX8_mostUseful_12 : decode cX8_mostUseful 12 = .ok (.iconst 0, 1) := by decide +kernel
theorem dX8_mostUseful_13 : decode cX8_mostUseful 13 = .ok (.ireturn, 1) := by decide +kernel
theorem dX8_mostUseful_14 : decode cX8_mostUseful 14 = .ok (.iconst (-1), 1) := by decide +kernel
theorem dX8_mostUseful_15 : decode cX8_mostUseful 15 = .ok (.istore_n 2, 1) := by decide +kernel
theorem dX8_mostUseful_16 : decode cX8_mostUseful 16 = .ok (.iconst (-1), 1) := by decide +kernel
theorem dX8_mostUseful_17 : decode cX8_mostUseful 17 = .ok (.istore_n 3, 1) := by decide +kernel
theorem dX8_mostUseful_18 : decode cX8_mostUseful 18 = .ok (.iconst 0, 1) := by decide +kernel
theorem dX8_mostUseful_19 : decode cX8_mostUseful 19 = .ok (.istore 4, 2) := by decide +kernel
theorem dX8_mostUseful_21 : decode cX8_mostUseful 21 = .ok (.iload 4, 2) := by decide +kernel
theorem dX8_mostUseful_23 : decode cX8_mostUseful 23 = .ok (.aload_n 0, 1) := by decide +kernel
theorem dX8_mostUseful_24 : decode cX8_mostUseful 24 = .ok (.invokevirtual 66, 3) := by decide +kernel
theorem dX8_mostUseful_27 : decode cX8_mostUseful 27 = .ok (.if_icmp .ge 72, 3) := by decide +kernel
theorem dX8_mostUseful_30 : decode cX8_mostUseful 30 = .ok (.aload_n 0, 1) := by decide +kernel
theorem dX8_mostUseful_31 : decode cX8_mostUseful 31 = .ok (.iload_n 1, 1) := by decide +kernel
theorem dX8_mostUseful_32 : decode cX8_mostUseful 32 = .ok (.iload 4, 2) := by decide +kernel
theorem dX8_mostUseful_34 : decode cX8_mostUseful 34 = .ok (.invokevirtual 131, 3) := by decide +kernel
theorem dX8_mostUseful_37 : decode cX8_mostUseful 37 = .ok (.ifCond .ne 6, 3) := by decide +kernel
theorem dX8_mostUseful_40 : decode cX8_mostUseful 40 = .ok (.goto 53, 3) := by decide +kernel
theorem dX8_mostUseful_43 : decode cX8_mostUseful 43 = .ok (.iconst 0, 1) := by decide +kernel
theorem dX8_mostUseful_44 : decode cX8_mostUseful 44 = .ok (.istore 5, 2) := by decide +kernel
theorem dX8_mostUseful_46 : decode cX8_mostUseful 46 = .ok (.iconst 0, 1) := by decide +kernel
theorem dX8_mostUseful_47 : decode cX8_mostUseful 47 = .ok (.istore 6, 2) := by decide +kernel
theorem dX8_mostUseful_49 : decode cX8_mostUseful 49 = .ok (.iload 6, 2) := by decide +kernel
theorem dX8_mostUseful_51 : decode cX8_mostUseful 51 = .ok (.aload_n 0, 1) := by decide +kernel
theorem dX8_mostUseful_52 : decode cX8_mostUseful 52 = .ok (.invokevirtual 74, 3) := by decide +kernel
theorem dX8_mostUseful_55 : decode cX8_mostUseful 55 = .ok (.if_icmp .ge 23, 3) := by decide +kernel
theorem dX8_mostUseful_58 : decode cX8_mostUseful 58 = .ok (.iload 5, 2) := by decide +kernel
theorem dX8_mostUseful_60 : decode cX8_mostUseful 60 = .ok (.aload_n 0, 1) := by decide +kernel
theorem dX8_mostUseful_61 : decode cX8_mostUseful 61 = .ok (.iload_n 1, 1) := by decide +kernel
theorem dX8_mostUseful_62 : decode cX8_mostUseful 62 = .ok (.iload 6, 2) := by decide +kernel
theorem dX8_mostUseful_64 : decode cX8_mostUseful 64 = .ok (.iload 4, 2) := by decide +kernel
theorem dX8_mostUseful_66 : decode cX8_mostUseful 66 = .ok (.invokevirtual 446, 3) := by decide +kernel
theorem dX8_mostUseful_69 : decode cX8_mostUseful 69 = .ok (.iadd, 1) := by decide +kernel
theorem dX8_mostUseful_70 : decode cX8_mostUseful 70 = .ok (.istore 5, 2) := by decide +kernel
theorem dX8_mostUseful_72 : decode cX8_mostUseful 72 = .ok (.iinc 6 1, 3) := by decide +kernel
theorem dX8_mostUseful_75 : decode cX8_mostUseful 75 = .ok (.goto (-26), 3) := by decide +kernel
theorem dX8_mostUseful_78 : decode cX8_mostUseful 78 = .ok (.iload 5, 2) := by decide +kernel
theorem dX8_mostUseful_80 : decode cX8_mostUseful 80 = .ok (.iload_n 3, 1) := by decide +kernel
theorem dX8_mostUseful_81 : decode cX8_mostUseful 81 = .ok (.if_icmp .gt 6, 3) := by decide +kernel
theorem dX8_mostUseful_84 : decode cX8_mostUseful 84 = .ok (.goto 9, 3) := by decide +kernel
theorem dX8_mostUseful_87 : decode cX8_mostUseful 87 = .ok (.iload 4, 2) := by decide +kernel
theorem dX8_mostUseful_89 : decode cX8_mostUseful 89 = .ok (.istore_n 2, 1) := by decide +kernel
theorem dX8_mostUseful_90 : decode cX8_mostUseful 90 = .ok (.iload 5, 2) := by decide +kernel
theorem dX8_mostUseful_92 : decode cX8_mostUseful 92 = .ok (.istore_n 3, 1) := by decide +kernel
theorem dX8_mostUseful_93 : decode cX8_mostUseful 93 = .ok (.iinc 4 1, 3) := by decide +kernel
theorem dX8_mostUseful_96 : decode cX8_mostUseful 96 = .ok (.goto (-75), 3) := by decide +kernel
theorem dX8_mostUseful_99 : decode cX8_mostUseful 99 = .ok (.iload_n 2, 1) := by decide +kernel
theorem dX8_mostUseful_100 : decode cX8_mostUseful 100 = .ok (.ireturn, 1) := by decide +kernel
theorem dX8_bestThen_0 : decode cX8_bestThen 0 = .ok (.aload_n 0, 1) := by decide +kernel
theorem dX8_bestThen_1 : decode cX8_bestThen 1 = .ok (.aload_n 0, 1) := by decide +kernel
theorem dX8_bestThen_2 : decode cX8_bestThen 2 = .ok (.iload_n 1, 1) := by decide +kernel
theorem dX8_bestThen_3 : decode cX8_bestThen 3 = .ok (.invokevirtual 88, 3) := by decide +kernel
theorem dX8_bestThen_6 : decode cX8_bestThen 6 = .ok (.invokevirtual 215, 3) := by decide +kernel
theorem dX8_bestThen_9 : decode cX8_bestThen 9 = .ok (.ifCond .ne 5, 3) := by decide +kernel
theorem dX8_bestThen_12 : decode cX8_bestThen 12 = .ok (.iconst 0, 1) := by decide +kernel
theorem dX8_bestThen_13 : decode cX8_bestThen 13 = .ok (.ireturn, 1) := by decide +kernel
theorem dX8_bestThen_14 : decode cX8_bestThen 14 = .ok (.aload_n 0, 1) := by decide +kernel
theorem dX8_bestThen_15 : decode cX8_bestThen 15 = .ok (.invokevirtual 427, 3) := by decide +kernel
theorem dX8_bestThen_18 : decode cX8_bestThen 18 = .ok (.aload_n 0, 1) := by decide +kernel
theorem dX8_bestThen_19 : decode cX8_bestThen 19 = .ok (.bipush 100, 2) := by decide +kernel
theorem dX8_bestThen_21 : decode cX8_bestThen 21 = .ok (.invokevirtual 424, 3) := by decide +kernel
theorem dX8_bestThen_24 : decode cX8_bestThen 24 = .ok (.istore_n 2, 1) := by decide +kernel
theorem dX8_bestThen_25 : decode cX8_bestThen 25 = .ok (.aload_n 0, 1) := by decide +kernel
theorem dX8_bestThen_26 : decode cX8_bestThen 26 = .ok (.aload_n 0, 1) := by decide +kernel
theorem dX8_bestThen_27 : decode cX8_bestThen 27 = .ok (.iload_n 1, 1) := by decide +kernel
theorem dX8_bestThen_28 : decode cX8_bestThen 28 = .ok (.iconst 0, 1) := by decide +kernel
theorem dX8_bestThen_29 : decode cX8_bestThen 29 = .ok (.invokevirtual 209, 3) := by decide +kernel
theorem dX8_bestThen_32 : decode cX8_bestThen 32 = .ok (.invokevirtual 433, 3) := by decide +kernel
theorem dX8_bestThen_35 : decode cX8_bestThen 35 = .ok (.ireturn, 1) := by decide +kernel
theorem dX8_probe_0 : decode cX8_probe 0 = .ok (.aload_n 0, 1) := by decide +kernel
theorem dX8_probe_1 : decode cX8_probe 1 = .ok (.aload_n 0, 1) := by decide +kernel
theorem dX8_probe_2 : decode cX8_probe 2 = .ok (.iload_n 1, 1) := by decide +kernel
theorem dX8_probe_3 : decode cX8_probe 3 = .ok (.iload_n 2, 1) := by decide +kernel
theorem dX8_probe_4 : decode cX8_probe 4 = .ok (.invokevirtual 381, 3) := by decide +kernel
theorem dX8_probe_7 : decode cX8_probe 7 = .ok (.iload_n 3, 1) := by decide +kernel
theorem dX8_probe_8 : decode cX8_probe 8 = .ok (.iload 4, 2) := by decide +kernel
theorem dX8_probe_10 : decode cX8_probe 10 = .ok (.invokestatic 438, 3) := by decide +kernel
theorem dX8_probe_13 : decode cX8_probe 13 = .ok (.invokevirtual 368, 3) := by decide +kernel
theorem dX8_probe_16 : decode cX8_probe 16 = .ok (.ifCond .ne 5, 3) := by decide +kernel
theorem dX8_probe_19 : decode cX8_probe 19 = .ok (.iconst 0, 1) := by decide +kernel
theorem dX8_probe_20 : decode cX8_probe 20 = .ok (.ireturn, 1) := by decide +kernel
theorem dX8_probe_21 : decode cX8_probe 21 = .ok (.aload_n 0, 1) := by decide +kernel
theorem dX8_probe_22 : decode cX8_probe 22 = .ok (.invokevirtual 344, 3) := by decide +kernel
theorem dX8_probe_25 : decode cX8_probe 25 = .ok (.aload_n 0, 1) := by decide +kernel
theorem dX8_probe_26 : decode cX8_probe 26 = .ok (.iload_n 1, 1) := by decide +kernel
theorem dX8_probe_27 : decode cX8_probe 27 = .ok (.iload_n 2, 1) := by decide +kernel
theorem dX8_probe_28 : decode cX8_probe 28 = .ok (.iload_n 3, 1) := by decide +kernel
theorem dX8_probe_29 : decode cX8_probe 29 = .ok (.iload 4, 2) := by decide +kernel
theorem dX8_probe_31 : decode cX8_probe 31 = .ok (.invokevirtual 322, 3) := by decide +kernel
theorem dX8_probe_34 : decode cX8_probe 34 = .ok (.ireturn, 1) := by decide +kernel
theorem dX8_spreads_0 : decode cX8_spreads 0 = .ok (.iconst 0, 1) := by decide +kernel
theorem dX8_spreads_1 : decode cX8_spreads 1 = .ok (.istore 5, 2) := by decide +kernel
theorem dX8_spreads_3 : decode cX8_spreads 3 = .ok (.iconst 0, 1) := by decide +kernel
theorem dX8_spreads_4 : decode cX8_spreads 4 = .ok (.istore 6, 2) := by decide +kernel
theorem dX8_spreads_6 : decode cX8_spreads 6 = .ok (.iload 6, 2) := by decide +kernel
theorem dX8_spreads_8 : decode cX8_spreads 8 = .ok (.aload_n 0, 1) := by decide +kernel
theorem dX8_spreads_9 : decode cX8_spreads 9 = .ok (.invokevirtual 66, 3) := by decide +kernel
theorem dX8_spreads_12 : decode cX8_spreads 12 = .ok (.if_icmp .ge 53, 3) := by decide +kernel
theorem dX8_spreads_15 : decode cX8_spreads 15 = .ok (.aload_n 0, 1) := by decide +kernel
theorem dX8_spreads_16 : decode cX8_spreads 16 = .ok (.iload_n 1, 1) := by decide +kernel
theorem dX8_spreads_17 : decode cX8_spreads 17 = .ok (.iload 6, 2) := by decide +kernel
theorem dX8_spreads_19 : decode cX8_spreads 19 = .ok (.invokevirtual 131, 3) := by decide +kernel
theorem dX8_spreads_22 : decode cX8_spreads 22 = .ok (.ifCond .eq 37, 3) := by decide +kernel
theorem dX8_spreads_25 : decode cX8_spreads 25 = .ok (.iload 6, 2) := by decide +kernel
theorem dX8_spreads_27 : decode cX8_spreads 27 = .ok (.iload_n 3, 1) := by decide +kernel
theorem dX8_spreads_28 : decode cX8_spreads 28 = .ok (.if_icmp .eq 31, 3) := by decide +kernel
theorem dX8_spreads_31 : decode cX8_spreads 31 = .ok (.iload 6, 2) := by decide +kernel
theorem dX8_spreads_33 : decode cX8_spreads 33 = .ok (.iload 4, 2) := by decide +kernel
theorem dX8_spreads_35 : decode cX8_spreads 35 = .ok (.if_icmp .eq 24, 3) := by decide +kernel
theorem dX8_spreads_38 : decode cX8_spreads 38 = .ok (.iload 5, 2) := by decide +kernel
theorem dX8_spreads_40 : decode cX8_spreads 40 = .ok (.aload_n 0, 1) := by decide +kernel
theorem dX8_spreads_41 : decode cX8_spreads 41 = .ok (.iload_n 1, 1) := by decide +kernel
theorem dX8_spreads_42 : decode cX8_spreads 42 = .ok (.iload_n 2, 1) := by decide +kernel
theorem dX8_spreads_43 : decode cX8_spreads 43 = .ok (.iload 6, 2) := by decide +kernel
theorem dX8_spreads_45 : decode cX8_spreads 45 = .ok (.invokevirtual 449, 3) := by decide +kernel
theorem dX8_spreads_48 : decode cX8_spreads 48 = .ok (.ifCond .eq 7, 3) := by decide +kernel
theorem dX8_spreads_51 : decode cX8_spreads 51 = .ok (.iconst 1, 1) := by decide +kernel
theorem dX8_spreads_52 : decode cX8_spreads 52 = .ok (.goto 4, 3) := by decide +kernel
theorem dX8_spreads_55 : decode cX8_spreads 55 = .ok (.iconst 0, 1) := by decide +kernel
theorem dX8_spreads_56 : decode cX8_spreads 56 = .ok (.iadd, 1) := by decide +kernel
theorem dX8_spreads_57 : decode cX8_spreads 57 = .ok (.istore 5, 2) := by decide +kernel
theorem dX8_spreads_59 : decode cX8_spreads 59 = .ok (.iinc 6 1, 3) := by decide +kernel
theorem dX8_spreads_62 : decode cX8_spreads 62 = .ok (.goto (-56), 3) := by decide +kernel
theorem dX8_spreads_65 : decode cX8_spreads 65 = .ok (.iload 5, 2) := by decide +kernel
theorem dX8_spreads_67 : decode cX8_spreads 67 = .ok (.ireturn, 1) := by decide +kernel
theorem dX8_share_0 : decode cX8_share 0 = .ok (.aload_n 0, 1) := by decide +kernel
theorem dX8_share_1 : decode cX8_share 1 = .ok (.aload_n 0, 1) := by decide +kernel
theorem dX8_share_2 : decode cX8_share 2 = .ok (.iload_n 1, 1) := by decide +kernel
theorem dX8_share_3 : decode cX8_share 3 = .ok (.invokevirtual 88, 3) := by decide +kernel
theorem dX8_share_6 : decode cX8_share 6 = .ok (.invokevirtual 215, 3) := by decide +kernel
theorem dX8_share_9 : decode cX8_share 9 = .ok (.ifCond .ne 5, 3) := by decide +kernel
theorem dX8_share_12 : decode cX8_share 12 = .ok (.iconst 0, 1) := by decide +kernel
theorem dX8_share_13 : decode cX8_share 13 = .ok (.ireturn, 1) := by decide +kernel
theorem dX8_share_14 : decode cX8_share 14 = .ok (.aload_n 0, 1) := by decide +kernel
theorem dX8_share_15 : decode cX8_share 15 = .ok (.invokevirtual 344, 3) := by decide +kernel
theorem dX8_share_18 : decode cX8_share 18 = .ok (.iconst 0, 1) := by decide +kernel
theorem dX8_share_19 : decode cX8_share 19 = .ok (.istore_n 2, 1) := by decide +kernel
theorem dX8_share_20 : decode cX8_share 20 = .ok (.iconst 0, 1) := by decide +kernel
theorem dX8_share_21 : decode cX8_share 21 = .ok (.istore_n 3, 1) := by decide +kernel
theorem dX8_share_22 : decode cX8_share 22 = .ok (.iload_n 3, 1) := by decide +kernel
theorem dX8_share_23 : decode cX8_share 23 = .ok (.aload_n 0, 1) := by decide +kernel
theorem dX8_share_24 : decode cX8_share 24 = .ok (.iload_n 1, 1) := by decide +kernel
theorem dX8_share_25 : decode cX8_share 25 = .ok (.invokevirtual 92, 3) := by decide +kernel
theorem dX8_share_28 : decode cX8_share 28 = .ok (.if_icmp .ge 33, 3) := by decide +kernel
theorem dX8_share_31 : decode cX8_share 31 = .ok (.iload_n 2, 1) := by decide +kernel
theorem dX8_share_32 : decode cX8_share 32 = .ok (.aload_n 0, 1) := by decide +kernel
theorem dX8_share_33 : decode cX8_share 33 = .ok (.iload_n 1, 1) := by decide +kernel
theorem dX8_share_34 : decode cX8_share 34 = .ok (.iload_n 3, 1) := by decide +kernel
theorem dX8_share_35 : decode cX8_share 35 = .ok (.invokevirtual 179, 3) := by decide +kernel
theorem dX8_share_38 : decode cX8_share 38 = .ok (.ifCond .eq 14, 3) := by decide +kernel
theorem dX8_share_41 : decode cX8_share 41 = .ok (.aload_n 0, 1) := by decide +kernel
theorem dX8_share_42 : decode cX8_share 42 = .ok (.iload_n 1, 1) := by decide +kernel
theorem dX8_share_43 : decode cX8_share 43 = .ok (.iload_n 3, 1) := by decide +kernel
theorem dX8_share_44 : decode cX8_share 44 = .ok (.iconst (-1), 1) := by decide +kernel
theorem dX8_share_45 : decode cX8_share 45 = .ok (.iconst (-1), 1) := by decide +kernel
theorem dX8_share_46 : decode cX8_share 46 = .ok (.invokevirtual 452, 3) := by decide +kernel
theorem dX8_share_49 : decode cX8_share 49 = .ok (.goto 4, 3) := by decide +kernel
theorem dX8_share_52 : decode cX8_share 52 = .ok (.iconst 0, 1) := by decide +kernel
theorem dX8_share_53 : decode cX8_share 53 = .ok (.iadd, 1) := by decide +kernel
theorem dX8_share_54 : decode cX8_share 54 = .ok (.istore_n 2, 1) := by decide +kernel
theorem dX8_share_55 : decode cX8_share 55 = .ok (.iinc 3 1, 3) := by decide +kernel
theorem dX8_share_58 : decode cX8_share 58 = .ok (.goto (-36), 3) := by decide +kernel
theorem dX8_share_61 : decode cX8_share 61 = .ok (.iload_n 2, 1) := by decide +kernel
theorem dX8_share_62 : decode cX8_share 62 = .ok (.ireturn, 1) := by decide +kernel
theorem dX8_doRelay_0 : decode cX8_doRelay 0 = .ok (.iconst 0, 1) := by decide +kernel
theorem dX8_doRelay_1 : decode cX8_doRelay 1 = .ok (.istore_n 2, 1) := by decide +kernel
theorem dX8_doRelay_2 : decode cX8_doRelay 2 = .ok (.iconst 0, 1) := by decide +kernel
theorem dX8_doRelay_3 : decode cX8_doRelay 3 = .ok (.istore_n 3, 1) := by decide +kernel
theorem dX8_doRelay_4 : decode cX8_doRelay 4 = .ok (.iload_n 3, 1) := by decide +kernel
theorem dX8_doRelay_5 : decode cX8_doRelay 5 = .ok (.aload_n 0, 1) := by decide +kernel
theorem dX8_doRelay_6 : decode cX8_doRelay 6 = .ok (.iload_n 1, 1) := by decide +kernel
theorem dX8_doRelay_7 : decode cX8_doRelay 7 = .ok (.invokevirtual 92, 3) := by decide +kernel
theorem dX8_doRelay_10 : decode cX8_doRelay 10 = .ok (.if_icmp .ge 51, 3) := by decide +kernel
theorem dX8_doRelay_13 : decode cX8_doRelay 13 = .ok (.iload_n 2, 1) := by decide +kernel
theorem dX8_doRelay_14 : decode cX8_doRelay 14 = .ok (.aload_n 0, 1) := by decide +kernel
theorem dX8_doRelay_15 : decode cX8_doRelay 15 = .ok (.iload_n 1, 1) := by decide +kernel
theorem dX8_doRelay_16 : decode cX8_doRelay 16 = .ok (.iload_n 3, 1) := by decide +kernel
theorem dX8_doRelay_17 : decode cX8_doRelay 17 = .ok (.iconst 2, 1) := by decide +kernel
theorem dX8_doRelay_18 : decode cX8_doRelay 18 = .ok (.invokevirtual 95, 3) := by decide +kernel
theorem dX8_doRelay_21 : decode cX8_doRelay 21 = .ok (.aload_n 0, 1) := by decide +kernel
theorem dX8_doRelay_22 : decode cX8_doRelay 22 = .ok (.iconst 4, 1) := by decide +kernel
theorem dX8_doRelay_23 : decode cX8_doRelay 23 = .ok (.invokevirtual 110, 3) := by decide +kernel
theorem dX8_doRelay_26 : decode cX8_doRelay 26 = .ok (.if_icmp .ge 26, 3) := by decide +kernel
theorem dX8_doRelay_29 : decode cX8_doRelay 29 = .ok (.aload_n 0, 1) := by decide +kernel
theorem dX8_doRelay_30 : decode cX8_doRelay 30 = .ok (.iload_n 1, 1) := by decide +kernel
theorem dX8_doRelay_31 : decode cX8_doRelay 31 = .ok (.iload_n 3, 1) := by decide +kernel
theorem dX8_doRelay_32 : decode cX8_doRelay 32 = .ok (.aload_n 0, 1) := by decide +kernel
theorem dX8_doRelay_33 : decode cX8_doRelay 33 = .ok (.iload_n 1, 1) := by decide +kernel
theorem dX8_doRelay_34 : decode cX8_doRelay 34 = .ok (.iload_n 3, 1) := by decide +kernel
theorem dX8_doRelay_35 : decode cX8_doRelay 35 = .ok (.iconst 0, 1) := by decide +kernel
theorem dX8_doRelay_36 : decode cX8_doRelay 36 = .ok (.invokevirtual 95, 3) := by decide +kernel
theorem dX8_doRelay_39 : decode cX8_doRelay 39 = .ok (.aload_n 0, 1) := by decide +kernel
theorem dX8_doRelay_40 : decode cX8_doRelay 40 = .ok (.iload_n 1, 1) := by decide +kernel
theorem dX8_doRelay_41 : decode cX8_doRelay 41 = .ok (.iload_n 3, 1) := by decide +kernel
theorem dX8_doRelay_42 : decode cX8_doRelay 42 = .ok (.iconst 1, 1) := by decide +kernel
theorem dX8_doRelay_43 : decode cX8_doRelay 43 = .ok (.invokevirtual 95, 3) := by decide +kernel
theorem dX8_doRelay_46 : decode cX8_doRelay 46 = .ok (.invokevirtual 452, 3) := by decide +kernel
theorem dX8_doRelay_49 : decode cX8_doRelay 49 = .ok (.goto 4, 3) := by decide +kernel
theorem dX8_doRelay_52 : decode cX8_doRelay 52 = .ok (.iconst 0, 1) := by decide +kernel
theorem dX8_doRelay_53 : decode cX8_doRelay 53 = .ok (.iadd, 1) := by decide +kernel
theorem dX8_doRelay_54 : decode cX8_doRelay 54 = .ok (.istore_n 2, 1) := by decide +kernel
theorem dX8_doRelay_55 : decode cX8_doRelay 55 = .ok (.iinc 3 1, 3) := by decide +kernel
theorem dX8_doRelay_58 : decode cX8_doRelay 58 = .ok (.goto (-54), 3) := by decide +kernel
theorem dX8_doRelay_61 : decode cX8_doRelay 61 = .ok (.iload_n 2, 1) := by decide +kernel
theorem dX8_doRelay_62 : decode cX8_doRelay 62 = .ok (.ireturn, 1) := by decide +kernel
theorem dX8_relay_0 : decode cX8_relay 0 = .ok (.aload_n 0, 1) := by decide +kernel
theorem dX8_relay_1 : decode cX8_relay 1 = .ok (.aload_n 0, 1) := by decide +kernel
theorem dX8_relay_2 : decode cX8_relay 2 = .ok (.iload_n 1, 1) := by decide +kernel
theorem dX8_relay_3 : decode cX8_relay 3 = .ok (.invokevirtual 88, 3) := by decide +kernel
theorem dX8_relay_6 : decode cX8_relay 6 = .ok (.invokevirtual 215, 3) := by decide +kernel
theorem dX8_relay_9 : decode cX8_relay 9 = .ok (.ifCond .ne 5, 3) := by decide +kernel
theorem dX8_relay_12 : decode cX8_relay 12 = .ok (.iconst 0, 1) := by decide +kernel
theorem dX8_relay_13 : decode cX8_relay 13 = .ok (.ireturn, 1) := by decide +kernel
theorem dX8_relay_14 : decode cX8_relay 14 = .ok (.aload_n 0, 1) := by decide +kernel
theorem dX8_relay_15 : decode cX8_relay 15 = .ok (.invokevirtual 344, 3) := by decide +kernel
theorem dX8_relay_18 : decode cX8_relay 18 = .ok (.aload_n 0, 1) := by decide +kernel
theorem dX8_relay_19 : decode cX8_relay 19 = .ok (.iload_n 1, 1) := by decide +kernel
theorem dX8_relay_20 : decode cX8_relay 20 = .ok (.invokevirtual 421, 3) := by decide +kernel
theorem dX8_relay_23 : decode cX8_relay 23 = .ok (.ireturn, 1) := by decide +kernel
theorem dX8_deliver_0 : decode cX8_deliver 0 = .ok (.aload_n 0, 1) := by decide +kernel
theorem dX8_deliver_1 : decode cX8_deliver 1 = .ok (.iload_n 1, 1) := by decide +kernel
theorem dX8_deliver_2 : decode cX8_deliver 2 = .ok (.i2l, 1) := by decide +kernel
theorem dX8_deliver_3 : decode cX8_deliver 3 = .ok (.lconst 1, 1) := by decide +kernel
theorem dX8_deliver_4 : decode cX8_deliver 4 = .ok (.ldc2_w 455, 3) := by decide +kernel
theorem dX8_deliver_7 : decode cX8_deliver 7 = .ok (.invokestatic 70, 3) := by decide +kernel
theorem dX8_deliver_10 : decode cX8_deliver 10 = .ok (.invokevirtual 215, 3) := by decide +kernel
theorem dX8_deliver_13 : decode cX8_deliver 13 = .ok (.ifCond .ne 5, 3) := by decide +kernel
theorem dX8_deliver_16 : decode cX8_deliver 16 = .ok (.iconst 0, 1) := by decide +kernel
theorem dX8_deliver_17 : decode cX8_deliver 17 = .ok (.ireturn, 1) := by decide +kernel
theorem dX8_deliver_18 : decode cX8_deliver 18 = .ok (.aload_n 0, 1) := by decide +kernel
theorem dX8_deliver_19 : decode cX8_deliver 19 = .ok (.invokevirtual 344, 3) := by decide +kernel
theorem dX8_deliver_22 : decode cX8_deliver 22 = .ok (.aload_n 0, 1) := by decide +kernel
theorem dX8_deliver_23 : decode cX8_deliver 23 = .ok (.iload_n 1, 1) := by decide +kernel
theorem dX8_deliver_24 : decode cX8_deliver 24 = .ok (.invokevirtual 424, 3) := by decide +kernel
theorem dX8_deliver_27 : decode cX8_deliver 27 = .ok (.ireturn, 1) := by decide +kernel
theorem dX8_lose_0 : decode cX8_lose 0 = .ok (.aload_n 0, 1) := by decide +kernel
theorem dX8_lose_1 : decode cX8_lose 1 = .ok (.aload_n 0, 1) := by decide +kernel
theorem dX8_lose_2 : decode cX8_lose 2 = .ok (.invokevirtual 160, 3) := by decide +kernel
theorem dX8_lose_5 : decode cX8_lose 5 = .ok (.ifCond .le 7, 3) := by decide +kernel
theorem dX8_lose_8 : decode cX8_lose 8 = .ok (.iconst 1, 1) := by decide +kernel
theorem dX8_lose_9 : decode cX8_lose 9 = .ok (.goto 4, 3) := by decide +kernel
theorem dX8_lose_12 : decode cX8_lose 12 = .ok (.iconst 0, 1) := by decide +kernel
theorem dX8_lose_13 : decode cX8_lose 13 = .ok (.invokevirtual 215, 3) := by decide +kernel
theorem dX8_lose_16 : decode cX8_lose 16 = .ok (.ifCond .ne 5, 3) := by decide +kernel
theorem dX8_lose_19 : decode cX8_lose 19 = .ok (.iconst 0, 1) := by decide +kernel
theorem dX8_lose_20 : decode cX8_lose 20 = .ok (.ireturn, 1) := by decide +kernel
theorem dX8_lose_21 : decode cX8_lose 21 = .ok (.aload_n 0, 1) := by decide +kernel
theorem dX8_lose_22 : decode cX8_lose 22 = .ok (.invokevirtual 344, 3) := by decide +kernel
theorem dX8_lose_25 : decode cX8_lose 25 = .ok (.aload_n 0, 1) := by decide +kernel
theorem dX8_lose_26 : decode cX8_lose 26 = .ok (.invokevirtual 172, 3) := by decide +kernel
theorem dX8_lose_29 : decode cX8_lose 29 = .ok (.aload_n 0, 1) := by decide +kernel
theorem dX8_lose_30 : decode cX8_lose 30 = .ok (.invokevirtual 160, 3) := by decide +kernel
theorem dX8_lose_33 : decode cX8_lose 33 = .ok (.ireturn, 1) := by decide +kernel
theorem dX8_pass_0 : decode cX8_pass 0 = .ok (.aload_n 0, 1) := by decide +kernel
theorem dX8_pass_1 : decode cX8_pass 1 = .ok (.iload_n 1, 1) := by decide +kernel
theorem dX8_pass_2 : decode cX8_pass 2 = .ok (.i2l, 1) := by decide +kernel
theorem dX8_pass_3 : decode cX8_pass 3 = .ok (.lconst 1, 1) := by decide +kernel
theorem dX8_pass_4 : decode cX8_pass 4 = .ok (.ldc2_w 441, 3) := by decide +kernel
theorem dX8_pass_7 : decode cX8_pass 7 = .ok (.invokestatic 70, 3) := by decide +kernel
theorem dX8_pass_10 : decode cX8_pass 10 = .ok (.invokevirtual 215, 3) := by decide +kernel
theorem dX8_pass_13 : decode cX8_pass 13 = .ok (.ifCond .ne 5, 3) := by decide +kernel
theorem dX8_pass_16 : decode cX8_pass 16 = .ok (.iconst 0, 1) := by decide +kernel
theorem dX8_pass_17 : decode cX8_pass 17 = .ok (.ireturn, 1) := by decide +kernel
theorem dX8_pass_18 : decode cX8_pass 18 = .ok (.aload_n 0, 1) := by decide +kernel
theorem dX8_pass_19 : decode cX8_pass 19 = .ok (.invokevirtual 344, 3) := by decide +kernel
theorem dX8_pass_22 : decode cX8_pass 22 = .ok (.aload_n 0, 1) := by decide +kernel
theorem dX8_pass_23 : decode cX8_pass 23 = .ok (.iload_n 1, 1) := by decide +kernel
theorem dX8_pass_24 : decode cX8_pass 24 = .ok (.invokevirtual 443, 3) := by decide +kernel
theorem dX8_pass_27 : decode cX8_pass 27 = .ok (.ireturn, 1) := by decide +kernel
theorem dX8_link_0 : decode cX8_link 0 = .ok (.aload_n 0, 1) := by decide +kernel
theorem dX8_link_1 : decode cX8_link 1 = .ok (.aload_n 0, 1) := by decide +kernel
theorem dX8_link_2 : decode cX8_link 2 = .ok (.iload_n 1, 1) := by decide +kernel
theorem dX8_link_3 : decode cX8_link 3 = .ok (.iload_n 2, 1) := by decide +kernel
theorem dX8_link_4 : decode cX8_link 4 = .ok (.invokevirtual 363, 3) := by decide +kernel
theorem dX8_link_7 : decode cX8_link 7 = .ok (.iload_n 1, 1) := by decide +kernel
theorem dX8_link_8 : decode cX8_link 8 = .ok (.iload_n 2, 1) := by decide +kernel
theorem dX8_link_9 : decode cX8_link 9 = .ok (.if_icmp .eq 7, 3) := by decide +kernel
theorem dX8_link_12 : decode cX8_link 12 = .ok (.iconst 1, 1) := by decide +kernel
theorem dX8_link_13 : decode cX8_link 13 = .ok (.goto 4, 3) := by decide +kernel
theorem dX8_link_16 : decode cX8_link 16 = .ok (.iconst 0, 1) := by decide +kernel
theorem dX8_link_17 : decode cX8_link 17 = .ok (.invokevirtual 368, 3) := by decide +kernel
theorem dX8_link_20 : decode cX8_link 20 = .ok (.ifCond .ne 5, 3) := by decide +kernel
theorem dX8_link_23 : decode cX8_link 23 = .ok (.iconst 0, 1) := by decide +kernel
theorem dX8_link_24 : decode cX8_link 24 = .ok (.ireturn, 1) := by decide +kernel
theorem dX8_link_25 : decode cX8_link 25 = .ok (.aload_n 0, 1) := by decide +kernel
theorem dX8_link_26 : decode cX8_link 26 = .ok (.invokevirtual 344, 3) := by decide +kernel
theorem dX8_link_29 : decode cX8_link 29 = .ok (.aload_n 0, 1) := by decide +kernel
theorem dX8_link_30 : decode cX8_link 30 = .ok (.iload_n 1, 1) := by decide +kernel
theorem dX8_link_31 : decode cX8_link 31 = .ok (.iload_n 2, 1) := by decide +kernel
theorem dX8_link_32 : decode cX8_link 32 = .ok (.invokevirtual 131, 3) := by decide +kernel
theorem dX8_link_35 : decode cX8_link 35 = .ok (.istore 4, 2) := by decide +kernel
theorem dX8_link_37 : decode cX8_link 37 = .ok (.iload_n 3, 1) := by decide +kernel
theorem dX8_link_38 : decode cX8_link 38 = .ok (.iload 4, 2) := by decide +kernel
theorem dX8_link_40 : decode cX8_link 40 = .ok (.if_icmp .eq 33, 3) := by decide +kernel
theorem dX8_link_43 : decode cX8_link 43 = .ok (.aload_n 0, 1) := by decide +kernel
theorem dX8_link_44 : decode cX8_link 44 = .ok (.iload_n 1, 1) := by decide +kernel
theorem dX8_link_45 : decode cX8_link 45 = .ok (.iload_n 2, 1) := by decide +kernel
theorem dX8_link_46 : decode cX8_link 46 = .ok (.iload_n 3, 1) := by decide +kernel
theorem dX8_link_47 : decode cX8_link 47 = .ok (.ifCond .eq 7, 3) := by decide +kernel
theorem dX8_link_50 : decode cX8_link 50 = .ok (.iconst 5, 1) := by decide +kernel
theorem dX8_link_51 : decode cX8_link 51 = .ok (.goto 4, 3) := by decide +kernel
theorem dX8_link_54 : decode cX8_link 54 = .ok (.iconst (-1), 1) := by decide +kernel
theorem dX8_link_55 : decode cX8_link 55 = .ok (.invokevirtual 139, 3) := by decide +kernel
theorem dX8_link_58 : decode cX8_link 58 = .ok (.aload_n 0, 1) := by decide +kernel
theorem dX8_link_59 : decode cX8_link 59 = .ok (.iload_n 2, 1) := by decide +kernel
theorem dX8_link_60 : decode cX8_link 60 = .ok (.iload_n 1, 1) := by decide +kernel
theorem dX8_link_61 : decode cX8_link 61 = .ok (.iload_n 3, 1) := by decide +kernel
theorem dX8_link_62 : decode cX8_link 62 = .ok (.ifCond .eq 7, 3) := by decide +kernel
theorem dX8_link_65 : decode cX8_link 65 = .ok (.iconst 5, 1) := by decide +kernel
theorem dX8_link_66 : decode cX8_link 66 = .ok (.goto 4, 3) := by decide +kernel
theorem dX8_link_69 : decode cX8_link 69 = .ok (.iconst (-1), 1) := by decide +kernel
theorem dX8_link_70 : decode cX8_link 70 = .ok (.invokevirtual 139, 3) := by decide +kernel
theorem dX8_link_73 : decode cX8_link 73 = .ok (.iload 4, 2) := by decide +kernel
theorem dX8_link_75 : decode cX8_link 75 = .ok (.ireturn, 1) := by decide +kernel
theorem dX8_setTrust_0 : decode cX8_setTrust 0 = .ok (.aload_n 0, 1) := by decide +kernel
theorem dX8_setTrust_1 : decode cX8_setTrust 1 = .ok (.iload_n 1, 1) := by decide +kernel
theorem dX8_setTrust_2 : decode cX8_setTrust 2 = .ok (.iload_n 2, 1) := by decide +kernel
theorem dX8_setTrust_3 : decode cX8_setTrust 3 = .ok (.invokevirtual 363, 3) := by decide +kernel
theorem dX8_setTrust_6 : decode cX8_setTrust 6 = .ok (.istore 4, 2) := by decide +kernel
theorem dX8_setTrust_8 : decode cX8_setTrust 8 = .ok (.aload_n 0, 1) := by decide +kernel
theorem dX8_setTrust_9 : decode cX8_setTrust 9 = .ok (.iload 4, 2) := by decide +kernel
theorem dX8_setTrust_11 : decode cX8_setTrust 11 = .ok (.iload_n 3, 1) := by decide +kernel
theorem dX8_setTrust_12 : decode cX8_setTrust 12 = .ok (.i2l, 1) := by decide +kernel
theorem dX8_setTrust_13 : decode cX8_setTrust 13 = .ok (.lconst 0, 1) := by decide +kernel
theorem dX8_setTrust_14 : decode cX8_setTrust 14 = .ok (.ldc2_w 457, 3) := by decide +kernel
theorem dX8_setTrust_17 : decode cX8_setTrust 17 = .ok (.invokestatic 70, 3) := by decide +kernel
theorem dX8_setTrust_20 : decode cX8_setTrust 20 = .ok (.iload 4, 2) := by decide +kernel
theorem dX8_setTrust_22 : decode cX8_setTrust 22 = .ok (.ifCond .eq 16, 3) := by decide +kernel
theorem dX8_setTrust_25 : decode cX8_setTrust 25 = .ok (.aload_n 0, 1) := by decide +kernel
theorem dX8_setTrust_26 : decode cX8_setTrust 26 = .ok (.iload_n 1, 1) := by decide +kernel
theorem dX8_setTrust_27 : decode cX8_setTrust 27 = .ok (.iload_n 2, 1) := by decide +kernel
theorem dX8_setTrust_28 : decode cX8_setTrust 28 = .ok (.invokevirtual 131, 3) := by decide +kernel
theorem dX8_setTrust_31 : decode cX8_setTrust 31 = .ok (.ifCond .eq 7, 3) := by decide +kernel
theorem dX8_setTrust_34 : decode cX8_setTrust 34 = .ok (.iconst 1, 1) := by decide +kernel
theorem dX8_setTrust_35 : decode cX8_setTrust 35 = .ok (.goto 4, 3) := by decide +kernel
theorem dX8_setTrust_38 : decode cX8_setTrust 38 = .ok (.iconst 0, 1) := by decide +kernel
theorem dX8_setTrust_39 : decode cX8_setTrust 39 = .ok (.invokevirtual 7, 3) := by decide +kernel
theorem dX8_setTrust_42 : decode cX8_setTrust 42 = .ok (.ifCond .ne 5, 3) := by decide +kernel
theorem dX8_setTrust_45 : decode cX8_setTrust 45 = .ok (.iconst 0, 1) := by decide +kernel
theorem dX8_setTrust_46 : decode cX8_setTrust 46 = .ok (.ireturn, 1) := by decide +kernel
theorem dX8_setTrust_47 : decode cX8_setTrust 47 = .ok (.aload_n 0, 1) := by decide +kernel
theorem dX8_setTrust_48 : decode cX8_setTrust 48 = .ok (.invokevirtual 344, 3) := by decide +kernel
theorem dX8_setTrust_51 : decode cX8_setTrust 51 = .ok (.aload_n 0, 1) := by decide +kernel
theorem dX8_setTrust_52 : decode cX8_setTrust 52 = .ok (.iload_n 1, 1) := by decide +kernel
theorem dX8_setTrust_53 : decode cX8_setTrust 53 = .ok (.iload_n 2, 1) := by decide +kernel
theorem dX8_setTrust_54 : decode cX8_setTrust 54 = .ok (.invokevirtual 77, 3) := by decide +kernel
theorem dX8_setTrust_57 : decode cX8_setTrust 57 = .ok (.istore 5, 2) := by decide +kernel
theorem dX8_setTrust_59 : decode cX8_setTrust 59 = .ok (.aload_n 0, 1) := by decide +kernel
theorem dX8_setTrust_60 : decode cX8_setTrust 60 = .ok (.iload_n 1, 1) := by decide +kernel
theorem dX8_setTrust_61 : decode cX8_setTrust 61 = .ok (.iload_n 2, 1) := by decide +kernel
theorem dX8_setTrust_62 : decode cX8_setTrust 62 = .ok (.iload_n 3, 1) := by decide +kernel
theorem dX8_setTrust_63 : decode cX8_setTrust 63 = .ok (.invokevirtual 139, 3) := by decide +kernel
theorem dX8_setTrust_66 : decode cX8_setTrust 66 = .ok (.iload 5, 2) := by decide +kernel
theorem dX8_setTrust_68 : decode cX8_setTrust 68 = .ok (.ireturn, 1) := by decide +kernel
theorem dX8_leastOf_0 : decode cX8_leastOf 0 = .ok (.iload_n 0, 1) := by decide +kernel
theorem dX8_leastOf_1 : decode cX8_leastOf 1 = .ok (.iconst 3, 1) := by decide +kernel
theorem dX8_leastOf_2 : decode cX8_leastOf 2 = .ok (.if_icmp .ge 7, 3) := by decide +kernel
theorem dX8_leastOf_5 : decode cX8_leastOf 5 = .ok (.iconst 0, 1) := by decide +kernel
theorem dX8_leastOf_6 : decode cX8_leastOf 6 = .ok (.goto 4, 3) := by decide +kernel
theorem dX8_leastOf_9 : decode cX8_leastOf 9 = .ok (.iconst 1, 1) := by decide +kernel
theorem dX8_leastOf_10 : decode cX8_leastOf 10 = .ok (.ireturn, 1) := by decide +kernel
theorem dX8_mostOf_0 : decode cX8_mostOf 0 = .ok (.iload_n 0, 1) := by decide +kernel
theorem dX8_mostOf_1 : decode cX8_mostOf 1 = .ok (.tableswitch 43 0 3 #[31, 34, 37, 40], 31) := by decide +kernel
theorem dX8_mostOf_32 : decode cX8_mostOf 32 = .ok (.bipush 20, 2) := by decide +kernel
theorem dX8_mostOf_34 : decode cX8_mostOf 34 = .ok (.ireturn, 1) := by decide +kernel
theorem dX8_mostOf_35 : decode cX8_mostOf 35 = .ok (.bipush 50, 2) := by decide +kernel
theorem dX8_mostOf_37 : decode cX8_mostOf 37 = .ok (.ireturn, 1) := by decide +kernel
theorem dX8_mostOf_38 : decode cX8_mostOf 38 = .ok (.bipush 10, 2) := by decide +kernel
theorem dX8_mostOf_40 : decode cX8_mostOf 40 = .ok (.ireturn, 1) := by decide +kernel
theorem dX8_mostOf_41 : decode cX8_mostOf 41 = .ok (.bipush 99, 2) := by decide +kernel
theorem dX8_mostOf_43 : decode cX8_mostOf 43 = .ok (.ireturn, 1) := by decide +kernel
theorem dX8_mostOf_44 : decode cX8_mostOf 44 = .ok (.iconst 3, 1) := by decide +kernel
theorem dX8_mostOf_45 : decode cX8_mostOf 45 = .ok (.ireturn, 1) := by decide +kernel
theorem dX8_setRule_0 : decode cX8_setRule 0 = .ok (.aload_n 0, 1) := by decide +kernel
theorem dX8_setRule_1 : decode cX8_setRule 1 = .ok (.iload_n 1, 1) := by decide +kernel
theorem dX8_setRule_2 : decode cX8_setRule 2 = .ok (.i2l, 1) := by decide +kernel
theorem dX8_setRule_3 : decode cX8_setRule 3 = .ok (.lconst 0, 1) := by decide +kernel
theorem dX8_setRule_4 : decode cX8_setRule 4 = .ok (.ldc2_w 366, 3) := by decide +kernel
theorem dX8_setRule_7 : decode cX8_setRule 7 = .ok (.invokestatic 70, 3) := by decide +kernel
theorem dX8_setRule_10 : decode cX8_setRule 10 = .ok (.ifCond .eq 25, 3) := by decide +kernel
theorem dX8_setRule_13 : decode cX8_setRule 13 = .ok (.iload_n 2, 1) := by decide +kernel
theorem dX8_setRule_14 : decode cX8_setRule 14 = .ok (.i2l, 1) := by decide +kernel
theorem dX8_setRule_15 : decode cX8_setRule 15 = .ok (.iload_n 1, 1) := by decide +kernel
theorem dX8_setRule_16 : decode cX8_setRule 16 = .ok (.invokestatic 459, 3) := by decide +kernel
theorem dX8_setRule_19 : decode cX8_setRule 19 = .ok (.i2l, 1) := by decide +kernel
theorem dX8_setRule_20 : decode cX8_setRule 20 = .ok (.iload_n 1, 1) := by decide +kernel
theorem dX8_setRule_21 : decode cX8_setRule 21 = .ok (.invokestatic 462, 3) := by decide +kernel
theorem dX8_setRule_24 : decode cX8_setRule 24 = .ok (.i2l, 1) := by decide +kernel
theorem dX8_setRule_25 : decode cX8_setRule 25 = .ok (.invokestatic 70, 3) := by decide +kernel
theorem dX8_setRule_28 : decode cX8_setRule 28 = .ok (.ifCond .eq 7, 3) := by decide +kernel
theorem dX8_setRule_31 : decode cX8_setRule 31 = .ok (.iconst 1, 1) := by decide +kernel
theorem dX8_setRule_32 : decode cX8_setRule 32 = .ok (.goto 4, 3) := by decide +kernel
theorem dX8_setRule_35 : decode cX8_setRule 35 = .ok (.iconst 0, 1) := by decide +kernel
theorem dX8_setRule_36 : decode cX8_setRule 36 = .ok (.invokevirtual 215, 3) := by decide +kernel
theorem dX8_setRule_39 : decode cX8_setRule 39 = .ok (.ifCond .ne 5, 3) := by decide +kernel
theorem dX8_setRule_42 : decode cX8_setRule 42 = .ok (.iconst 0, 1) := by decide +kernel
theorem dX8_setRule_43 : decode cX8_setRule 43 = .ok (.ireturn, 1) := by decide +kernel
theorem dX8_setRule_44 : decode cX8_setRule 44 = .ok (.aload_n 0, 1) := by decide +kernel
theorem dX8_setRule_45 : decode cX8_setRule 45 = .ok (.invokevirtual 344, 3) := by decide +kernel
theorem dX8_setRule_48 : decode cX8_setRule 48 = .ok (.aload_n 0, 1) := by decide +kernel
theorem dX8_setRule_49 : decode cX8_setRule 49 = .ok (.iload_n 1, 1) := by decide +kernel
theorem dX8_setRule_50 : decode cX8_setRule 50 = .ok (.invokevirtual 110, 3) := by decide +kernel
theorem dX8_setRule_53 : decode cX8_setRule 53 = .ok (.istore_n 3, 1) := by decide +kernel
theorem dX8_setRule_54 : decode cX8_setRule 54 = .ok (.aload_n 0, 1) := by decide +kernel
theorem dX8_setRule_55 : decode cX8_setRule 55 = .ok (.getfield 17, 3) := by decide +kernel
theorem dX8_setRule_58 : decode cX8_setRule 58 = .ok (.iconst 3, 1) := by decide +kernel
theorem dX8_setRule_59 : decode cX8_setRule 59 = .ok (.iload_n 1, 1) := by decide +kernel
theorem dX8_setRule_60 : decode cX8_setRule 60 = .ok (.iadd, 1) := by decide +kernel
theorem dX8_setRule_61 : decode cX8_setRule 61 = .ok (.iload_n 2, 1) := by decide +kernel
theorem dX8_setRule_62 : decode cX8_setRule 62 = .ok (.iastore, 1) := by decide +kernel
theorem dX8_setRule_63 : decode cX8_setRule 63 = .ok (.iload_n 3, 1) := by decide +kernel
theorem dX8_setRule_64 : decode cX8_setRule 64 = .ok (.ireturn, 1) := by decide +kernel
theorem dX8_forget_0 : decode cX8_forget 0 = .ok (.aload_n 0, 1) := by decide +kernel
theorem dX8_forget_1 : decode cX8_forget 1 = .ok (.aload_n 0, 1) := by decide +kernel
theorem dX8_forget_2 : decode cX8_forget 2 = .ok (.iload_n 1, 1) := by decide +kernel
theorem dX8_forget_3 : decode cX8_forget 3 = .ok (.iload_n 2, 1) := by decide +kernel
theorem dX8_forget_4 : decode cX8_forget 4 = .ok (.invokevirtual 381, 3) := by decide +kernel
theorem dX8_forget_7 : decode cX8_forget 7 = .ok (.invokevirtual 215, 3) := by decide +kernel
theorem dX8_forget_10 : decode cX8_forget 10 = .ok (.ifCond .ne 5, 3) := by decide +kernel
theorem dX8_forget_13 : decode cX8_forget 13 = .ok (.iconst 0, 1) := by decide +kernel
theorem dX8_forget_14 : decode cX8_forget 14 = .ok (.ireturn, 1) := by decide +kernel
theorem dX8_forget_15 : decode cX8_forget 15 = .ok (.aload_n 0, 1) := by decide +kernel
theorem dX8_forget_16 : decode cX8_forget 16 = .ok (.invokevirtual 344, 3) := by decide +kernel
theorem dX8_forget_19 : decode cX8_forget 19 = .ok (.iconst 0, 1) := by decide +kernel
theorem dX8_forget_20 : decode cX8_forget 20 = .ok (.istore_n 3, 1) := by decide +kernel
theorem dX8_forget_21 : decode cX8_forget 21 = .ok (.iconst 0, 1) := by decide +kernel
theorem dX8_forget_22 : decode cX8_forget 22 = .ok (.istore 4, 2) := by decide +kernel
theorem dX8_forget_24 : decode cX8_forget 24 = .ok (.iload 4, 2) := by decide +kernel
theorem dX8_forget_26 : decode cX8_forget 26 = .ok (.aload_n 0, 1) := by decide +kernel
theorem dX8_forget_27 : decode cX8_forget 27 = .ok (.iload_n 1, 1) := by decide +kernel
theorem dX8_forget_28 : decode cX8_forget 28 = .ok (.invokevirtual 92, 3) := by decide +kernel
theorem dX8_forget_31 : decode cX8_forget 31 = .ok (.if_icmp .ge 56, 3) := by decide +kernel
theorem dX8_forget_34 : decode cX8_forget 34 = .ok (.aload_n 0, 1) := by decide +kernel
theorem dX8_forget_35 : decode cX8_forget 35 = .ok (.iload_n 1, 1) := by decide +kernel
theorem dX8_forget_36 : decode cX8_forget 36 = .ok (.iload 4, 2) := by decide +kernel
theorem dX8_forget_38 : decode cX8_forget 38 = .ok (.iconst 3, 1) := by decide +kernel
theorem dX8_forget_39 : decode cX8_forget 39 = .ok (.invokevirtual 95, 3) := by decide +kernel
theorem dX8_forget_42 : decode cX8_forget 42 = .ok (.iload_n 2, 1) := by decide +kernel
theorem dX8_forget_43 : decode cX8_forget 43 = .ok (.if_icmp .ne 7, 3) := by decide +kernel
theorem dX8_forget_46 : decode cX8_forget 46 = .ok (.iconst 1, 1) := by decide +kernel
theorem dX8_forget_47 : decode cX8_forget 47 = .ok (.goto 4, 3) := by decide +kernel
theorem dX8_forget_50 : decode cX8_forget 50 = .ok (.iconst 0, 1) := by decide +kernel
theorem dX8_forget_51 : decode cX8_forget 51 = .ok (.istore 5, 2) := by decide +kernel
theorem dX8_forget_53 : decode cX8_forget 53 = .ok (.iload 5, 2) := by decide +kernel
theorem dX8_forget_55 : decode cX8_forget 55 = .ok (.ifCond .eq 13, 3) := by decide +kernel
theorem dX8_forget_58 : decode cX8_forget 58 = .ok (.aload_n 0, 1) := by decide +kernel
theorem dX8_forget_59 : decode cX8_forget 59 = .ok (.iload_n 1, 1) := by decide +kernel
theorem dX8_forget_60 : decode cX8_forget 60 = .ok (.iload 4, 2) := by decide +kernel
theorem dX8_forget_62 : decode cX8_forget 62 = .ok (.invokevirtual 147, 3) := by decide +kernel
theorem dX8_forget_65 : decode cX8_forget 65 = .ok (.goto 6, 3) := by decide +kernel
theorem dX8_forget_68 : decode cX8_forget 68 = .ok (.iinc 4 1, 3) := by decide +kernel
theorem dX8_forget_71 : decode cX8_forget 71 = .ok (.iload_n 3, 1) := by decide +kernel
theorem dX8_forget_72 : decode cX8_forget 72 = .ok (.iload 5, 2) := by decide +kernel
theorem dX8_forget_74 : decode cX8_forget 74 = .ok (.ifCond .eq 7, 3) := by decide +kernel
theorem dX8_forget_77 : decode cX8_forget 77 = .ok (.iconst 1, 1) := by decide +kernel
theorem dX8_forget_78 : decode cX8_forget 78 = .ok (.goto 4, 3) := by decide +kernel
theorem dX8_forget_81 : decode cX8_forget 81 = .ok (.iconst 0, 1) := by decide +kernel
theorem dX8_forget_82 : decode cX8_forget 82 = .ok (.iadd, 1) := by decide +kernel
theorem dX8_forget_83 : decode cX8_forget 83 = .ok (.istore_n 3, 1) := by decide +kernel
theorem dX8_forget_84 : decode cX8_forget 84 = .ok (.goto (-60), 3) := by decide +kernel
theorem dX8_forget_87 : decode cX8_forget 87 = .ok (.iload_n 3, 1) := by decide +kernel
theorem dX8_forget_88 : decode cX8_forget 88 = .ok (.ireturn, 1) := by decide +kernel
theorem dX8_isSlot_0 : decode cX8_isSlot 0 = .ok (.iload_n 0, 1) := by decide +kernel
theorem dX8_isSlot_1 : decode cX8_isSlot 1 = .ok (.i2l, 1) := by decide +kernel
theorem dX8_isSlot_2 : decode cX8_isSlot 2 = .ok (.lconst 0, 1) := by decide +kernel
theorem dX8_isSlot_3 : decode cX8_isSlot 3 = .ok (.lconst 1, 1) := by decide +kernel
theorem dX8_isSlot_4 : decode cX8_isSlot 4 = .ok (.invokestatic 70, 3) := by decide +kernel
theorem dX8_isSlot_7 : decode cX8_isSlot 7 = .ok (.ireturn, 1) := by decide +kernel
theorem dX8_keep_0 : decode cX8_keep 0 = .ok (.aload_n 0, 1) := by decide +kernel
theorem dX8_keep_1 : decode cX8_keep 1 = .ok (.iload_n 1, 1) := by decide +kernel
theorem dX8_keep_2 : decode cX8_keep 2 = .ok (.invokestatic 465, 3) := by decide +kernel
theorem dX8_keep_5 : decode cX8_keep 5 = .ok (.invokevirtual 215, 3) := by decide +kernel
theorem dX8_keep_8 : decode cX8_keep 8 = .ok (.ifCond .ne 5, 3) := by decide +kernel
theorem dX8_keep_11 : decode cX8_keep 11 = .ok (.iconst 0, 1) := by decide +kernel
theorem dX8_keep_12 : decode cX8_keep 12 = .ok (.ireturn, 1) := by decide +kernel
theorem dX8_keep_13 : decode cX8_keep 13 = .ok (.iconst 0, 1) := by decide +kernel
theorem dX8_keep_14 : decode cX8_keep 14 = .ok (.istore_n 2, 1) := by decide +kernel
theorem dX8_keep_15 : decode cX8_keep 15 = .ok (.iload_n 2, 1) := by decide +kernel
theorem dX8_keep_16 : decode cX8_keep 16 = .ok (.sipush 2405, 3) := by decide +kernel
theorem dX8_keep_19 : decode cX8_keep 19 = .ok (.if_icmp .ge 27, 3) := by decide +kernel
theorem dX8_keep_22 : decode cX8_keep 22 = .ok (.aload_n 0, 1) := by decide +kernel
theorem dX8_keep_23 : decode cX8_keep 23 = .ok (.getfield 50, 3) := by decide +kernel
theorem dX8_keep_26 : decode cX8_keep 26 = .ok (.sipush 2405, 3) := by decide +kernel
theorem dX8_keep_29 : decode cX8_keep 29 = .ok (.iload_n 1, 1) := by decide +kernel
theorem dX8_keep_30 : decode cX8_keep 30 = .ok (.imul, 1) := by decide +kernel
theorem dX8_keep_31 : decode cX8_keep 31 = .ok (.iload_n 2, 1) := by decide +kernel
theorem dX8_keep_32 : decode cX8_keep 32 = .ok (.iadd, 1) := by decide +kernel
theorem dX8_keep_33 : decode cX8_keep 33 = .ok (.aload_n 0, 1) := by decide +kernel
theorem dX8_keep_34 : decode cX8_keep 34 = .ok (.getfield 17, 3) := by decide +kernel
theorem dX8_keep_37 : decode cX8_keep 37 = .ok (.iload_n 2, 1) := by decide +kernel
theorem dX8_keep_38 : decode cX8_keep 38 = .ok (.iaload, 1) := by decide +kernel
theorem dX8_keep_39 : decode cX8_keep 39 = .ok (.iastore, 1) := by decide +kernel
theorem dX8_keep_40 : decode cX8_keep 40 = .ok (.iinc 2 1, 3) := by decide +kernel
theorem dX8_keep_43 : decode cX8_keep 43 = .ok (.goto (-28), 3) := by decide +kernel
theorem dX8_keep_46 : decode cX8_keep 46 = .ok (.aload_n 0, 1) := by decide +kernel
theorem dX8_keep_47 : decode cX8_keep 47 = .ok (.getfield 53, 3) := by decide +kernel
theorem dX8_keep_50 : decode cX8_keep 50 = .ok (.iload_n 1, 1) := by decide +kernel
theorem dX8_keep_51 : decode cX8_keep 51 = .ok (.iconst 1, 1) := by decide +kernel
theorem dX8_keep_52 : decode cX8_keep 52 = .ok (.bastore, 1) := by decide +kernel
theorem dX8_keep_53 : decode cX8_keep 53 = .ok (.aload_n 0, 1) := by decide +kernel
theorem dX8_keep_54 : decode cX8_keep 54 = .ok (.getfield 17, 3) := by decide +kernel
theorem dX8_keep_57 : decode cX8_keep 57 = .ok (.iconst 2, 1) := by decide +kernel
theorem dX8_keep_58 : decode cX8_keep 58 = .ok (.iaload, 1) := by decide +kernel
theorem dX8_keep_59 : decode cX8_keep 59 = .ok (.ireturn, 1) := by decide +kernel
theorem dX8_restore_0 : decode cX8_restore 0 = .ok (.aload_n 0, 1) := by decide +kernel
theorem dX8_restore_1 : decode cX8_restore 1 = .ok (.iload_n 1, 1) := by decide +kernel
theorem dX8_restore_2 : decode cX8_restore 2 = .ok (.invokestatic 465, 3) := by decide +kernel
theorem dX8_restore_5 : decode cX8_restore 5 = .ok (.iload_n 1, 1) := by decide +kernel
theorem dX8_restore_6 : decode cX8_restore 6 = .ok (.invokestatic 465, 3) := by decide +kernel
theorem dX8_restore_9 : decode cX8_restore 9 = .ok (.ifCond .eq 12, 3) := by decide +kernel
theorem dX8_restore_12 : decode cX8_restore 12 = .ok (.aload_n 0, 1) := by decide +kernel
theorem dX8_restore_13 : decode cX8_restore 13 = .ok (.getfield 53, 3) := by decide +kernel
theorem dX8_restore_16 : decode cX8_restore 16 = .ok (.iload_n 1, 1) := by decide +kernel
theorem dX8_restore_17 : decode cX8_restore 17 = .ok (.baload, 1) := by decide +kernel
theorem dX8_restore_18 : decode cX8_restore 18 = .ok (.ifCond .eq 7, 3) := by decide +kernel
theorem dX8_restore_21 : decode cX8_restore 21 = .ok (.iconst 1, 1) := by decide +kernel
theorem dX8_restore_22 : decode cX8_restore 22 = .ok (.goto 4, 3) := by decide +kernel
theorem dX8_restore_25 : decode cX8_restore 25 = .ok (.iconst 0, 1) := by decide +kernel
theorem dX8_restore_26 : decode cX8_restore 26 = .ok (.invokevirtual 368, 3) := by decide +kernel
theorem dX8_restore_29 : decode cX8_restore 29 = .ok (.ifCond .ne 5, 3) := by decide +kernel
theorem dX8_restore_32 : decode cX8_restore 32 = .ok (.iconst 0, 1) := by decide +kernel
theorem dX8_restore_33 : decode cX8_restore 33 = .ok (.ireturn, 1) := by decide +kernel
theorem dX8_restore_34 : decode cX8_restore 34 = .ok (.aload_n 0, 1) := by decide +kernel
theorem dX8_restore_35 : decode cX8_restore 35 = .ok (.invokevirtual 344, 3) := by decide +kernel
theorem dX8_restore_38 : decode cX8_restore 38 = .ok (.iconst 0, 1) := by decide +kernel
theorem dX8_restore_39 : decode cX8_restore 39 = .ok (.istore_n 2, 1) := by decide +kernel
theorem dX8_restore_40 : decode cX8_restore 40 = .ok (.iload_n 2, 1) := by decide +kernel
theorem dX8_restore_41 : decode cX8_restore 41 = .ok (.sipush 2405, 3) := by decide +kernel
theorem dX8_restore_44 : decode cX8_restore 44 = .ok (.if_icmp .ge 27, 3) := by decide +kernel
theorem dX8_restore_47 : decode cX8_restore 47 = .ok (.aload_n 0, 1) := by decide +kernel
theorem dX8_restore_48 : decode cX8_restore 48 = .ok (.getfield 17, 3) := by decide +kernel
theorem dX8_restore_51 : decode cX8_restore 51 = .ok (.iload_n 2, 1) := by decide +kernel
theorem dX8_restore_52 : decode cX8_restore 52 = .ok (.aload_n 0, 1) := by decide +kernel
theorem dX8_restore_53 : decode cX8_restore 53 = .ok (.getfield 50, 3) := by decide +kernel
theorem dX8_restore_56 : decode cX8_restore 56 = .ok (.sipush 2405, 3) := by decide +kernel
theorem dX8_restore_59 : decode cX8_restore 59 = .ok (.iload_n 1, 1) := by decide +kernel
theorem dX8_restore_60 : decode cX8_restore 60 = .ok (.imul, 1) := by decide +kernel
theorem dX8_restore_61 : decode cX8_restore 61 = .ok (.iload_n 2, 1) := by decide +kernel
theorem dX8_restore_62 : decode cX8_restore 62 = .ok (.iadd, 1) := by decide +kernel
theorem dX8_restore_63 : decode cX8_restore 63 = .ok (.iaload, 1) := by decide +kernel
theorem dX8_restore_64 : decode cX8_restore 64 = .ok (.iastore, 1) := by decide +kernel
theorem dX8_restore_65 : decode cX8_restore 65 = .ok (.iinc 2 1, 3) := by decide +kernel
theorem dX8_restore_68 : decode cX8_restore 68 = .ok (.goto (-28), 3) := by decide +kernel
theorem dX8_restore_71 : decode cX8_restore 71 = .ok (.aload_n 0, 1) := by decide +kernel
theorem dX8_restore_72 : decode cX8_restore 72 = .ok (.getfield 17, 3) := by decide +kernel
theorem dX8_restore_75 : decode cX8_restore 75 = .ok (.iconst 2, 1) := by decide +kernel
theorem dX8_restore_76 : decode cX8_restore 76 = .ok (.iaload, 1) := by decide +kernel
theorem dX8_restore_77 : decode cX8_restore 77 = .ok (.ireturn, 1) := by decide +kernel
theorem dX8_remember_0 : decode cX8_remember 0 = .ok (.aload_n 0, 1) := by decide +kernel
theorem dX8_remember_1 : decode cX8_remember 1 = .ok (.getfield 468, 3) := by decide +kernel
theorem dX8_remember_4 : decode cX8_remember 4 = .ok (.bipush 6, 2) := by decide +kernel
theorem dX8_remember_6 : decode cX8_remember 6 = .ok (.if_icmp .ne 46, 3) := by decide +kernel
theorem dX8_remember_9 : decode cX8_remember 9 = .ok (.sipush 2405, 3) := by decide +kernel
theorem dX8_remember_12 : decode cX8_remember 12 = .ok (.istore_n 1, 1) := by decide +kernel
theorem dX8_remember_13 : decode cX8_remember 13 = .ok (.iload_n 1, 1) := by decide +kernel
theorem dX8_remember_14 : decode cX8_remember 14 = .ok (.sipush 14430, 3) := by decide +kernel
theorem dX8_remember_17 : decode cX8_remember 17 = .ok (.if_icmp .ge 25, 3) := by decide +kernel
theorem dX8_remember_20 : decode cX8_remember 20 = .ok (.aload_n 0, 1) := by decide +kernel
theorem dX8_remember_21 : decode cX8_remember 21 = .ok (.getfield 56, 3) := by decide +kernel
theorem dX8_remember_24 : decode cX8_remember 24 = .ok (.iload_n 1, 1) := by decide +kernel
theorem dX8_remember_25 : decode cX8_remember 25 = .ok (.sipush 2405, 3) := by decide +kernel
theorem dX8_remember_28 : decode cX8_remember 28 = .ok (.isub, 1) := by decide +kernel
theorem dX8_remember_29 : decode cX8_remember 29 = .ok (.aload_n 0, 1) := by decide +kernel
theorem dX8_remember_30 : decode cX8_remember 30 = .ok (.getfield 56, 3) := by decide +kernel
theorem dX8_remember_33 : decode cX8_remember 33 = .ok (.iload_n 1, 1) := by decide +kernel
theorem dX8_remember_34 : decode cX8_remember 34 = .ok (.iaload, 1) := by decide +kernel
theorem dX8_remember_35 : decode cX8_remember 35 = .ok (.iastore, 1) := by decide +kernel
theorem dX8_remember_36 : decode cX8_remember 36 = .ok (.iinc 1 1, 3) := by decide +kernel
theorem dX8_remember_39 : decode cX8_remember 39 = .ok (.goto (-26), 3) := by decide +kernel
theorem dX8_remember_42 : decode cX8_remember 42 = .ok (.aload_n 0, 1) := by decide +kernel
theorem dX8_remember_43 : decode cX8_remember 43 = .ok (.dup, 1) := by decide +kernel
theorem dX8_remember_44 : decode cX8_remember 44 = .ok (.getfield 468, 3) := by decide +kernel
theorem dX8_remember_47 : decode cX8_remember 47 = .ok (.iconst 1, 1) := by decide +kernel
theorem dX8_remember_48 : decode cX8_remember 48 = .ok (.isub, 1) := by decide +kernel
theorem dX8_remember_49 : decode cX8_remember 49 = .ok (.putfield 468, 3) := by decide +kernel
theorem dX8_remember_52 : decode cX8_remember 52 = .ok (.iconst 0, 1) := by decide +kernel
theorem dX8_remember_53 : decode cX8_remember 53 = .ok (.istore_n 1, 1) := by decide +kernel
theorem dX8_remember_54 : decode cX8_remember 54 = .ok (.iload_n 1, 1) := by decide +kernel
theorem dX8_remember_55 : decode cX8_remember 55 = .ok (.sipush 2405, 3) := by decide +kernel
theorem dX8_remember_58 : decode cX8_remember 58 = .ok (.if_icmp .ge 30, 3) := by decide +kernel
theorem dX8_remember_61 : decode cX8_remember 61 = .ok (.aload_n 0, 1) := by decide +kernel
theorem dX8_remember_62 : decode cX8_remember 62 = .ok (.getfield 56, 3) := by decide +kernel
theorem dX8_remember_65 : decode cX8_remember 65 = .ok (.sipush 2405, 3) := by decide +kernel
theorem dX8_remember_68 : decode cX8_remember 68 = .ok (.aload_n 0, 1) := by decide +kernel
theorem dX8_remember_69 : decode cX8_remember 69 = .ok (.getfield 468, 3) := by decide +kernel
theorem dX8_remember_72 : decode cX8_remember 72 = .ok (.imul, 1) := by decide +kernel
theorem dX8_remember_73 : decode cX8_remember 73 = .ok (.iload_n 1, 1) := by decide +kernel
theorem dX8_remember_74 : decode cX8_remember 74 = .ok (.iadd, 1) := by decide +kernel
theorem dX8_remember_75 : decode cX8_remember 75 = .ok (.aload_n 0, 1) := by decide +kernel
theorem dX8_remember_76 : decode cX8_remember 76 = .ok (.getfield 17, 3) := by decide +kernel
theorem dX8_remember_79 : decode cX8_remember 79 = .ok (.iload_n 1, 1) := by decide +kernel
theorem dX8_remember_80 : decode cX8_remember 80 = .ok (.iaload, 1) := by decide +kernel
theorem dX8_remember_81 : decode cX8_remember 81 = .ok (.iastore, 1) := by decide +kernel
theorem dX8_remember_82 : decode cX8_remember 82 = .ok (.iinc 1 1, 3) := by decide +kernel
theorem dX8_remember_85 : decode cX8_remember 85 = .ok (.goto (-31), 3) := by decide +kernel
theorem dX8_remember_88 : decode cX8_remember 88 = .ok (.aload_n 0, 1) := by decide +kernel
theorem dX8_remember_89 : decode cX8_remember 89 = .ok (.dup, 1) := by decide +kernel
theorem dX8_remember_90 : decode cX8_remember 90 = .ok (.getfield 468, 3) := by decide +kernel
theorem dX8_remember_93 : decode cX8_remember 93 = .ok (.iconst 1, 1) := by decide +kernel
theorem dX8_remember_94 : decode cX8_remember 94 = .ok (.iadd, 1) := by decide +kernel
theorem dX8_remember_95 : decode cX8_remember 95 = .ok (.putfield 468, 3) := by decide +kernel
theorem dX8_remember_98 : decode cX8_remember 98 = .ok (.return_, 1) := by decide +kernel
theorem dX8_undo_0 : decode cX8_undo 0 = .ok (.aload_n 0, 1) := by decide +kernel
theorem dX8_undo_1 : decode cX8_undo 1 = .ok (.aload_n 0, 1) := by decide +kernel
theorem dX8_undo_2 : decode cX8_undo 2 = .ok (.getfield 468, 3) := by decide +kernel
theorem dX8_undo_5 : decode cX8_undo 5 = .ok (.ifCond .le 7, 3) := by decide +kernel
theorem dX8_undo_8 : decode cX8_undo 8 = .ok (.iconst 1, 1) := by decide +kernel
theorem dX8_undo_9 : decode cX8_undo 9 = .ok (.goto 4, 3) := by decide +kernel
theorem dX8_undo_12 : decode cX8_undo 12 = .ok (.iconst 0, 1) := by decide +kernel
theorem dX8_undo_13 : decode cX8_undo 13 = .ok (.invokevirtual 215, 3) := by decide +kernel
theorem dX8_undo_16 : decode cX8_undo 16 = .ok (.ifCond .ne 5, 3) := by decide +kernel
theorem dX8_undo_19 : decode cX8_undo 19 = .ok (.iconst 0, 1) := by decide +kernel
theorem dX8_undo_20 : decode cX8_undo 20 = .ok (.ireturn, 1) := by decide +kernel
theorem dX8_undo_21 : decode cX8_undo 21 = .ok (.aload_n 0, 1) := by decide +kernel
theorem dX8_undo_22 : decode cX8_undo 22 = .ok (.dup, 1) := by decide +kernel
theorem dX8_undo_23 : decode cX8_undo 23 = .ok (.getfield 468, 3) := by decide +kernel
theorem dX8_undo_26 : decode cX8_undo 26 = .ok (.iconst 1, 1) := by decide +kernel
theorem dX8_undo_27 : decode cX8_undo 27 = .ok (.isub, 1) := by decide +kernel
theorem dX8_undo_28 : decode cX8_undo 28 = .ok (.putfield 468, 3) := by decide +kernel
theorem dX8_undo_31 : decode cX8_undo 31 = .ok (.iconst 0, 1) := by decide +kernel
theorem dX8_undo_32 : decode cX8_undo 32 = .ok (.istore_n 1, 1) := by decide +kernel
theorem dX8_undo_33 : decode cX8_undo 33 = .ok (.iload_n 1, 1) := by decide +kernel
theorem dX8_undo_34 : decode cX8_undo 34 = .ok (.sipush 2405, 3) := by decide +kernel
theorem dX8_undo_37 : decode cX8_undo 37 = .ok (.if_icmp .ge 30, 3) := by decide +kernel
theorem dX8_undo_40 : decode cX8_undo 40 = .ok (.aload_n 0, 1) := by decide +kernel
theorem dX8_undo_41 : decode cX8_undo 41 = .ok (.getfield 17, 3) := by decide +kernel
theorem dX8_undo_44 : decode cX8_undo 44 = .ok (.iload_n 1, 1) := by decide +kernel
theorem dX8_undo_45 : decode cX8_undo 45 = .ok (.aload_n 0, 1) := by decide +kernel
theorem dX8_undo_46 : decode cX8_undo 46 = .ok (.getfield 56, 3) := by decide +kernel
theorem dX8_undo_49 : decode cX8_undo 49 = .ok (.sipush 2405, 3) := by decide +kernel
theorem dX8_undo_52 : decode cX8_undo 52 = .ok (.aload_n 0, 1) := by decide +kernel
theorem dX8_undo_53 : decode cX8_undo 53 = .ok (.getfield 468, 3) := by decide +kernel
theorem dX8_undo_56 : decode cX8_undo 56 = .ok (.imul, 1) := by decide +kernel
theorem dX8_undo_57 : decode cX8_undo 57 = .ok (.iload_n 1, 1) := by decide +kernel
theorem dX8_undo_58 : decode cX8_undo 58 = .ok (.iadd, 1) := by decide +kernel
theorem dX8_undo_59 : decode cX8_undo 59 = .ok (.iaload, 1) := by decide +kernel
theorem dX8_undo_60 : decode cX8_undo 60 = .ok (.iastore, 1) := by decide +kernel
theorem dX8_undo_61 : decode cX8_undo 61 = .ok (.iinc 1 1, 3) := by decide +kernel
theorem dX8_undo_64 : decode cX8_undo 64 = .ok (.goto (-31), 3) := by decide +kernel
theorem dX8_undo_67 : decode cX8_undo 67 = .ok (.aload_n 0, 1) := by decide +kernel
theorem dX8_undo_68 : decode cX8_undo 68 = .ok (.getfield 468, 3) := by decide +kernel
theorem dX8_undo_71 : decode cX8_undo 71 = .ok (.ireturn, 1) := by decide +kernel
theorem dX8_undoCount_0 : decode cX8_undoCount 0 = .ok (.aload_n 0, 1) := by decide +kernel
theorem dX8_undoCount_1 : decode cX8_undoCount 1 = .ok (.iconst 0, 1) := by decide +kernel
theorem dX8_undoCount_2 : decode cX8_undoCount 2 = .ok (.putfield 3, 3) := by decide +kernel
theorem dX8_undoCount_5 : decode cX8_undoCount 5 = .ok (.aload_n 0, 1) := by decide +kernel
theorem dX8_undoCount_6 : decode cX8_undoCount 6 = .ok (.getfield 468, 3) := by decide +kernel
theorem dX8_undoCount_9 : decode cX8_undoCount 9 = .ok (.ireturn, 1) := by decide +kernel
theorem dX8_write_0 : decode cX8_write 0 = .ok (.aload_n 0, 1) := by decide +kernel
theorem dX8_write_1 : decode cX8_write 1 = .ok (.getfield 59, 3) := by decide +kernel
theorem dX8_write_4 : decode cX8_write 4 = .ok (.aload_n 0, 1) := by decide +kernel
theorem dX8_write_5 : decode cX8_write 5 = .ok (.getfield 471, 3) := by decide +kernel
theorem dX8_write_8 : decode cX8_write 8 = .ok (.iload_n 1, 1) := by decide +kernel
theorem dX8_write_9 : decode cX8_write 9 = .ok (.i2b, 1) := by decide +kernel
theorem dX8_write_10 : decode cX8_write 10 = .ok (.bastore, 1) := by decide +kernel
theorem dX8_write_11 : decode cX8_write 11 = .ok (.aload_n 0, 1) := by decide +kernel
theorem dX8_write_12 : decode cX8_write 12 = .ok (.dup, 1) := by decide +kernel
theorem dX8_write_13 : decode cX8_write 13 = .ok (.getfield 471, 3) := by decide +kernel
theorem dX8_write_16 : decode cX8_write 16 = .ok (.iconst 1, 1) := by decide +kernel
theorem dX8_write_17 : decode cX8_write 17 = .ok (.iadd, 1) := by decide +kernel
theorem dX8_write_18 : decode cX8_write 18 = .ok (.putfield 471, 3) := by decide +kernel
theorem dX8_write_21 : decode cX8_write 21 = .ok (.return_, 1) := by decide +kernel
theorem dX8_writeNumber_0 : decode cX8_writeNumber 0 = .ok (.iconst 1, 1) := by decide +kernel
theorem dX8_writeNumber_1 : decode cX8_writeNumber 1 = .ok (.istore_n 2, 1) := by decide +kernel
theorem dX8_writeNumber_2 : decode cX8_writeNumber 2 = .ok (.iload_n 1, 1) := by decide +kernel
theorem dX8_writeNumber_3 : decode cX8_writeNumber 3 = .ok (.iload_n 2, 1) := by decide +kernel
theorem dX8_writeNumber_4 : decode cX8_writeNumber 4 = .ok (.idiv, 1) := by decide +kernel
theorem dX8_writeNumber_5 : decode cX8_writeNumber 5 = .ok (.bipush 10, 2) := by decide +kernel
theorem dX8_writeNumber_7 : decode cX8_writeNumber 7 = .ok (.if_icmp .lt 11, 3) := by decide +kernel
theorem dX8_writeNumber_10 : decode cX8_writeNumber 10 = .ok (.iload_n 2, 1) := by decide +kernel
theorem dX8_writeNumber_11 : decode cX8_writeNumber 11 = .ok (.bipush 10, 2) := by decide +kernel
theorem dX8_writeNumber_13 : decode cX8_writeNumber 13 = .ok (.imul, 1) := by decide +kernel
theorem dX8_writeNumber_14 : decode cX8_writeNumber 14 = .ok (.istore_n 2, 1) := by decide +kernel
theorem dX8_writeNumber_15 : decode cX8_writeNumber 15 = .ok (.goto (-13), 3) := by decide +kernel
theorem dX8_writeNumber_18 : decode cX8_writeNumber 18 = .ok (.iload_n 2, 1) := by decide +kernel
theorem dX8_writeNumber_19 : decode cX8_writeNumber 19 = .ok (.istore_n 3, 1) := by decide +kernel
theorem dX8_writeNumber_20 : decode cX8_writeNumber 20 = .ok (.iload_n 3, 1) := by decide +kernel
theorem dX8_writeNumber_21 : decode cX8_writeNumber 21 = .ok (.ifCond .le 24, 3) := by decide +kernel
theorem dX8_writeNumber_24 : decode cX8_writeNumber 24 = .ok (.aload_n 0, 1) := by decide +kernel
theorem dX8_writeNumber_25 : decode cX8_writeNumber 25 = .ok (.bipush 48, 2) := by decide +kernel
theorem dX8_writeNumber_27 : decode cX8_writeNumber 27 = .ok (.iload_n 1, 1) := by decide +kernel
theorem dX8_writeNumber_28 : decode cX8_writeNumber 28 = .ok (.iload_n 3, 1) := by decide +kernel
theorem dX8_writeNumber_29 : decode cX8_writeNumber 29 = .ok (.idiv, 1) := by decide +kernel
theorem dX8_writeNumber_30 : decode cX8_writeNumber 30 = .ok (.bipush 10, 2) := by decide +kernel
theorem dX8_writeNumber_32 : decode cX8_writeNumber 32 = .ok (.irem, 1) := by decide +kernel
theorem dX8_writeNumber_33 : decode cX8_writeNumber 33 = .ok (.iadd, 1) := by decide +kernel
theorem dX8_writeNumber_34 : decode cX8_writeNumber 34 = .ok (.invokevirtual 474, 3) := by decide +kernel
theorem dX8_writeNumber_37 : decode cX8_writeNumber 37 = .ok (.iload_n 3, 1) := by decide +kernel
theorem dX8_writeNumber_38 : decode cX8_writeNumber 38 = .ok (.bipush 10, 2) := by decide +kernel
theorem dX8_writeNumber_40 : decode cX8_writeNumber 40 = .ok (.idiv, 1) := by decide +kernel
theorem dX8_writeNumber_41 : decode cX8_writeNumber 41 = .ok (.istore_n 3, 1) := by decide +kernel
theorem dX8_writeNumber_42 : decode cX8_writeNumber 42 = .ok (.goto (-22), 3) := by decide +kernel
theorem dX8_writeNumber_45 : decode cX8_writeNumber 45 = .ok (.return_, 1) := by decide +kernel
theorem dX8_writeName_0 : decode cX8_writeName 0 = .ok (.iconst 1, 1) := by decide +kernel
theorem dX8_writeName_1 : decode cX8_writeName 1 = .ok (.istore_n 2, 1) := by decide +kernel
theorem dX8_writeName_2 : decode cX8_writeName 2 = .ok (.iload_n 1, 1) := by decide +kernel
theorem dX8_writeName_3 : decode cX8_writeName 3 = .ok (.iload_n 2, 1) := by decide +kernel
theorem dX8_writeName_4 : decode cX8_writeName 4 = .ok (.idiv, 1) := by decide +kernel
theorem dX8_writeName_5 : decode cX8_writeName 5 = .ok (.bipush 27, 2) := by decide +kernel
theorem dX8_writeName_7 : decode cX8_writeName 7 = .ok (.if_icmp .lt 11, 3) := by decide +kernel
theorem dX8_writeName_10 : decode cX8_writeName 10 = .ok (.iload_n 2, 1) := by decide +kernel
theorem dX8_writeName_11 : decode cX8_writeName 11 = .ok (.bipush 27, 2) := by decide +kernel
theorem dX8_writeName_13 : decode cX8_writeName 13 = .ok (.imul, 1) := by decide +kernel
theorem dX8_writeName_14 : decode cX8_writeName 14 = .ok (.istore_n 2, 1) := by decide +kernel
theorem dX8_writeName_15 : decode cX8_writeName 15 = .ok (.goto (-13), 3) := by decide +kernel
theorem dX8_writeName_18 : decode cX8_writeName 18 = .ok (.iload_n 2, 1) := by decide +kernel
theorem dX8_writeName_19 : decode cX8_writeName 19 = .ok (.istore_n 3, 1) := by decide +kernel
theorem dX8_writeName_20 : decode cX8_writeName 20 = .ok (.iload_n 3, 1) := by decide +kernel
theorem dX8_writeName_21 : decode cX8_writeName 21 = .ok (.ifCond .le 24, 3) := by decide +kernel
theorem dX8_writeName_24 : decode cX8_writeName 24 = .ok (.aload_n 0, 1) := by decide +kernel
theorem dX8_writeName_25 : decode cX8_writeName 25 = .ok (.bipush 96, 2) := by decide +kernel
theorem dX8_writeName_27 : decode cX8_writeName 27 = .ok (.iload_n 1, 1) := by decide +kernel
theorem dX8_writeName_28 : decode cX8_writeName 28 = .ok (.iload_n 3, 1) := by decide +kernel
theorem dX8_writeName_29 : decode cX8_writeName 29 = .ok (.idiv, 1) := by decide +kernel
theorem dX8_writeName_30 : decode cX8_writeName 30 = .ok (.bipush 27, 2) := by decide +kernel
theorem dX8_writeName_32 : decode cX8_writeName 32 = .ok (.irem, 1) := by decide +kernel
theorem dX8_writeName_33 : decode cX8_writeName 33 = .ok (.iadd, 1) := by decide +kernel
theorem dX8_writeName_34 : decode cX8_writeName 34 = .ok (.invokevirtual 474, 3) := by decide +kernel
theorem dX8_writeName_37 : decode cX8_writeName 37 = .ok (.iload_n 3, 1) := by decide +kernel
theorem dX8_writeName_38 : decode cX8_writeName 38 = .ok (.bipush 27, 2) := by decide +kernel
theorem dX8_writeName_40 : decode cX8_writeName 40 = .ok (.idiv, 1) := by decide +kernel
theorem dX8_writeName_41 : decode cX8_writeName 41 = .ok (.istore_n 3, 1) := by decide +kernel
theorem dX8_writeName_42 : decode cX8_writeName 42 = .ok (.goto (-22), 3) := by decide +kernel
theorem dX8_writeName_45 : decode cX8_writeName 45 = .ok (.return_, 1) := by decide +kernel
theorem dX8_writeBeliefs_0 : decode cX8_writeBeliefs 0 = .ok (.aload_n 0, 1) := by decide +kernel
theorem dX8_writeBeliefs_1 : decode cX8_writeBeliefs 1 = .ok (.aload_n 0, 1) := by decide +kernel
theorem dX8_writeBeliefs_2 : decode cX8_writeBeliefs 2 = .ok (.iload_n 1, 1) := by decide +kernel
theorem dX8_writeBeliefs_3 : decode cX8_writeBeliefs 3 = .ok (.invokevirtual 88, 3) := by decide +kernel
theorem dX8_writeBeliefs_6 : decode cX8_writeBeliefs 6 = .ok (.invokevirtual 215, 3) := by decide +kernel
theorem dX8_writeBeliefs_9 : decode cX8_writeBeliefs 9 = .ok (.ifCond .ne 5, 3) := by decide +kernel
theorem dX8_writeBeliefs_12 : decode cX8_writeBeliefs 12 = .ok (.iconst 0, 1) := by decide +kernel
theorem dX8_writeBeliefs_13 : decode cX8_writeBeliefs 13 = .ok (.ireturn, 1) := by decide +kernel
theorem dX8_writeBeliefs_14 : decode cX8_writeBeliefs 14 = .ok (.aload_n 0, 1) := by decide +kernel
theorem dX8_writeBeliefs_15 : decode cX8_writeBeliefs 15 = .ok (.iconst 0, 1) := by decide +kernel
theorem dX8_writeBeliefs_16 : decode cX8_writeBeliefs 16 = .ok (.putfield 471, 3) := by decide +kernel
theorem dX8_writeBeliefs_19 : decode cX8_writeBeliefs 19 = .ok (.iconst 0, 1) := by decide +kernel
theorem dX8_writeBeliefs_20 : decode cX8_writeBeliefs 20 = .ok (.istore_n 2, 1) := by decide +kernel
theorem dX8_writeBeliefs_21 : decode cX8_writeBeliefs 21 = .ok (.iload_n 2, 1) := by decide +kernel
theorem dX8_writeBeliefs_22 : decode cX8_writeBeliefs 22 = .ok (.aload_n 0, 1) := by decide +kernel
theorem dX8_writeBeliefs_23 : decode cX8_writeBeliefs 23 = .ok (.invokevirtual 74, 3) := by decide +kernel
theorem dX8_writeBeliefs_26 : decode cX8_writeBeliefs 26 = .ok (.if_icmp .ge 66, 3) := by decide +kernel
theorem dX8_writeBeliefs_29 : decode cX8_writeBeliefs 29 = .ok (.iload_n 2, 1) := by decide +kernel
theorem dX8_writeBeliefs_30 : decode cX8_writeBeliefs 30 = .ok (.ifCond .le 9, 3) := by decide +kernel
theorem dX8_writeBeliefs_33 : decode cX8_writeBeliefs 33 = .ok (.aload_n 0, 1) := by decide +kernel
theorem dX8_writeBeliefs_34 : decode cX8_writeBeliefs 34 = .ok (.bipush 32, 2) := by decide +kernel
theorem dX8_writeBeliefs_36 : decode cX8_writeBeliefs 36 = .ok (.invokevirtual 474, 3) := by decide +kernel
theorem dX8_writeBeliefs_39 : decode cX8_writeBeliefs 39 = .ok (.aload_n 0, 1) := by decide +kernel
theorem dX8_writeBeliefs_40 : decode cX8_writeBeliefs 40 = .ok (.aload_n 0, 1) := by decide +kernel
theorem dX8_writeBeliefs_41 : decode cX8_writeBeliefs 41 = .ok (.getfield 17, 3) := by decide +kernel
theorem dX8_writeBeliefs_44 : decode cX8_writeBeliefs 44 = .ok (.bipush 15, 2) := by decide +kernel
theorem dX8_writeBeliefs_46 : decode cX8_writeBeliefs 46 = .ok (.iload_n 2, 1) := by decide +kernel
theorem dX8_writeBeliefs_47 : decode cX8_writeBeliefs 47 = .ok (.iadd, 1) := by decide +kernel
theorem dX8_writeBeliefs_48 : decode cX8_writeBeliefs 48 = .ok (.iaload, 1) := by decide +kernel
theorem dX8_writeBeliefs_49 : decode cX8_writeBeliefs 49 = .ok (.invokevirtual 477, 3) := by decide +kernel
theorem dX8_writeBeliefs_52 : decode cX8_writeBeliefs 52 = .ok (.aload_n 0, 1) := by decide +kernel
theorem dX8_writeBeliefs_53 : decode cX8_writeBeliefs 53 = .ok (.bipush 58, 2) := by decide +kernel
theorem dX8_writeBeliefs_55 : decode cX8_writeBeliefs 55 = .ok (.invokevirtual 474, 3) := by decide +kernel
theorem dX8_writeBeliefs_58 : decode cX8_writeBeliefs 58 = .ok (.aload_n 0, 1) := by decide +kernel
theorem dX8_writeBeliefs_59 : decode cX8_writeBeliefs 59 = .ok (.aload_n 0, 1) := by decide +kernel
theorem dX8_writeBeliefs_60 : decode cX8_writeBeliefs 60 = .ok (.iload_n 1, 1) := by decide +kernel
theorem dX8_writeBeliefs_61 : decode cX8_writeBeliefs 61 = .ok (.iload_n 2, 1) := by decide +kernel
theorem dX8_writeBeliefs_62 : decode cX8_writeBeliefs 62 = .ok (.iconst 0, 1) := by decide +kernel
theorem dX8_writeBeliefs_63 : decode cX8_writeBeliefs 63 = .ok (.invokevirtual 384, 3) := by decide +kernel
theorem dX8_writeBeliefs_66 : decode cX8_writeBeliefs 66 = .ok (.invokevirtual 480, 3) := by decide +kernel
theorem dX8_writeBeliefs_69 : decode cX8_writeBeliefs 69 = .ok (.aload_n 0, 1) := by decide +kernel
theorem dX8_writeBeliefs_70 : decode cX8_writeBeliefs 70 = .ok (.bipush 45, 2) := by decide +kernel
theorem dX8_writeBeliefs_72 : decode cX8_writeBeliefs 72 = .ok (.invokevirtual 474, 3) := by decide +kernel
theorem dX8_writeBeliefs_75 : decode cX8_writeBeliefs 75 = .ok (.aload_n 0, 1) := by decide +kernel
theorem dX8_writeBeliefs_76 : decode cX8_writeBeliefs 76 = .ok (.aload_n 0, 1) := by decide +kernel
theorem dX8_writeBeliefs_77 : decode cX8_writeBeliefs 77 = .ok (.iload_n 1, 1) := by decide +kernel
theorem dX8_writeBeliefs_78 : decode cX8_writeBeliefs 78 = .ok (.iload_n 2, 1) := by decide +kernel
theorem dX8_writeBeliefs_79 : decode cX8_writeBeliefs 79 = .ok (.iconst 1, 1) := by decide +kernel
theorem dX8_writeBeliefs_80 : decode cX8_writeBeliefs 80 = .ok (.invokevirtual 384, 3) := by decide +kernel
theorem dX8_writeBeliefs_83 : decode cX8_writeBeliefs 83 = .ok (.invokevirtual 480, 3) := by decide +kernel
theorem dX8_writeBeliefs_86 : decode cX8_writeBeliefs 86 = .ok (.iinc 2 1, 3) := by decide +kernel
theorem dX8_writeBeliefs_89 : decode cX8_writeBeliefs 89 = .ok (.goto (-68), 3) := by decide +kernel
theorem dX8_writeBeliefs_92 : decode cX8_writeBeliefs 92 = .ok (.aload_n 0, 1) := by decide +kernel
theorem dX8_writeBeliefs_93 : decode cX8_writeBeliefs 93 = .ok (.getfield 471, 3) := by decide +kernel
theorem dX8_writeBeliefs_96 : decode cX8_writeBeliefs 96 = .ok (.ireturn, 1) := by decide +kernel
theorem dX8_writeReports_0 : decode cX8_writeReports 0 = .ok (.aload_n 0, 1) := by decide +kernel
theorem dX8_writeReports_1 : decode cX8_writeReports 1 = .ok (.aload_n 0, 1) := by decide +kernel
theorem dX8_writeReports_2 : decode cX8_writeReports 2 = .ok (.iload_n 1, 1) := by decide +kernel
theorem dX8_writeReports_3 : decode cX8_writeReports 3 = .ok (.invokevirtual 88, 3) := by decide +kernel
theorem dX8_writeReports_6 : decode cX8_writeReports 6 = .ok (.invokevirtual 215, 3) := by decide +kernel
theorem dX8_writeReports_9 : decode cX8_writeReports 9 = .ok (.ifCond .ne 5, 3) := by decide +kernel
theorem dX8_writeReports_12 : decode cX8_writeReports 12 = .ok (.iconst 0, 1) := by decide +kernel
theorem dX8_writeReports_13 : decode cX8_writeReports 13 = .ok (.ireturn, 1) := by decide +kernel
theorem dX8_writeReports_14 : decode cX8_writeReports 14 = .ok (.aload_n 0, 1) := by decide +kernel
theorem dX8_writeReports_15 : decode cX8_writeReports 15 = .ok (.iconst 0, 1) := by decide +kernel
theorem dX8_writeReports_16 : decode cX8_writeReports 16 = .ok (.putfield 471, 3) := by decide +kernel
theorem dX8_writeReports_19 : decode cX8_writeReports 19 = .ok (.iconst 0, 1) := by decide +kernel
theorem dX8_writeReports_20 : decode cX8_writeReports 20 = .ok (.istore_n 2, 1) := by decide +kernel
theorem dX8_writeReports_21 : decode cX8_writeReports 21 = .ok (.iload_n 2, 1) := by decide +kernel
theorem dX8_writeReports_22 : decode cX8_writeReports 22 = .ok (.aload_n 0, 1) := by decide +kernel
theorem dX8_writeReports_23 : decode cX8_writeReports 23 = .ok (.iload_n 1, 1) := by decide +kernel
theorem dX8_writeReports_24 : decode cX8_writeReports 24 = .ok (.invokevirtual 92, 3) := by decide +kernel
theorem dX8_writeReports_27 : decode cX8_writeReports 27 = .ok (.if_icmp .ge 138, 3) := by decide +kernel
theorem dX8_writeReports_30 : decode cX8_writeReports 30 = .ok (.aload_n 0, 1) := by decide +kernel
theorem dX8_writeReports_31 : decode cX8_writeReports 31 = .ok (.aload_n 0, 1) := by decide +kernel
theorem dX8_writeReports_32 : decode cX8_writeReports 32 = .ok (.getfield 17, 3) := by decide +kernel
theorem dX8_writeReports_35 : decode cX8_writeReports 35 = .ok (.bipush 9, 2) := by decide +kernel
theorem dX8_writeReports_37 : decode cX8_writeReports 37 = .ok (.aload_n 0, 1) := by decide +kernel
theorem dX8_writeReports_38 : decode cX8_writeReports 38 = .ok (.iload_n 1, 1) := by decide +kernel
theorem dX8_writeReports_39 : decode cX8_writeReports 39 = .ok (.iload_n 2, 1) := by decide +kernel
theorem dX8_writeReports_40 : decode cX8_writeReports 40 = .ok (.iconst 0, 1) := by decide +kernel
theorem dX8_writeReports_41 : decode cX8_writeReports 41 = .ok (.invokevirtual 95, 3) := by decide +kernel
theorem dX8_writeReports_44 : decode cX8_writeReports 44 = .ok (.iadd, 1) := by decide +kernel
theorem dX8_writeReports_45 : decode cX8_writeReports 45 = .ok (.iaload, 1) := by decide +kernel
theorem dX8_writeReports_46 : decode cX8_writeReports 46 = .ok (.invokevirtual 477, 3) := by decide +kernel
theorem dX8_writeReports_49 : decode cX8_writeReports 49 = .ok (.aload_n 0, 1) := by decide +kernel
theorem dX8_writeReports_50 : decode cX8_writeReports 50 = .ok (.bipush 47, 2) := by decide +kernel
theorem dX8_writeReports_52 : decode cX8_writeReports 52 = .ok (.invokevirtual 474, 3) := by decide +kernel
theorem dX8_writeReports_55 : decode cX8_writeReports 55 = .ok (.aload_n 0, 1) := by decide +kernel
theorem dX8_writeReports_56 : decode cX8_writeReports 56 = .ok (.aload_n 0, 1) := by decide +kernel
theorem dX8_writeReports_57 : decode cX8_writeReports 57 = .ok (.getfield 17, 3) := by decide +kernel
theorem dX8_writeReports_60 : decode cX8_writeReports 60 = .ok (.bipush 15, 2) := by decide +kernel
theorem dX8_writeReports_62 : decode cX8_writeReports 62 = .ok (.aload_n 0, 1) := by decide +kernel
theorem dX8_writeReports_63 : decode cX8_writeReports 63 = .ok (.iload_n 1, 1) := by decide +kernel
theorem dX8_writeReports_64 : decode cX8_writeReports 64 = .ok (.iload_n 2, 1) := by decide +kernel
theorem dX8_writeReports_65 : decode cX8_writeReports 65 = .ok (.iconst 3, 1) := by decide +kernel
theorem dX8_writeReports_66 : decode cX8_writeReports 66 = .ok (.invokevirtual 95, 3) := by decide +kernel
theorem dX8_writeReports_69 : decode cX8_writeReports 69 = .ok (.iadd, 1) := by decide +kernel
theorem dX8_writeReports_70 : decode cX8_writeReports 70 = .ok (.iaload, 1) := by decide +kernel
theorem dX8_writeReports_71 : decode cX8_writeReports 71 = .ok (.invokevirtual 477, 3) := by decide +kernel
theorem dX8_writeReports_74 : decode cX8_writeReports 74 = .ok (.aload_n 0, 1) := by decide +kernel
theorem dX8_writeReports_75 : decode cX8_writeReports 75 = .ok (.bipush 32, 2) := by decide +kernel
theorem dX8_writeReports_77 : decode cX8_writeReports 77 = .ok (.invokevirtual 474, 3) := by decide +kernel
theorem dX8_writeReports_80 : decode cX8_writeReports 80 = .ok (.aload_n 0, 1) := by decide +kernel
theorem dX8_writeReports_81 : decode cX8_writeReports 81 = .ok (.aload_n 0, 1) := by decide +kernel
theorem dX8_writeReports_82 : decode cX8_writeReports 82 = .ok (.iload_n 1, 1) := by decide +kernel
theorem dX8_writeReports_83 : decode cX8_writeReports 83 = .ok (.iload_n 2, 1) := by decide +kernel
theorem dX8_writeReports_84 : decode cX8_writeReports 84 = .ok (.iconst 5, 1) := by decide +kernel
theorem dX8_writeReports_85 : decode cX8_writeReports 85 = .ok (.invokevirtual 95, 3) := by decide +kernel
theorem dX8_writeReports_88 : decode cX8_writeReports 88 = .ok (.invokevirtual 480, 3) := by decide +kernel
theorem dX8_writeReports_91 : decode cX8_writeReports 91 = .ok (.aload_n 0, 1) := by decide +kernel
theorem dX8_writeReports_92 : decode cX8_writeReports 92 = .ok (.bipush 45, 2) := by decide +kernel
theorem dX8_writeReports_94 : decode cX8_writeReports 94 = .ok (.invokevirtual 474, 3) := by decide +kernel
theorem dX8_writeReports_97 : decode cX8_writeReports 97 = .ok (.aload_n 0, 1) := by decide +kernel
theorem dX8_writeReports_98 : decode cX8_writeReports 98 = .ok (.aload_n 0, 1) := by decide +kernel
theorem dX8_writeReports_99 : decode cX8_writeReports 99 = .ok (.iload_n 1, 1) := by decide +kernel
theorem dX8_writeReports_100 : decode cX8_writeReports 100 = .ok (.iload_n 2, 1) := by decide +kernel
theorem dX8_writeReports_101 : decode cX8_writeReports 101 = .ok (.bipush 6, 2) := by decide +kernel
theorem dX8_writeReports_103 : decode cX8_writeReports 103 = .ok (.invokevirtual 95, 3) := by decide +kernel
theorem dX8_writeReports_106 : decode cX8_writeReports 106 = .ok (.invokevirtual 480, 3) := by decide +kernel
theorem dX8_writeReports_109 : decode cX8_writeReports 109 = .ok (.aload_n 0, 1) := by decide +kernel
theorem dX8_writeReports_110 : decode cX8_writeReports 110 = .ok (.bipush 64, 2) := by decide +kernel
theorem dX8_writeReports_112 : decode cX8_writeReports 112 = .ok (.invokevirtual 474, 3) := by decide +kernel
theorem dX8_writeReports_115 : decode cX8_writeReports 115 = .ok (.aload_n 0, 1) := by decide +kernel
theorem dX8_writeReports_116 : decode cX8_writeReports 116 = .ok (.aload_n 0, 1) := by decide +kernel
theorem dX8_writeReports_117 : decode cX8_writeReports 117 = .ok (.iload_n 1, 1) := by decide +kernel
theorem dX8_writeReports_118 : decode cX8_writeReports 118 = .ok (.iload_n 2, 1) := by decide +kernel
theorem dX8_writeReports_119 : decode cX8_writeReports 119 = .ok (.iconst 4, 1) := by decide +kernel
theorem dX8_writeReports_120 : decode cX8_writeReports 120 = .ok (.invokevirtual 95, 3) := by decide +kernel
theorem dX8_writeReports_123 : decode cX8_writeReports 123 = .ok (.invokevirtual 480, 3) := by decide +kernel
theorem dX8_writeReports_126 : decode cX8_writeReports 126 = .ok (.aload_n 0, 1) := by decide +kernel
theorem dX8_writeReports_127 : decode cX8_writeReports 127 = .ok (.iload_n 1, 1) := by decide +kernel
theorem dX8_writeReports_128 : decode cX8_writeReports 128 = .ok (.iload_n 2, 1) := by decide +kernel
theorem dX8_writeReports_129 : decode cX8_writeReports 129 = .ok (.invokevirtual 375, 3) := by decide +kernel
theorem dX8_writeReports_132 : decode cX8_writeReports 132 = .ok (.istore_n 3, 1) := by decide +kernel
theorem dX8_writeReports_133 : decode cX8_writeReports 133 = .ok (.iload_n 3, 1) := by decide +kernel
theorem dX8_writeReports_134 : decode cX8_writeReports 134 = .ok (.ifCond .le 19, 3) := by decide +kernel
theorem dX8_writeReports_137 : decode cX8_writeReports 137 = .ok (.aload_n 0, 1) := by decide +kernel
theorem dX8_writeReports_138 : decode cX8_writeReports 138 = .ok (.iload_n 3, 1) := by decide +kernel
theorem dX8_writeReports_139 : decode cX8_writeReports 139 = .ok (.iconst 1, 1) := by decide +kernel
theorem dX8_writeReports_140 : decode cX8_writeReports 140 = .ok (.if_icmp .ne 8, 3) := by decide +kernel
theorem dX8_writeReports_143 : decode cX8_writeReports 143 = .ok (.bipush 33, 2) := by decide +kernel
theorem dX8_writeReports_145 : decode cX8_writeReports 145 = .ok (.goto 5, 3) := by decide +kernel
theorem dX8_writeReports_148 : decode cX8_writeReports 148 = .ok (.bipush 63, 2) := by decide +kernel
theorem dX8_writeReports_150 : decode cX8_writeReports 150 = .ok (.invokevirtual 474, 3) := by decide +kernel
theorem dX8_writeReports_153 : decode cX8_writeReports 153 = .ok (.aload_n 0, 1) := by decide +kernel
theorem dX8_writeReports_154 : decode cX8_writeReports 154 = .ok (.bipush 10, 2) := by decide +kernel
theorem dX8_writeReports_156 : decode cX8_writeReports 156 = .ok (.invokevirtual 474, 3) := by decide +kernel
theorem dX8_writeReports_159 : decode cX8_writeReports 159 = .ok (.iinc 2 1, 3) := by decide +kernel
theorem dX8_writeReports_162 : decode cX8_writeReports 162 = .ok (.goto (-141), 3) := by decide +kernel
theorem dX8_writeReports_165 : decode cX8_writeReports 165 = .ok (.aload_n 0, 1) := by decide +kernel
theorem dX8_writeReports_166 : decode cX8_writeReports 166 = .ok (.getfield 471, 3) := by decide +kernel
theorem dX8_writeReports_169 : decode cX8_writeReports 169 = .ok (.ireturn, 1) := by decide +kernel
theorem dX8_outputByte_0 : decode cX8_outputByte 0 = .ok (.aload_n 0, 1) := by decide +kernel
theorem dX8_outputByte_1 : decode cX8_outputByte 1 = .ok (.iload_n 1, 1) := by decide +kernel
theorem dX8_outputByte_2 : decode cX8_outputByte 2 = .ok (.i2l, 1) := by decide +kernel
theorem dX8_outputByte_3 : decode cX8_outputByte 3 = .ok (.lconst 0, 1) := by decide +kernel
theorem dX8_outputByte_4 : decode cX8_outputByte 4 = .ok (.aload_n 0, 1) := by decide +kernel
theorem dX8_outputByte_5 : decode cX8_outputByte 5 = .ok (.getfield 471, 3) := by decide +kernel
theorem dX8_outputByte_8 : decode cX8_outputByte 8 = .ok (.iconst 1, 1) := by decide +kernel
theorem dX8_outputByte_9 : decode cX8_outputByte 9 = .ok (.isub, 1) := by decide +kernel
theorem dX8_outputByte_10 : decode cX8_outputByte 10 = .ok (.i2l, 1) := by decide +kernel
theorem dX8_outputByte_11 : decode cX8_outputByte 11 = .ok (.invokestatic 70, 3) := by decide +kernel
theorem dX8_outputByte_14 : decode cX8_outputByte 14 = .ok (.invokevirtual 215, 3) := by decide +kernel
theorem dX8_outputByte_17 : decode cX8_outputByte 17 = .ok (.ifCond .eq 12, 3) := by decide +kernel
theorem dX8_outputByte_20 : decode cX8_outputByte 20 = .ok (.aload_n 0, 1) := by decide +kernel
theorem dX8_outputByte_21 : decode cX8_outputByte 21 = .ok (.getfield 59, 3) := by decide +kernel
theorem dX8_outputByte_24 : decode cX8_outputByte 24 = .ok (.iload_n 1, 1) := by decide +kernel
theorem dX8_outputByte_25 : decode cX8_outputByte 25 = .ok (.baload, 1) := by decide +kernel
theorem dX8_outputByte_26 : decode cX8_outputByte 26 = .ok (.goto 4, 3) := by decide +kernel
theorem dX8_outputByte_29 : decode cX8_outputByte 29 = .ok (.iconst 0, 1) := by decide +kernel
theorem dX8_outputByte_30 : decode cX8_outputByte 30 = .ok (.ireturn, 1) := by decide +kernel
