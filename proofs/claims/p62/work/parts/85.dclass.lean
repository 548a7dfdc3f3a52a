theorem dX0_init_0 : decode cX0_init 0 = .ok (.aload_n 0, 1) := by decide +kernel
theorem dX0_init_1 : decode cX0_init 1 = .ok (.invokespecial 3, 3) := by decide +kernel
theorem dX0_init_4 : decode cX0_init 4 = .ok (.aload_n 0, 1) := by decide +kernel
theorem dX0_init_5 : decode cX0_init 5 = .ok (.iload_n 1, 1) := by decide +kernel
theorem dX0_init_6 : decode cX0_init 6 = .ok (.ifCond .ge 7, 3) := by decide +kernel
theorem dX0_init_9 : decode cX0_init 9 = .ok (.iconst 0, 1) := by decide +kernel
theorem dX0_init_10 : decode cX0_init 10 = .ok (.goto 4, 3) := by decide +kernel
theorem dX0_init_13 : decode cX0_init 13 = .ok (.iload_n 1, 1) := by decide +kernel
theorem dX0_init_14 : decode cX0_init 14 = .ok (.newarray .byte, 2) := by decide +kernel
theorem dX0_init_16 : decode cX0_init 16 = .ok (.putfield 9, 3) := by decide +kernel
theorem dX0_init_19 : decode cX0_init 19 = .ok (.return_, 1) := by decide +kernel
theorem dX0_at_0 : decode cX0_at 0 = .ok (.iload_n 1, 1) := by decide +kernel
theorem dX0_at_1 : decode cX0_at 1 = .ok (.ifCond .lt 33, 3) := by decide +kernel
theorem dX0_at_4 : decode cX0_at 4 = .ok (.iload_n 1, 1) := by decide +kernel
theorem dX0_at_5 : decode cX0_at 5 = .ok (.aload_n 0, 1) := by decide +kernel
theorem dX0_at_6 : decode cX0_at 6 = .ok (.getfield 15, 3) := by decide +kernel
theorem dX0_at_9 : decode cX0_at 9 = .ok (.if_icmp .ge 25, 3) := by decide +kernel
theorem dX0_at_12 : decode cX0_at 12 = .ok (.iload_n 1, 1) := by decide +kernel
theorem dX0_at_13 : decode cX0_at 13 = .ok (.aload_n 0, 1) := by decide +kernel
theorem dX0_at_14 : decode cX0_at 14 = .ok (.getfield 9, 3) := by decide +kernel
theorem dX0_at_17 : decode cX0_at 17 = .ok (.arraylength, 1) := by decide +kernel
theorem dX0_at_18 : decode cX0_at 18 = .ok (.if_icmp .ge 16, 3) := by decide +kernel
theorem dX0_at_21 : decode cX0_at 21 = .ok (.aload_n 0, 1) := by decide +kernel
theorem dX0_at_22 : decode cX0_at 22 = .ok (.getfield 9, 3) := by decide +kernel
theorem dX0_at_25 : decode cX0_at 25 = .ok (.iload_n 1, 1) := by decide +kernel
theorem dX0_at_26 : decode cX0_at 26 = .ok (.baload, 1) := by decide +kernel
theorem dX0_at_27 : decode cX0_at 27 = .ok (.sipush 255, 3) := by decide +kernel
theorem dX0_at_30 : decode cX0_at 30 = .ok (.iand, 1) := by decide +kernel
theorem dX0_at_31 : decode cX0_at 31 = .ok (.goto 4, 3) := by decide +kernel
theorem dX0_at_34 : decode cX0_at 34 = .ok (.iconst (-1), 1) := by decide +kernel
theorem dX0_at_35 : decode cX0_at 35 = .ok (.ireturn, 1) := by decide +kernel
theorem dX0_add_0 : decode cX0_add 0 = .ok (.aload_n 0, 1) := by decide +kernel
theorem dX0_add_1 : decode cX0_add 1 = .ok (.getfield 15, 3) := by decide +kernel
theorem dX0_add_4 : decode cX0_add 4 = .ok (.ifCond .lt 36, 3) := by decide +kernel
theorem dX0_add_7 : decode cX0_add 7 = .ok (.aload_n 0, 1) := by decide +kernel
theorem dX0_add_8 : decode cX0_add 8 = .ok (.getfield 15, 3) := by decide +kernel
theorem dX0_add_11 : decode cX0_add 11 = .ok (.aload_n 0, 1) := by decide +kernel
theorem dX0_add_12 : decode cX0_add 12 = .ok (.getfield 9, 3) := by decide +kernel
theorem dX0_add_15 : decode cX0_add 15 = .ok (.arraylength, 1) := by decide +kernel
theorem dX0_add_16 : decode cX0_add 16 = .ok (.if_icmp .ge 24, 3) := by decide +kernel
theorem dX0_add_19 : decode cX0_add 19 = .ok (.aload_n 0, 1) := by decide +kernel
theorem dX0_add_20 : decode cX0_add 20 = .ok (.getfield 9, 3) := by decide +kernel
theorem dX0_add_23 : decode cX0_add 23 = .ok (.aload_n 0, 1) := by decide +kernel
theorem dX0_add_24 : decode cX0_add 24 = .ok (.getfield 15, 3) := by decide +kernel
theorem dX0_add_27 : decode cX0_add 27 = .ok (.iload_n 1, 1) := by decide +kernel
theorem dX0_add_28 : decode cX0_add 28 = .ok (.i2b, 1) := by decide +kernel
theorem dX0_add_29 : decode cX0_add 29 = .ok (.bastore, 1) := by decide +kernel
theorem dX0_add_30 : decode cX0_add 30 = .ok (.aload_n 0, 1) := by decide +kernel
theorem dX0_add_31 : decode cX0_add 31 = .ok (.dup, 1) := by decide +kernel
theorem dX0_add_32 : decode cX0_add 32 = .ok (.getfield 15, 3) := by decide +kernel
theorem dX0_add_35 : decode cX0_add 35 = .ok (.iconst 1, 1) := by decide +kernel
theorem dX0_add_36 : decode cX0_add 36 = .ok (.iadd, 1) := by decide +kernel
theorem dX0_add_37 : decode cX0_add 37 = .ok (.putfield 15, 3) := by decide +kernel
theorem dX0_add_40 : decode cX0_add 40 = .ok (.return_, 1) := by decide +kernel
theorem dX0_addFour_0 : decode cX0_addFour 0 = .ok (.aload_n 0, 1) := by decide +kernel
theorem dX0_addFour_1 : decode cX0_addFour 1 = .ok (.iload_n 1, 1) := by decide +kernel
theorem dX0_addFour_2 : decode cX0_addFour 2 = .ok (.bipush 24, 2) := by decide +kernel
theorem dX0_addFour_4 : decode cX0_addFour 4 = .ok (.ishr, 1) := by decide +kernel
theorem dX0_addFour_5 : decode cX0_addFour 5 = .ok (.invokevirtual 19, 3) := by decide +kernel
theorem dX0_addFour_8 : decode cX0_addFour 8 = .ok (.aload_n 0, 1) := by decide +kernel
theorem dX0_addFour_9 : decode cX0_addFour 9 = .ok (.iload_n 1, 1) := by decide +kernel
theorem dX0_addFour_10 : decode cX0_addFour 10 = .ok (.bipush 16, 2) := by decide +kernel
theorem dX0_addFour_12 : decode cX0_addFour 12 = .ok (.ishr, 1) := by decide +kernel
theorem dX0_addFour_13 : decode cX0_addFour 13 = .ok (.invokevirtual 19, 3) := by decide +kernel
theorem dX0_addFour_16 : decode cX0_addFour 16 = .ok (.aload_n 0, 1) := by decide +kernel
theorem dX0_addFour_17 : decode cX0_addFour 17 = .ok (.iload_n 1, 1) := by decide +kernel
theorem dX0_addFour_18 : decode cX0_addFour 18 = .ok (.bipush 8, 2) := by decide +kernel
theorem dX0_addFour_20 : decode cX0_addFour 20 = .ok (.ishr, 1) := by decide +kernel
theorem dX0_addFour_21 : decode cX0_addFour 21 = .ok (.invokevirtual 19, 3) := by decide +kernel
theorem dX0_addFour_24 : decode cX0_addFour 24 = .ok (.aload_n 0, 1) := by decide +kernel
theorem dX0_addFour_25 : decode cX0_addFour 25 = .ok (.iload_n 1, 1) := by decide +kernel
theorem dX0_addFour_26 : decode cX0_addFour 26 = .ok (.invokevirtual 19, 3) := by decide +kernel
theorem dX0_addFour_29 : decode cX0_addFour 29 = .ok (.return_, 1) := by decide +kernel
theorem dX0_nameCode_0 : decode cX0_nameCode 0 = .ok (.iload_n 2, 1) := by decide +kernel
theorem dX0_nameCode_1 : decode cX0_nameCode 1 = .ok (.iload_n 1, 1) := by decide +kernel
theorem dX0_nameCode_2 : decode cX0_nameCode 2 = .ok (.isub, 1) := by decide +kernel
theorem dX0_nameCode_3 : decode cX0_nameCode 3 = .ok (.istore_n 3, 1) := by decide +kernel
theorem dX0_nameCode_4 : decode cX0_nameCode 4 = .ok (.iload_n 3, 1) := by decide +kernel
theorem dX0_nameCode_5 : decode cX0_nameCode 5 = .ok (.iconst 1, 1) := by decide +kernel
theorem dX0_nameCode_6 : decode cX0_nameCode 6 = .ok (.if_icmp .lt 9, 3) := by decide +kernel
theorem dX0_nameCode_9 : decode cX0_nameCode 9 = .ok (.iload_n 3, 1) := by decide +kernel
theorem dX0_nameCode_10 : decode cX0_nameCode 10 = .ok (.bipush 6, 2) := by decide +kernel
theorem dX0_nameCode_12 : decode cX0_nameCode 12 = .ok (.if_icmp .le 5, 3) := by decide +kernel
theorem dX0_nameCode_15 : decode cX0_nameCode 15 = .ok (.iconst (-1), 1) := by decide +kernel
theorem dX0_nameCode_16 : decode cX0_nameCode 16 = .ok (.ireturn, 1) := by decide +kernel
theorem dX0_nameCode_17 : decode cX0_nameCode 17 = .ok (.iconst 0, 1) := by decide +kernel
theorem dX0_nameCode_18 : decode cX0_nameCode 18 = .ok (.istore 4, 2) := by decide +kernel
theorem dX0_nameCode_20 : decode cX0_nameCode 20 = .ok (.iload_n 1, 1) := by decide +kernel
theorem dX0_nameCode_21 : decode cX0_nameCode 21 = .ok (.istore 5, 2) := by decide +kernel
theorem dX0_nameCode_23 : decode cX0_nameCode 23 = .ok (.iload 5, 2) := by decide +kernel
theorem dX0_nameCode_25 : decode cX0_nameCode 25 = .ok (.iload_n 2, 1) := by decide +kernel
theorem dX0_nameCode_26 : decode cX0_nameCode 26 = .ok (.if_icmp .ge 47, 3) := by decide +kernel
theorem dX0_nameCode_29 : decode cX0_nameCode 29 = .ok (.aload_n 0, 1) := by decide +kernel
theorem dX0_nameCode_30 : decode cX0_nameCode 30 = .ok (.iload 5, 2) := by decide +kernel
theorem dX0_nameCode_32 : decode cX0_nameCode 32 = .ok (.invokevirtual 24, 3) := by decide +kernel
theorem dX0_nameCode_35 : decode cX0_nameCode 35 = .ok (.istore 6, 2) := by decide +kernel
theorem dX0_nameCode_37 : decode cX0_nameCode 37 = .ok (.iload 6, 2) := by decide +kernel
theorem dX0_nameCode_39 : decode cX0_nameCode 39 = .ok (.bipush 97, 2) := by decide +kernel
theorem dX0_nameCode_41 : decode cX0_nameCode 41 = .ok (.if_icmp .lt 10, 3) := by decide +kernel
theorem dX0_nameCode_44 : decode cX0_nameCode 44 = .ok (.iload 6, 2) := by decide +kernel
theorem dX0_nameCode_46 : decode cX0_nameCode 46 = .ok (.bipush 122, 2) := by decide +kernel
theorem dX0_nameCode_48 : decode cX0_nameCode 48 = .ok (.if_icmp .le 5, 3) := by decide +kernel
theorem dX0_nameCode_51 : decode cX0_nameCode 51 = .ok (.iconst (-1), 1) := by decide +kernel
theorem dX0_nameCode_52 : decode cX0_nameCode 52 = .ok (.ireturn, 1) := by decide +kernel
theorem dX0_nameCode_53 : decode cX0_nameCode 53 = .ok (.iload 4, 2) := by decide +kernel
theorem dX0_nameCode_55 : decode cX0_nameCode 55 = .ok (.iconst 5, 1) := by decide +kernel
theorem dX0_nameCode_56 : decode cX0_nameCode 56 = .ok (.ishl, 1) := by decide +kernel
theorem dX0_nameCode_57 : decode cX0_nameCode 57 = .ok (.iload 6, 2) := by decide +kernel
theorem dX0_nameCode_59 : decode cX0_nameCode 59 = .ok (.iadd, 1) := by decide +kernel
theorem dX0_nameCode_60 : decode cX0_nameCode 60 = .ok (.bipush 97, 2) := by decide +kernel
theorem dX0_nameCode_62 : decode cX0_nameCode 62 = .ok (.isub, 1) := by decide +kernel
theorem dX0_nameCode_63 : decode cX0_nameCode 63 = .ok (.iconst 1, 1) := by decide +kernel
theorem dX0_nameCode_64 : decode cX0_nameCode 64 = .ok (.iadd, 1) := by decide +kernel
theorem dX0_nameCode_65 : decode cX0_nameCode 65 = .ok (.istore 4, 2) := by decide +kernel
theorem dX0_nameCode_67 : decode cX0_nameCode 67 = .ok (.iinc 5 1, 3) := by decide +kernel
theorem dX0_nameCode_70 : decode cX0_nameCode 70 = .ok (.goto (-47), 3) := by decide +kernel
theorem dX0_nameCode_73 : decode cX0_nameCode 73 = .ok (.iload 4, 2) := by decide +kernel
theorem dX0_nameCode_75 : decode cX0_nameCode 75 = .ok (.ireturn, 1) := by decide +kernel
theorem dX1_init_0 : decode cX1_init 0 = .ok (.aload_n 0, 1) := by decide +kernel
theorem dX1_init_1 : decode cX1_init 1 = .ok (.invokespecial 3, 3) := by decide +kernel
theorem dX1_init_4 : decode cX1_init 4 = .ok (.aload_n 0, 1) := by decide +kernel
theorem dX1_init_5 : decode cX1_init 5 = .ok (.iconst 5, 1) := by decide +kernel
theorem dX1_init_6 : decode cX1_init 6 = .ok (.newarray .int, 2) := by decide +kernel
theorem dX1_init_8 : decode cX1_init 8 = .ok (.putfield 9, 3) := by decide +kernel
theorem dX1_init_11 : decode cX1_init 11 = .ok (.aload_n 0, 1) := by decide +kernel
theorem dX1_init_12 : decode cX1_init 12 = .ok (.new 15, 3) := by decide +kernel
theorem dX1_init_15 : decode cX1_init 15 = .ok (.dup, 1) := by decide +kernel
theorem dX1_init_16 : decode cX1_init 16 = .ok (.invokespecial 17, 3) := by decide +kernel
theorem dX1_init_19 : decode cX1_init 19 = .ok (.putfield 18, 3) := by decide +kernel
theorem dX1_init_22 : decode cX1_init 22 = .ok (.aload_n 0, 1) := by decide +kernel
theorem dX1_init_23 : decode cX1_init 23 = .ok (.new 15, 3) := by decide +kernel
theorem dX1_init_26 : decode cX1_init 26 = .ok (.dup, 1) := by decide +kernel
theorem dX1_init_27 : decode cX1_init 27 = .ok (.invokespecial 17, 3) := by decide +kernel
theorem dX1_init_30 : decode cX1_init 30 = .ok (.putfield 22, 3) := by decide +kernel
theorem dX1_init_33 : decode cX1_init 33 = .ok (.aload_n 0, 1) := by decide +kernel
theorem dX1_init_34 : decode cX1_init 34 = .ok (.bipush 36, 2) := by decide +kernel
theorem dX1_init_36 : decode cX1_init 36 = .ok (.newarray .int, 2) := by decide +kernel
theorem dX1_init_38 : decode cX1_init 38 = .ok (.putfield 25, 3) := by decide +kernel
theorem dX1_init_41 : decode cX1_init 41 = .ok (.aload_n 0, 1) := by decide +kernel
theorem dX1_init_42 : decode cX1_init 42 = .ok (.bipush 6, 2) := by decide +kernel
theorem dX1_init_44 : decode cX1_init 44 = .ok (.anewarray 28, 3) := by decide +kernel
theorem dX1_init_47 : decode cX1_init 47 = .ok (.putfield 30, 3) := by decide +kernel
theorem dX1_init_50 : decode cX1_init 50 = .ok (.aload_n 0, 1) := by decide +kernel
theorem dX1_init_51 : decode cX1_init 51 = .ok (.new 28, 3) := by decide +kernel
theorem dX1_init_54 : decode cX1_init 54 = .ok (.dup, 1) := by decide +kernel
theorem dX1_init_55 : decode cX1_init 55 = .ok (.iconst 0, 1) := by decide +kernel
theorem dX1_init_56 : decode cX1_init 56 = .ok (.invokespecial 34, 3) := by decide +kernel
theorem dX1_init_59 : decode cX1_init 59 = .ok (.putfield 37, 3) := by decide +kernel
theorem dX1_init_62 : decode cX1_init 62 = .ok (.aload_n 0, 1) := by decide +kernel
theorem dX1_init_63 : decode cX1_init 63 = .ok (.new 28, 3) := by decide +kernel
theorem dX1_init_66 : decode cX1_init 66 = .ok (.dup, 1) := by decide +kernel
theorem dX1_init_67 : decode cX1_init 67 = .ok (.bipush 100, 2) := by decide +kernel
theorem dX1_init_69 : decode cX1_init 69 = .ok (.invokespecial 34, 3) := by decide +kernel
theorem dX1_init_72 : decode cX1_init 72 = .ok (.putfield 41, 3) := by decide +kernel
theorem dX1_init_75 : decode cX1_init 75 = .ok (.aload_n 0, 1) := by decide +kernel
theorem dX1_init_76 : decode cX1_init 76 = .ok (.bipush 30, 2) := by decide +kernel
theorem dX1_init_78 : decode cX1_init 78 = .ok (.newarray .int, 2) := by decide +kernel
theorem dX1_init_80 : decode cX1_init 80 = .ok (.putfield 44, 3) := by decide +kernel
theorem dX1_init_83 : decode cX1_init 83 = .ok (.iconst 0, 1) := by decide +kernel
theorem dX1_init_84 : decode cX1_init 84 = .ok (.istore_n 1, 1) := by decide +kernel
theorem dX1_init_85 : decode cX1_init 85 = .ok (.iload_n 1, 1) := by decide +kernel
theorem dX1_init_86 : decode cX1_init 86 = .ok (.aload_n 0, 1) := by decide +kernel
theorem dX1_init_87 : decode cX1_init 87 = .ok (.getfield 30, 3) := by decide +kernel
theorem dX1_init_90 : decode cX1_init 90 = .ok (.arraylength, 1) := by decide +kernel
theorem dX1_init_91 : decode cX1_init 91 = .ok (.if_icmp .ge 24, 3) := by decide +kernel
theorem dX1_init_94 : decode cX1_init 94 = .ok (.aload_n 0, 1) := by decide +kernel
theorem dX1_init_95 : decode cX1_init 95 = .ok (.getfield 30, 3) := by decide +kernel
theorem dX1_init_98 : decode cX1_init 98 = .ok (.iload_n 1, 1) := by decide +kernel
theorem dX1_init_99 : decode cX1_init 99 = .ok (.new 28, 3) := by decide +kernel
theorem dX1_init_102 : decode cX1_init 102 = .ok (.dup, 1) := by decide +kernel
theorem dX1_init_103 : decode cX1_init 103 = .ok (.bipush 36, 2) := by decide +kernel
theorem dX1_init_105 : decode cX1_init 105 = .ok (.invokespecial 34, 3) := by decide +kernel
theorem dX1_init_108 : decode cX1_init 108 = .ok (.aastore, 1) := by decide +kernel
theorem dX1_init_109 : decode cX1_init 109 = .ok (.iinc 1 1, 3) := by decide +kernel
theorem dX1_init_112 : decode cX1_init 112 = .ok (.goto (-27), 3) := by decide +kernel
theorem dX1_init_115 : decode cX1_init 115 = .ok (.aload_n 0, 1) := by decide +kernel
theorem dX1_init_116 : decode cX1_init 116 = .ok (.invokevirtual 47, 3) := by decide +kernel
theorem dX1_init_119 : decode cX1_init 119 = .ok (.return_, 1) := by decide +kernel
theorem dX1_reset_0 : decode cX1_reset 0 = .ok (.iconst 0, 1) := by decide +kernel
theorem dX1_reset_1 : decode cX1_reset 1 = .ok (.istore_n 1, 1) := by decide +kernel
theorem dX1_reset_2 : decode cX1_reset 2 = .ok (.iload_n 1, 1) := by decide +kernel
theorem dX1_reset_3 : decode cX1_reset 3 = .ok (.iconst 5, 1) := by decide +kernel
theorem dX1_reset_4 : decode cX1_reset 4 = .ok (.if_icmp .ge 19, 3) := by decide +kernel
theorem dX1_reset_7 : decode cX1_reset 7 = .ok (.aload_n 0, 1) := by decide +kernel
theorem dX1_reset_8 : decode cX1_reset 8 = .ok (.iload_n 1, 1) := by decide +kernel
theorem dX1_reset_9 : decode cX1_reset 9 = .ok (.getstatic 50, 3) := by decide +kernel
theorem dX1_reset_12 : decode cX1_reset 12 = .ok (.iload_n 1, 1) := by decide +kernel
theorem dX1_reset_13 : decode cX1_reset 13 = .ok (.iaload, 1) := by decide +kernel
theorem dX1_reset_14 : decode cX1_reset 14 = .ok (.invokevirtual 53, 3) := by decide +kernel
theorem dX1_reset_17 : decode cX1_reset 17 = .ok (.iinc 1 1, 3) := by decide +kernel
theorem dX1_reset_20 : decode cX1_reset 20 = .ok (.goto (-18), 3) := by decide +kernel
theorem dX1_reset_23 : decode cX1_reset 23 = .ok (.aload_n 0, 1) := by decide +kernel
theorem dX1_reset_24 : decode cX1_reset 24 = .ok (.getfield 18, 3) := by decide +kernel
theorem dX1_reset_27 : decode cX1_reset 27 = .ok (.iconst 0, 1) := by decide +kernel
theorem dX1_reset_28 : decode cX1_reset 28 = .ok (.putfield 57, 3) := by decide +kernel
theorem dX1_reset_31 : decode cX1_reset 31 = .ok (.aload_n 0, 1) := by decide +kernel
theorem dX1_reset_32 : decode cX1_reset 32 = .ok (.getfield 22, 3) := by decide +kernel
theorem dX1_reset_35 : decode cX1_reset 35 = .ok (.iconst 0, 1) := by decide +kernel
theorem dX1_reset_36 : decode cX1_reset 36 = .ok (.putfield 57, 3) := by decide +kernel
theorem dX1_reset_39 : decode cX1_reset 39 = .ok (.aload_n 0, 1) := by decide +kernel
theorem dX1_reset_40 : decode cX1_reset 40 = .ok (.getfield 25, 3) := by decide +kernel
theorem dX1_reset_43 : decode cX1_reset 43 = .ok (.iconst (-1), 1) := by decide +kernel
theorem dX1_reset_44 : decode cX1_reset 44 = .ok (.invokestatic 61, 3) := by decide +kernel
theorem dX1_reset_47 : decode cX1_reset 47 = .ok (.iconst 0, 1) := by decide +kernel
theorem dX1_reset_48 : decode cX1_reset 48 = .ok (.istore_n 1, 1) := by decide +kernel
theorem dX1_reset_49 : decode cX1_reset 49 = .ok (.iload_n 1, 1) := by decide +kernel
theorem dX1_reset_50 : decode cX1_reset 50 = .ok (.aload_n 0, 1) := by decide +kernel
theorem dX1_reset_51 : decode cX1_reset 51 = .ok (.getfield 30, 3) := by decide +kernel
theorem dX1_reset_54 : decode cX1_reset 54 = .ok (.arraylength, 1) := by decide +kernel
theorem dX1_reset_55 : decode cX1_reset 55 = .ok (.if_icmp .ge 18, 3) := by decide +kernel
theorem dX1_reset_58 : decode cX1_reset 58 = .ok (.aload_n 0, 1) := by decide +kernel
theorem dX1_reset_59 : decode cX1_reset 59 = .ok (.iload_n 1, 1) := by decide +kernel
theorem dX1_reset_60 : decode cX1_reset 60 = .ok (.invokevirtual 67, 3) := by decide +kernel
theorem dX1_reset_63 : decode cX1_reset 63 = .ok (.iconst 0, 1) := by decide +kernel
theorem dX1_reset_64 : decode cX1_reset 64 = .ok (.putfield 71, 3) := by decide +kernel
theorem dX1_reset_67 : decode cX1_reset 67 = .ok (.iinc 1 1, 3) := by decide +kernel
theorem dX1_reset_70 : decode cX1_reset 70 = .ok (.goto (-21), 3) := by decide +kernel
theorem dX1_reset_73 : decode cX1_reset 73 = .ok (.aload_n 0, 1) := by decide +kernel
theorem dX1_reset_74 : decode cX1_reset 74 = .ok (.getfield 41, 3) := by decide +kernel
theorem dX1_reset_77 : decode cX1_reset 77 = .ok (.iconst 0, 1) := by decide +kernel
theorem dX1_reset_78 : decode cX1_reset 78 = .ok (.putfield 71, 3) := by decide +kernel
theorem dX1_reset_81 : decode cX1_reset 81 = .ok (.aload_n 0, 1) := by decide +kernel
theorem dX1_reset_82 : decode cX1_reset 82 = .ok (.getfield 44, 3) := by decide +kernel
theorem dX1_reset_85 : decode cX1_reset 85 = .ok (.iconst 0, 1) := by decide +kernel
theorem dX1_reset_86 : decode cX1_reset 86 = .ok (.invokestatic 61, 3) := by decide +kernel
theorem dX1_reset_89 : decode cX1_reset 89 = .ok (.aload_n 0, 1) := by decide +kernel
theorem dX1_reset_90 : decode cX1_reset 90 = .ok (.iconst 0, 1) := by decide +kernel
theorem dX1_reset_91 : decode cX1_reset 91 = .ok (.putfield 72, 3) := by decide +kernel
theorem dX1_reset_94 : decode cX1_reset 94 = .ok (.return_, 1) := by decide +kernel
theorem dX1_become_0 : decode cX1_become 0 = .ok (.iconst 0, 1) := by decide +kernel
theorem dX1_become_1 : decode cX1_become 1 = .ok (.istore_n 2, 1) := by decide +kernel
theorem dX1_become_2 : decode cX1_become 2 = .ok (.iload_n 2, 1) := by decide +kernel
theorem dX1_become_3 : decode cX1_become 3 = .ok (.iconst 5, 1) := by decide +kernel
theorem dX1_become_4 : decode cX1_become 4 = .ok (.if_icmp .ge 19, 3) := by decide +kernel
theorem dX1_become_7 : decode cX1_become 7 = .ok (.aload_n 0, 1) := by decide +kernel
theorem dX1_become_8 : decode cX1_become 8 = .ok (.iload_n 2, 1) := by decide +kernel
theorem dX1_become_9 : decode cX1_become 9 = .ok (.aload_n 1, 1) := by decide +kernel
theorem dX1_become_10 : decode cX1_become 10 = .ok (.iload_n 2, 1) := by decide +kernel
theorem dX1_become_11 : decode cX1_become 11 = .ok (.invokevirtual 75, 3) := by decide +kernel
theorem dX1_become_14 : decode cX1_become 14 = .ok (.invokevirtual 53, 3) := by decide +kernel
theorem dX1_become_17 : decode cX1_become 17 = .ok (.iinc 2 1, 3) := by decide +kernel
theorem dX1_become_20 : decode cX1_become 20 = .ok (.goto (-18), 3) := by decide +kernel
theorem dX1_become_23 : decode cX1_become 23 = .ok (.aload_n 0, 1) := by decide +kernel
theorem dX1_become_24 : decode cX1_become 24 = .ok (.getfield 18, 3) := by decide +kernel
theorem dX1_become_27 : decode cX1_become 27 = .ok (.aload_n 1, 1) := by decide +kernel
theorem dX1_become_28 : decode cX1_become 28 = .ok (.getfield 18, 3) := by decide +kernel
theorem dX1_become_31 : decode cX1_become 31 = .ok (.invokevirtual 79, 3) := by decide +kernel
theorem dX1_become_34 : decode cX1_become 34 = .ok (.aload_n 0, 1) := by decide +kernel
theorem dX1_become_35 : decode cX1_become 35 = .ok (.getfield 22, 3) := by decide +kernel
theorem dX1_become_38 : decode cX1_become 38 = .ok (.aload_n 1, 1) := by decide +kernel
theorem dX1_become_39 : decode cX1_become 39 = .ok (.getfield 22, 3) := by decide +kernel
theorem dX1_become_42 : decode cX1_become 42 = .ok (.invokevirtual 79, 3) := by decide +kernel
theorem dX1_become_45 : decode cX1_become 45 = .ok (.aload_n 1, 1) := by decide +kernel
theorem dX1_become_46 : decode cX1_become 46 = .ok (.getfield 25, 3) := by decide +kernel
theorem dX1_become_49 : decode cX1_become 49 = .ok (.iconst 0, 1) := by decide +kernel
theorem dX1_become_50 : decode cX1_become 50 = .ok (.aload_n 0, 1) := by decide +kernel
theorem dX1_become_51 : decode cX1_become 51 = .ok (.getfield 25, 3) := by decide +kernel
theorem dX1_become_54 : decode cX1_become 54 = .ok (.iconst 0, 1) := by decide +kernel
theorem dX1_become_55 : decode cX1_become 55 = .ok (.aload_n 1, 1) := by decide +kernel
theorem dX1_become_56 : decode cX1_become 56 = .ok (.getfield 25, 3) := by decide +kernel
theorem dX1_become_59 : decode cX1_become 59 = .ok (.arraylength, 1) := by decide +kernel
theorem dX1_become_60 : decode cX1_become 60 = .ok (.aload_n 0, 1) := by decide +kernel
theorem dX1_become_61 : decode cX1_become 61 = .ok (.getfield 25, 3) := by decide +kernel
theorem dX1_become_64 : decode cX1_become 64 = .ok (.arraylength, 1) := by decide +kernel
theorem dX1_become_65 : decode cX1_become 65 = .ok (.invokestatic 83, 3) := by decide +kernel
theorem dX1_become_68 : decode cX1_become 68 = .ok (.invokestatic 89, 3) := by decide +kernel
theorem dX1_become_71 : decode cX1_become 71 = .ok (.iconst 0, 1) := by decide +kernel
theorem dX1_become_72 : decode cX1_become 72 = .ok (.istore_n 2, 1) := by decide +kernel
theorem dX1_become_73 : decode cX1_become 73 = .ok (.iload_n 2, 1) := by decide +kernel
theorem dX1_become_74 : decode cX1_become 74 = .ok (.aload_n 0, 1) := by decide +kernel
theorem dX1_become_75 : decode cX1_become 75 = .ok (.getfield 30, 3) := by decide +kernel
theorem dX1_become_78 : decode cX1_become 78 = .ok (.arraylength, 1) := by decide +kernel
theorem dX1_become_79 : decode cX1_become 79 = .ok (.if_icmp .ge 22, 3) := by decide +kernel
theorem dX1_become_82 : decode cX1_become 82 = .ok (.aload_n 0, 1) := by decide +kernel
theorem dX1_become_83 : decode cX1_become 83 = .ok (.iload_n 2, 1) := by decide +kernel
theorem dX1_become_84 : decode cX1_become 84 = .ok (.invokevirtual 67, 3) := by decide +kernel
theorem dX1_become_87 : decode cX1_become 87 = .ok (.aload_n 1, 1) := by decide +kernel
theorem dX1_become_88 : decode cX1_become 88 = .ok (.iload_n 2, 1) := by decide +kernel
theorem dX1_become_89 : decode cX1_become 89 = .ok (.invokevirtual 67, 3) := by decide +kernel
theorem dX1_become_92 : decode cX1_become 92 = .ok (.invokevirtual 95, 3) := by decide +kernel
theorem dX1_become_95 : decode cX1_become 95 = .ok (.iinc 2 1, 3) := by decide +kernel
theorem dX1_become_98 : decode cX1_become 98 = .ok (.goto (-25), 3) := by decide +kernel
theorem dX1_become_101 : decode cX1_become 101 = .ok (.aload_n 0, 1) := by decide +kernel
theorem dX1_become_102 : decode cX1_become 102 = .ok (.getfield 41, 3) := by decide +kernel
theorem dX1_become_105 : decode cX1_become 105 = .ok (.aload_n 1, 1) := by decide +kernel
theorem dX1_become_106 : decode cX1_become 106 = .ok (.getfield 41, 3) := by decide +kernel
theorem dX1_become_109 : decode cX1_become 109 = .ok (.invokevirtual 95, 3) := by decide +kernel
theorem dX1_become_112 : decode cX1_become 112 = .ok (.aload_n 1, 1) := by decide +kernel
theorem dX1_become_113 : decode cX1_become 113 = .ok (.getfield 44, 3) := by decide +kernel
theorem dX1_become_116 : decode cX1_become 116 = .ok (.iconst 0, 1) := by decide +kernel
theorem dX1_become_117 : decode cX1_become 117 = .ok (.aload_n 0, 1) := by decide +kernel
theorem dX1_become_118 : decode cX1_become 118 = .ok (.getfield 44, 3) := by decide +kernel
theorem dX1_become_121 : decode cX1_become 121 = .ok (.iconst 0, 1) := by decide +kernel
theorem dX1_become_122 : decode cX1_become 122 = .ok (.aload_n 1, 1) := by decide +kernel
theorem dX1_become_123 : decode cX1_become 123 = .ok (.getfield 44, 3) := by decide +kernel
theorem dX1_become_126 : decode cX1_become 126 = .ok (.arraylength, 1) := by decide +kernel
theorem dX1_become_127 : decode cX1_become 127 = .ok (.aload_n 0, 1) := by decide +kernel
theorem dX1_become_128 : decode cX1_become 128 = .ok (.getfield 44, 3) := by decide +kernel
theorem dX1_become_131 : decode cX1_become 131 = .ok (.arraylength, 1) := by decide +kernel
theorem dX1_become_132 : decode cX1_become 132 = .ok (.invokestatic 83, 3) := by decide +kernel
theorem dX1_become_135 : decode cX1_become 135 = .ok (.invokestatic 89, 3) := by decide +kernel
theorem dX1_become_138 : decode cX1_become 138 = .ok (.aload_n 0, 1) := by decide +kernel
theorem dX1_become_139 : decode cX1_become 139 = .ok (.aload_n 1, 1) := by decide +kernel
theorem dX1_become_140 : decode cX1_become 140 = .ok (.getfield 72, 3) := by decide +kernel
theorem dX1_become_143 : decode cX1_become 143 = .ok (.putfield 72, 3) := by decide +kernel
theorem dX1_become_146 : decode cX1_become 146 = .ok (.return_, 1) := by decide +kernel
theorem dX1_rule_0 : decode cX1_rule 0 = .ok (.iload_n 1, 1) := by decide +kernel
theorem dX1_rule_1 : decode cX1_rule 1 = .ok (.ifCond .lt 21, 3) := by decide +kernel
theorem dX1_rule_4 : decode cX1_rule 4 = .ok (.iload_n 1, 1) := by decide +kernel
theorem dX1_rule_5 : decode cX1_rule 5 = .ok (.aload_n 0, 1) := by decide +kernel
theorem dX1_rule_6 : decode cX1_rule 6 = .ok (.getfield 9, 3) := by decide +kernel
theorem dX1_rule_9 : decode cX1_rule 9 = .ok (.arraylength, 1) := by decide +kernel
theorem dX1_rule_10 : decode cX1_rule 10 = .ok (.if_icmp .ge 12, 3) := by decide +kernel
theorem dX1_rule_13 : decode cX1_rule 13 = .ok (.aload_n 0, 1) := by decide +kernel
theorem dX1_rule_14 : decode cX1_rule 14 = .ok (.getfield 9, 3) := by decide +kernel
theorem dX1_rule_17 : decode cX1_rule 17 = .ok (.iload_n 1, 1) := by decide +kernel
theorem dX1_rule_18 : decode cX1_rule 18 = .ok (.iaload, 1) := by decide +kernel
theorem dX1_rule_19 : decode cX1_rule 19 = .ok (.goto 4, 3) := by decide +kernel
theorem dX1_rule_22 : decode cX1_rule 22 = .ok (.iconst (-1), 1) := by decide +kernel
theorem dX1_rule_23 : decode cX1_rule 23 = .ok (.ireturn, 1) := by decide +kernel
theorem dX1_putRule_0 : decode cX1_putRule 0 = .ok (.iload_n 1, 1) := by decide +kernel
theorem dX1_putRule_1 : decode cX1_putRule 1 = .ok (.ifCond .lt 19, 3) := by decide +kernel
theorem dX1_putRule_4 : decode cX1_putRule 4 = .ok (.iload_n 1, 1) := by decide +kernel
theorem dX1_putRule_5 : decode cX1_putRule 5 = .ok (.aload_n 0, 1) := by decide +kernel
theorem dX1_putRule_6 : decode cX1_putRule 6 = .ok (.getfield 9, 3) := by decide +kernel
theorem dX1_putRule_9 : decode cX1_putRule 9 = .ok (.arraylength, 1) := by decide +kernel
theorem dX1_putRule_10 : decode cX1_putRule 10 = .ok (.if_icmp .ge 10, 3) := by decide +kernel
theorem dX1_putRule_13 : decode cX1_putRule 13 = .ok (.aload_n 0, 1) := by decide +kernel
theorem dX1_putRule_14 : decode cX1_putRule 14 = .ok (.getfield 9, 3) := by decide +kernel
theorem dX1_putRule_17 : decode cX1_putRule 17 = .ok (.iload_n 1, 1) := by decide +kernel
theorem dX1_putRule_18 : decode cX1_putRule 18 = .ok (.iload_n 2, 1) := by decide +kernel
theorem dX1_putRule_19 : decode cX1_putRule 19 = .ok (.iastore, 1) := by decide +kernel
theorem dX1_putRule_20 : decode cX1_putRule 20 = .ok (.return_, 1) := by decide +kernel
theorem dX1_listOf_0 : decode cX1_listOf 0 = .ok (.iload_n 1, 1) := by decide +kernel
theorem dX1_listOf_1 : decode cX1_listOf 1 = .ok (.ifCond .lt 21, 3) := by decide +kernel
theorem dX1_listOf_4 : decode cX1_listOf 4 = .ok (.iload_n 1, 1) := by decide +kernel
theorem dX1_listOf_5 : decode cX1_listOf 5 = .ok (.aload_n 0, 1) := by decide +kernel
theorem dX1_listOf_6 : decode cX1_listOf 6 = .ok (.getfield 30, 3) := by decide +kernel
theorem dX1_listOf_9 : decode cX1_listOf 9 = .ok (.arraylength, 1) := by decide +kernel
theorem dX1_listOf_10 : decode cX1_listOf 10 = .ok (.if_icmp .ge 12, 3) := by decide +kernel
theorem dX1_listOf_13 : decode cX1_listOf 13 = .ok (.aload_n 0, 1) := by decide +kernel
theorem dX1_listOf_14 : decode cX1_listOf 14 = .ok (.getfield 30, 3) := by decide +kernel
theorem dX1_listOf_17 : decode cX1_listOf 17 = .ok (.iload_n 1, 1) := by decide +kernel
theorem dX1_listOf_18 : decode cX1_listOf 18 = .ok (.aaload, 1) := by decide +kernel
theorem dX1_listOf_19 : decode cX1_listOf 19 = .ok (.goto 4, 3) := by decide +kernel
theorem dX1_listOf_22 : decode cX1_listOf 22 = .ok (.aconst_null, 1) := by decide +kernel
theorem dX1_listOf_23 : decode cX1_listOf 23 = .ok (.astore_n 2, 1) := by decide +kernel
theorem dX1_listOf_24 : decode cX1_listOf 24 = .ok (.aload_n 2, 1) := by decide +kernel
theorem dX1_listOf_25 : decode cX1_listOf 25 = .ok (.ifnonnull 10, 3) := by decide +kernel
theorem dX1_listOf_28 : decode cX1_listOf 28 = .ok (.aload_n 0, 1) := by decide +kernel
theorem dX1_listOf_29 : decode cX1_listOf 29 = .ok (.getfield 37, 3) := by decide +kernel
theorem dX1_listOf_32 : decode cX1_listOf 32 = .ok (.goto 4, 3) := by decide +kernel
theorem dX1_listOf_35 : decode cX1_listOf 35 = .ok (.aload_n 2, 1) := by decide +kernel
theorem dX1_listOf_36 : decode cX1_listOf 36 = .ok (.areturn, 1) := by decide +kernel
theorem dX1_trustIn_0 : decode cX1_trustIn 0 = .ok (.iload_n 1, 1) := by decide +kernel
theorem dX1_trustIn_1 : decode cX1_trustIn 1 = .ok (.ifCond .lt 19, 3) := by decide +kernel
theorem dX1_trustIn_4 : decode cX1_trustIn 4 = .ok (.iload_n 1, 1) := by decide +kernel
theorem dX1_trustIn_5 : decode cX1_trustIn 5 = .ok (.bipush 6, 2) := by decide +kernel
theorem dX1_trustIn_7 : decode cX1_trustIn 7 = .ok (.if_icmp .ge 13, 3) := by decide +kernel
theorem dX1_trustIn_10 : decode cX1_trustIn 10 = .ok (.iload_n 2, 1) := by decide +kernel
theorem dX1_trustIn_11 : decode cX1_trustIn 11 = .ok (.ifCond .lt 9, 3) := by decide +kernel
theorem dX1_trustIn_14 : decode cX1_trustIn 14 = .ok (.iload_n 2, 1) := by decide +kernel
theorem dX1_trustIn_15 : decode cX1_trustIn 15 = .ok (.bipush 6, 2) := by decide +kernel
theorem dX1_trustIn_17 : decode cX1_trustIn 17 = .ok (.if_icmp .lt 5, 3) := by decide +kernel
theorem dX1_trustIn_20 : decode cX1_trustIn 20 = .ok (.iconst (-1), 1) := by decide +kernel
theorem dX1_trustIn_21 : decode cX1_trustIn 21 = .ok (.ireturn, 1) := by decide +kernel
theorem dX1_trustIn_22 : decode cX1_trustIn 22 = .ok (.iload_n 1, 1) := by decide +kernel
theorem dX1_trustIn_23 : decode cX1_trustIn 23 = .ok (.bipush 6, 2) := by decide +kernel
theorem dX1_trustIn_25 : decode cX1_trustIn 25 = .ok (.imul, 1) := by decide +kernel
theorem dX1_trustIn_26 : decode cX1_trustIn 26 = .ok (.iload_n 2, 1) := by decide +kernel
theorem dX1_trustIn_27 : decode cX1_trustIn 27 = .ok (.iadd, 1) := by decide +kernel
theorem dX1_trustIn_28 : decode cX1_trustIn 28 = .ok (.istore_n 3, 1) := by decide +kernel
theorem dX1_trustIn_29 : decode cX1_trustIn 29 = .ok (.iload_n 3, 1) := by decide +kernel
theorem dX1_trustIn_30 : decode cX1_trustIn 30 = .ok (.aload_n 0, 1) := by decide +kernel
theorem dX1_trustIn_31 : decode cX1_trustIn 31 = .ok (.getfield 25, 3) := by decide +kernel
theorem dX1_trustIn_34 : decode cX1_trustIn 34 = .ok (.arraylength, 1) := by decide +kernel
theorem dX1_trustIn_35 : decode cX1_trustIn 35 = .ok (.if_icmp .ge 12, 3) := by decide +kernel
theorem dX1_trustIn_38 : decode cX1_trustIn 38 = .ok (.aload_n 0, 1) := by decide +kernel
theorem dX1_trustIn_39 : decode cX1_trustIn 39 = .ok (.getfield 25, 3) := by decide +kernel
theorem dX1_trustIn_42 : decode cX1_trustIn 42 = .ok (.iload_n 3, 1) := by decide +kernel
theorem dX1_trustIn_43 : decode cX1_trustIn 43 = .ok (.iaload, 1) := by decide +kernel
theorem dX1_trustIn_44 : decode cX1_trustIn 44 = .ok (.goto 4, 3) := by decide +kernel
theorem dX1_trustIn_47 : decode cX1_trustIn 47 = .ok (.iconst (-1), 1) := by decide +kernel
theorem dX1_trustIn_48 : decode cX1_trustIn 48 = .ok (.ireturn, 1) := by decide +kernel
theorem dX1_putTrust_0 : decode cX1_putTrust 0 = .ok (.iload_n 1, 1) := by decide +kernel
theorem dX1_putTrust_1 : decode cX1_putTrust 1 = .ok (.ifCond .lt 19, 3) := by decide +kernel
theorem dX1_putTrust_4 : decode cX1_putTrust 4 = .ok (.iload_n 1, 1) := by decide +kernel
theorem dX1_putTrust_5 : decode cX1_putTrust 5 = .ok (.bipush 6, 2) := by decide +kernel
theorem dX1_putTrust_7 : decode cX1_putTrust 7 = .ok (.if_icmp .ge 13, 3) := by decide +kernel
theorem dX1_putTrust_10 : decode cX1_putTrust 10 = .ok (.iload_n 2, 1) := by decide +kernel
theorem dX1_putTrust_11 : decode cX1_putTrust 11 = .ok (.ifCond .lt 9, 3) := by decide +kernel
theorem dX1_putTrust_14 : decode cX1_putTrust 14 = .ok (.iload_n 2, 1) := by decide +kernel
theorem dX1_putTrust_15 : decode cX1_putTrust 15 = .ok (.bipush 6, 2) := by decide +kernel
theorem dX1_putTrust_17 : decode cX1_putTrust 17 = .ok (.if_icmp .lt 4, 3) := by decide +kernel
theorem dX1_putTrust_20 : decode cX1_putTrust 20 = .ok (.return_, 1) := by decide +kernel
theorem dX1_putTrust_21 : decode cX1_putTrust 21 = .ok (.iload_n 1, 1) := by decide +kernel
theorem dX1_putTrust_22 : decode cX1_putTrust 22 = .ok (.bipush 6, 2) := by decide +kernel
theorem dX1_putTrust_24 : decode cX1_putTrust 24 = .ok (.imul, 1) := by decide +kernel
theorem dX1_putTrust_25 : decode cX1_putTrust 25 = .ok (.iload_n 2, 1) := by decide +kernel
theorem dX1_putTrust_26 : decode cX1_putTrust 26 = .ok (.iadd, 1) := by decide +kernel
theorem dX1_putTrust_27 : decode cX1_putTrust 27 = .ok (.istore 4, 2) := by decide +kernel
theorem dX1_putTrust_29 : decode cX1_putTrust 29 = .ok (.iload 4, 2) := by decide +kernel
theorem dX1_putTrust_31 : decode cX1_putTrust 31 = .ok (.aload_n 0, 1) := by decide +kernel
theorem dX1_putTrust_32 : decode cX1_putTrust 32 = .ok (.getfield 25, 3) := by decide +kernel
theorem dX1_putTrust_35 : decode cX1_putTrust 35 = .ok (.arraylength, 1) := by decide +kernel
theorem dX1_putTrust_36 : decode cX1_putTrust 36 = .ok (.if_icmp .ge 11, 3) := by decide +kernel
theorem dX1_putTrust_39 : decode cX1_putTrust 39 = .ok (.aload_n 0, 1) := by decide +kernel
theorem dX1_putTrust_40 : decode cX1_putTrust 40 = .ok (.getfield 25, 3) := by decide +kernel
theorem dX1_putTrust_43 : decode cX1_putTrust 43 = .ok (.iload 4, 2) := by decide +kernel
theorem dX1_putTrust_45 : decode cX1_putTrust 45 = .ok (.iload_n 3, 1) := by decide +kernel
theorem dX1_putTrust_46 : decode cX1_putTrust 46 = .ok (.iastore, 1) := by decide +kernel
theorem dX1_putTrust_47 : decode cX1_putTrust 47 = .ok (.return_, 1) := by decide +kernel
theorem dX1_isLinked_0 : decode cX1_isLinked 0 = .ok (.aload_n 0, 1) := by decide +kernel
theorem dX1_isLinked_1 : decode cX1_isLinked 1 = .ok (.iload_n 1, 1) := by decide +kernel
theorem dX1_isLinked_2 : decode cX1_isLinked 2 = .ok (.iload_n 2, 1) := by decide +kernel
theorem dX1_isLinked_3 : decode cX1_isLinked 3 = .ok (.invokevirtual 98, 3) := by decide +kernel
theorem dX1_isLinked_6 : decode cX1_isLinked 6 = .ok (.iconst (-1), 1) := by decide +kernel
theorem dX1_isLinked_7 : decode cX1_isLinked 7 = .ok (.if_icmp .eq 7, 3) := by decide +kernel
theorem dX1_isLinked_10 : decode cX1_isLinked 10 = .ok (.iconst 1, 1) := by decide +kernel
theorem dX1_isLinked_11 : decode cX1_isLinked 11 = .ok (.goto 4, 3) := by decide +kernel
theorem dX1_isLinked_14 : decode cX1_isLinked 14 = .ok (.iconst 0, 1) := by decide +kernel
theorem dX1_isLinked_15 : decode cX1_isLinked 15 = .ok (.ireturn, 1) := by decide +kernel
theorem dX1_linkCount_0 : decode cX1_linkCount 0 = .ok (.iconst 0, 1) := by decide +kernel
theorem dX1_linkCount_1 : decode cX1_linkCount 1 = .ok (.istore_n 1, 1) := by decide +kernel
theorem dX1_linkCount_2 : decode cX1_linkCount 2 = .ok (.iconst 0, 1) := by decide +kernel
theorem dX1_linkCount_3 : decode cX1_linkCount 3 = .ok (.istore_n 2, 1) := by decide +kernel
theorem dX1_linkCount_4 : decode cX1_linkCount 4 = .ok (.iload_n 2, 1) := by decide +kernel
theorem dX1_linkCount_5 : decode cX1_linkCount 5 = .ok (.aload_n 0, 1) := by decide +kernel
theorem dX1_linkCount_6 : decode cX1_linkCount 6 = .ok (.getfield 18, 3) := by decide +kernel
theorem dX1_linkCount_9 : decode cX1_linkCount 9 = .ok (.getfield 57, 3) := by decide +kernel
theorem dX1_linkCount_12 : decode cX1_linkCount 12 = .ok (.if_icmp .ge 42, 3) := by decide +kernel
theorem dX1_linkCount_15 : decode cX1_linkCount 15 = .ok (.iload_n 2, 1) := by decide +kernel
theorem dX1_linkCount_16 : decode cX1_linkCount 16 = .ok (.iconst 1, 1) := by decide +kernel
theorem dX1_linkCount_17 : decode cX1_linkCount 17 = .ok (.iadd, 1) := by decide +kernel
theorem dX1_linkCount_18 : decode cX1_linkCount 18 = .ok (.istore_n 3, 1) := by decide +kernel
theorem dX1_linkCount_19 : decode cX1_linkCount 19 = .ok (.iload_n 3, 1) := by decide +kernel
theorem dX1_linkCount_20 : decode cX1_linkCount 20 = .ok (.aload_n 0, 1) := by decide +kernel
theorem dX1_linkCount_21 : decode cX1_linkCount 21 = .ok (.getfield 18, 3) := by decide +kernel
theorem dX1_linkCount_24 : decode cX1_linkCount 24 = .ok (.getfield 57, 3) := by decide +kernel
theorem dX1_linkCount_27 : decode cX1_linkCount 27 = .ok (.if_icmp .ge 21, 3) := by decide +kernel
theorem dX1_linkCount_30 : decode cX1_linkCount 30 = .ok (.aload_n 0, 1) := by decide +kernel
theorem dX1_linkCount_31 : decode cX1_linkCount 31 = .ok (.iload_n 2, 1) := by decide +kernel
theorem dX1_linkCount_32 : decode cX1_linkCount 32 = .ok (.iload_n 3, 1) := by decide +kernel
theorem dX1_linkCount_33 : decode cX1_linkCount 33 = .ok (.invokevirtual 101, 3) := by decide +kernel
theorem dX1_linkCount_36 : decode cX1_linkCount 36 = .ok (.ifCond .eq 6, 3) := by decide +kernel
theorem dX1_linkCount_39 : decode cX1_linkCount 39 = .ok (.iinc 1 1, 3) := by decide +kernel
theorem dX1_linkCount_42 : decode cX1_linkCount 42 = .ok (.iinc 3 1, 3) := by decide +kernel
theorem dX1_linkCount_45 : decode cX1_linkCount 45 = .ok (.goto (-26), 3) := by decide +kernel
theorem dX1_linkCount_48 : decode cX1_linkCount 48 = .ok (.iinc 2 1, 3) := by decide +kernel
theorem dX1_linkCount_51 : decode cX1_linkCount 51 = .ok (.goto (-47), 3) := by decide +kernel
theorem dX1_linkCount_54 : decode cX1_linkCount 54 = .ok (.iload_n 1, 1) := by decide +kernel
theorem dX1_linkCount_55 : decode cX1_linkCount 55 = .ok (.ireturn, 1) := by decide +kernel
theorem dX1_tally_0 : decode cX1_tally 0 = .ok (.iload_n 1, 1) := by decide +kernel
theorem dX1_tally_1 : decode cX1_tally 1 = .ok (.iload_n 2, 1) := by decide +kernel
theorem dX1_tally_2 : decode cX1_tally 2 = .ok (.invokestatic 108, 3) := by decide +kernel
theorem dX1_tally_5 : decode cX1_tally 5 = .ok (.istore_n 3, 1) := by decide +kernel
theorem dX1_tally_6 : decode cX1_tally 6 = .ok (.iload_n 3, 1) := by decide +kernel
theorem dX1_tally_7 : decode cX1_tally 7 = .ok (.ifCond .lt 22, 3) := by decide +kernel
theorem dX1_tally_10 : decode cX1_tally 10 = .ok (.iload_n 3, 1) := by decide +kernel
theorem dX1_tally_11 : decode cX1_tally 11 = .ok (.aload_n 0, 1) := by decide +kernel
theorem dX1_tally_12 : decode cX1_tally 12 = .ok (.getfield 44, 3) := by decide +kernel
theorem dX1_tally_15 : decode cX1_tally 15 = .ok (.arraylength, 1) := by decide +kernel
theorem dX1_tally_16 : decode cX1_tally 16 = .ok (.if_icmp .ge 13, 3) := by decide +kernel
theorem dX1_tally_19 : decode cX1_tally 19 = .ok (.aload_n 0, 1) := by decide +kernel
theorem dX1_tally_20 : decode cX1_tally 20 = .ok (.getfield 44, 3) := by decide +kernel
theorem dX1_tally_23 : decode cX1_tally 23 = .ok (.iload_n 3, 1) := by decide +kernel
theorem dX1_tally_24 : decode cX1_tally 24 = .ok (.dup2, 1) := by decide +kernel
theorem dX1_tally_25 : decode cX1_tally 25 = .ok (.iaload, 1) := by decide +kernel
theorem dX1_tally_26 : decode cX1_tally 26 = .ok (.iconst 1, 1) := by decide +kernel
theorem dX1_tally_27 : decode cX1_tally 27 = .ok (.iadd, 1) := by decide +kernel
theorem dX1_tally_28 : decode cX1_tally 28 = .ok (.iastore, 1) := by decide +kernel
theorem dX1_tally_29 : decode cX1_tally 29 = .ok (.return_, 1) := by decide +kernel
theorem dX1_accountPlace_0 : decode cX1_accountPlace 0 = .ok (.iload_n 0, 1) := by decide +kernel
theorem dX1_accountPlace_1 : decode cX1_accountPlace 1 = .ok (.ifCond .lt 22, 3) := by decide +kernel
theorem dX1_accountPlace_4 : decode cX1_accountPlace 4 = .ok (.iload_n 0, 1) := by decide +kernel
theorem dX1_accountPlace_5 : decode cX1_accountPlace 5 = .ok (.bipush 6, 2) := by decide +kernel
theorem dX1_accountPlace_7 : decode cX1_accountPlace 7 = .ok (.if_icmp .ge 16, 3) := by decide +kernel
theorem dX1_accountPlace_10 : decode cX1_accountPlace 10 = .ok (.iload_n 1, 1) := by decide +kernel
theorem dX1_accountPlace_11 : decode cX1_accountPlace 11 = .ok (.ifCond .lt 12, 3) := by decide +kernel
theorem dX1_accountPlace_14 : decode cX1_accountPlace 14 = .ok (.iload_n 1, 1) := by decide +kernel
theorem dX1_accountPlace_15 : decode cX1_accountPlace 15 = .ok (.iconst 5, 1) := by decide +kernel
theorem dX1_accountPlace_16 : decode cX1_accountPlace 16 = .ok (.if_icmp .ge 7, 3) := by decide +kernel
theorem dX1_accountPlace_19 : decode cX1_accountPlace 19 = .ok (.iconst 1, 1) := by decide +kernel
theorem dX1_accountPlace_20 : decode cX1_accountPlace 20 = .ok (.goto 4, 3) := by decide +kernel
theorem dX1_accountPlace_23 : decode cX1_accountPlace 23 = .ok (.iconst 0, 1) := by decide +kernel
theorem dX1_accountPlace_24 : decode cX1_accountPlace 24 = .ok (.istore_n 2, 1) := by decide +kernel
theorem dX1_accountPlace_25 : decode cX1_accountPlace 25 = .ok (.iload_n 2, 1) := by decide +kernel
theorem dX1_accountPlace_26 : decode cX1_accountPlace 26 = .ok (.ifCond .eq 11, 3) := by decide +kernel
theorem dX1_accountPlace_29 : decode cX1_accountPlace 29 = .ok (.iload_n 0, 1) := by decide +kernel
theorem dX1_accountPlace_30 : decode cX1_accountPlace 30 = .ok (.iconst 5, 1) := by decide +kernel
theorem dX1_accountPlace_31 : decode cX1_accountPlace 31 = .ok (.imul, 1) := by decide +kernel
theorem dX1_accountPlace_32 : decode cX1_accountPlace 32 = .ok (.iload_n 1, 1) := by decide +kernel
theorem dX1_accountPlace_33 : decode cX1_accountPlace 33 = .ok (.iadd, 1) := by decide +kernel
theorem dX1_accountPlace_34 : decode cX1_accountPlace 34 = .ok (.goto 4, 3) := by decide +kernel
theorem dX1_accountPlace_37 : decode cX1_accountPlace 37 = .ok (.iconst (-1), 1) := by decide +kernel
theorem dX1_accountPlace_38 : decode cX1_accountPlace 38 = .ok (.ireturn, 1) := by decide +kernel
theorem dX1_isTooOld_0 : decode cX1_isTooOld 0 = .ok (.aload_n 0, 1) := by decide +kernel
theorem dX1_isTooOld_1 : decode cX1_isTooOld 1 = .ok (.getfield 72, 3) := by decide +kernel
theorem dX1_isTooOld_4 : decode cX1_isTooOld 4 = .ok (.aload_n 1, 1) := by decide +kernel
theorem dX1_isTooOld_5 : decode cX1_isTooOld 5 = .ok (.iload_n 2, 1) := by decide +kernel
theorem dX1_isTooOld_6 : decode cX1_isTooOld 6 = .ok (.iconst 4, 1) := by decide +kernel
theorem dX1_isTooOld_7 : decode cX1_isTooOld 7 = .ok (.invokevirtual 111, 3) := by decide +kernel
theorem dX1_isTooOld_10 : decode cX1_isTooOld 10 = .ok (.isub, 1) := by decide +kernel
theorem dX1_isTooOld_11 : decode cX1_isTooOld 11 = .ok (.aload_n 0, 1) := by decide +kernel
theorem dX1_isTooOld_12 : decode cX1_isTooOld 12 = .ok (.iconst 3, 1) := by decide +kernel
theorem dX1_isTooOld_13 : decode cX1_isTooOld 13 = .ok (.invokevirtual 75, 3) := by decide +kernel
theorem dX1_isTooOld_16 : decode cX1_isTooOld 16 = .ok (.if_icmp .le 7, 3) := by decide +kernel
theorem dX1_isTooOld_19 : decode cX1_isTooOld 19 = .ok (.iconst 1, 1) := by decide +kernel
theorem dX1_isTooOld_20 : decode cX1_isTooOld 20 = .ok (.goto 4, 3) := by decide +kernel
theorem dX1_isTooOld_23 : decode cX1_isTooOld 23 = .ok (.iconst 0, 1) := by decide +kernel
theorem dX1_isTooOld_24 : decode cX1_isTooOld 24 = .ok (.ireturn, 1) := by decide +kernel
theorem dX1_driftOf_0 : decode cX1_driftOf 0 = .ok (.aload_n 0, 1) := by decide +kernel
theorem dX1_driftOf_1 : decode cX1_driftOf 1 = .ok (.iconst 0, 1) := by decide +kernel
theorem dX1_driftOf_2 : decode cX1_driftOf 2 = .ok (.invokevirtual 75, 3) := by decide +kernel
theorem dX1_driftOf_5 : decode cX1_driftOf 5 = .ok (.aload_n 0, 1) := by decide +kernel
theorem dX1_driftOf_6 : decode cX1_driftOf 6 = .ok (.getfield 72, 3) := by decide +kernel
theorem dX1_driftOf_9 : decode cX1_driftOf 9 = .ok (.aload_n 1, 1) := by decide +kernel
theorem dX1_driftOf_10 : decode cX1_driftOf 10 = .ok (.iload_n 2, 1) := by decide +kernel
theorem dX1_driftOf_11 : decode cX1_driftOf 11 = .ok (.iconst 4, 1) := by decide +kernel
theorem dX1_driftOf_12 : decode cX1_driftOf 12 = .ok (.invokevirtual 111, 3) := by decide +kernel
theorem dX1_driftOf_15 : decode cX1_driftOf 15 = .ok (.isub, 1) := by decide +kernel
theorem dX1_driftOf_16 : decode cX1_driftOf 16 = .ok (.imul, 1) := by decide +kernel
theorem dX1_driftOf_17 : decode cX1_driftOf 17 = .ok (.ireturn, 1) := by decide +kernel
theorem dX1_beliefSpread_0 : decode cX1_beliefSpread 0 = .ok (.aload_n 0, 1) := by decide +kernel
theorem dX1_beliefSpread_1 : decode cX1_beliefSpread 1 = .ok (.iload_n 1, 1) := by decide +kernel
theorem dX1_beliefSpread_2 : decode cX1_beliefSpread 2 = .ok (.invokevirtual 67, 3) := by decide +kernel
theorem dX1_beliefSpread_5 : decode cX1_beliefSpread 5 = .ok (.astore_n 3, 1) := by decide +kernel
theorem dX1_beliefSpread_6 : decode cX1_beliefSpread 6 = .ok (.aload_n 3, 1) := by decide +kernel
theorem dX1_beliefSpread_7 : decode cX1_beliefSpread 7 = .ok (.iload_n 2, 1) := by decide +kernel
theorem dX1_beliefSpread_8 : decode cX1_beliefSpread 8 = .ok (.iconst 1, 1) := by decide +kernel
theorem dX1_beliefSpread_9 : decode cX1_beliefSpread 9 = .ok (.invokevirtual 111, 3) := by decide +kernel
theorem dX1_beliefSpread_12 : decode cX1_beliefSpread 12 = .ok (.istore 4, 2) := by decide +kernel
theorem dX1_beliefSpread_14 : decode cX1_beliefSpread 14 = .ok (.aload_n 0, 1) := by decide +kernel
theorem dX1_beliefSpread_15 : decode cX1_beliefSpread 15 = .ok (.aload_n 3, 1) := by decide +kernel
theorem dX1_beliefSpread_16 : decode cX1_beliefSpread 16 = .ok (.iload_n 2, 1) := by decide +kernel
theorem dX1_beliefSpread_17 : decode cX1_beliefSpread 17 = .ok (.invokevirtual 114, 3) := by decide +kernel
theorem dX1_beliefSpread_20 : decode cX1_beliefSpread 20 = .ok (.istore 5, 2) := by decide +kernel
theorem dX1_beliefSpread_22 : decode cX1_beliefSpread 22 = .ok (.iload 4, 2) := by decide +kernel
theorem dX1_beliefSpread_24 : decode cX1_beliefSpread 24 = .ok (.iload_n 1, 1) := by decide +kernel
theorem dX1_beliefSpread_25 : decode cX1_beliefSpread 25 = .ok (.if_icmp .ne 6, 3) := by decide +kernel
theorem dX1_beliefSpread_28 : decode cX1_beliefSpread 28 = .ok (.iload 5, 2) := by decide +kernel
theorem dX1_beliefSpread_30 : decode cX1_beliefSpread 30 = .ok (.ireturn, 1) := by decide +kernel
theorem dX1_beliefSpread_31 : decode cX1_beliefSpread 31 = .ok (.iload 5, 2) := by decide +kernel
theorem dX1_beliefSpread_33 : decode cX1_beliefSpread 33 = .ok (.aload_n 0, 1) := by decide +kernel
theorem dX1_beliefSpread_34 : decode cX1_beliefSpread 34 = .ok (.iconst 1, 1) := by decide +kernel
theorem dX1_beliefSpread_35 : decode cX1_beliefSpread 35 = .ok (.invokevirtual 75, 3) := by decide +kernel
theorem dX1_beliefSpread_38 : decode cX1_beliefSpread 38 = .ok (.bipush 10, 2) := by decide +kernel
theorem dX1_beliefSpread_40 : decode cX1_beliefSpread 40 = .ok (.aload_n 0, 1) := by decide +kernel
theorem dX1_beliefSpread_41 : decode cX1_beliefSpread 41 = .ok (.iload_n 1, 1) := by decide +kernel
theorem dX1_beliefSpread_42 : decode cX1_beliefSpread 42 = .ok (.iload 4, 2) := by decide +kernel
theorem dX1_beliefSpread_44 : decode cX1_beliefSpread 44 = .ok (.invokevirtual 98, 3) := by decide +kernel
theorem dX1_beliefSpread_47 : decode cX1_beliefSpread 47 = .ok (.isub, 1) := by decide +kernel
theorem dX1_beliefSpread_48 : decode cX1_beliefSpread 48 = .ok (.imul, 1) := by decide +kernel
theorem dX1_beliefSpread_49 : decode cX1_beliefSpread 49 = .ok (.aload_n 3, 1) := by decide +kernel
theorem dX1_beliefSpread_50 : decode cX1_beliefSpread 50 = .ok (.iload_n 2, 1) := by decide +kernel
theorem dX1_beliefSpread_51 : decode cX1_beliefSpread 51 = .ok (.iconst 2, 1) := by decide +kernel
theorem dX1_beliefSpread_52 : decode cX1_beliefSpread 52 = .ok (.invokevirtual 111, 3) := by decide +kernel
theorem dX1_beliefSpread_55 : decode cX1_beliefSpread 55 = .ok (.imul, 1) := by decide +kernel
theorem dX1_beliefSpread_56 : decode cX1_beliefSpread 56 = .ok (.iadd, 1) := by decide +kernel
theorem dX1_beliefSpread_57 : decode cX1_beliefSpread 57 = .ok (.ireturn, 1) := by decide +kernel
theorem dX1_makeProbe_0 : decode cX1_makeProbe 0 = .ok (.aload_n 0, 1) := by decide +kernel
theorem dX1_makeProbe_1 : decode cX1_makeProbe 1 = .ok (.iload_n 1, 1) := by decide +kernel
theorem dX1_makeProbe_2 : decode cX1_makeProbe 2 = .ok (.invokevirtual 67, 3) := by decide +kernel
theorem dX1_makeProbe_5 : decode cX1_makeProbe 5 = .ok (.astore 5, 2) := by decide +kernel
theorem dX1_makeProbe_7 : decode cX1_makeProbe 7 = .ok (.aload 5, 2) := by decide +kernel
theorem dX1_makeProbe_9 : decode cX1_makeProbe 9 = .ok (.aload 5, 2) := by decide +kernel
theorem dX1_makeProbe_11 : decode cX1_makeProbe 11 = .ok (.iload_n 1, 1) := by decide +kernel
theorem dX1_makeProbe_12 : decode cX1_makeProbe 12 = .ok (.iload_n 2, 1) := by decide +kernel
theorem dX1_makeProbe_13 : decode cX1_makeProbe 13 = .ok (.invokevirtual 118, 3) := by decide +kernel
theorem dX1_makeProbe_16 : decode cX1_makeProbe 16 = .ok (.invokevirtual 121, 3) := by decide +kernel
theorem dX1_makeProbe_19 : decode cX1_makeProbe 19 = .ok (.aload 5, 2) := by decide +kernel
theorem dX1_makeProbe_21 : decode cX1_makeProbe 21 = .ok (.invokevirtual 124, 3) := by decide +kernel
theorem dX1_makeProbe_24 : decode cX1_makeProbe 24 = .ok (.istore 6, 2) := by decide +kernel
theorem dX1_makeProbe_26 : decode cX1_makeProbe 26 = .ok (.aload 5, 2) := by decide +kernel
theorem dX1_makeProbe_28 : decode cX1_makeProbe 28 = .ok (.iload 6, 2) := by decide +kernel
theorem dX1_makeProbe_30 : decode cX1_makeProbe 30 = .ok (.iconst 0, 1) := by decide +kernel
theorem dX1_makeProbe_31 : decode cX1_makeProbe 31 = .ok (.iload_n 1, 1) := by decide +kernel
theorem dX1_makeProbe_32 : decode cX1_makeProbe 32 = .ok (.invokevirtual 128, 3) := by decide +kernel
theorem dX1_makeProbe_35 : decode cX1_makeProbe 35 = .ok (.aload 5, 2) := by decide +kernel
theorem dX1_makeProbe_37 : decode cX1_makeProbe 37 = .ok (.iload 6, 2) := by decide +kernel
theorem dX1_makeProbe_39 : decode cX1_makeProbe 39 = .ok (.iconst 1, 1) := by decide +kernel
theorem dX1_makeProbe_40 : decode cX1_makeProbe 40 = .ok (.iload_n 1, 1) := by decide +kernel
theorem dX1_makeProbe_41 : decode cX1_makeProbe 41 = .ok (.invokevirtual 128, 3) := by decide +kernel
theorem dX1_makeProbe_44 : decode cX1_makeProbe 44 = .ok (.aload 5, 2) := by decide +kernel
theorem dX1_makeProbe_46 : decode cX1_makeProbe 46 = .ok (.iload 6, 2) := by decide +kernel
theorem dX1_makeProbe_48 : decode cX1_makeProbe 48 = .ok (.iconst 2, 1) := by decide +kernel
theorem dX1_makeProbe_49 : decode cX1_makeProbe 49 = .ok (.iconst 0, 1) := by decide +kernel
theorem dX1_makeProbe_50 : decode cX1_makeProbe 50 = .ok (.invokevirtual 128, 3) := by decide +kernel
theorem dX1_makeProbe_53 : decode cX1_makeProbe 53 = .ok (.aload 5, 2) := by decide +kernel
theorem dX1_makeProbe_55 : decode cX1_makeProbe 55 = .ok (.iload 6, 2) := by decide +kernel
theorem dX1_makeProbe_57 : decode cX1_makeProbe 57 = .ok (.iconst 3, 1) := by decide +kernel
theorem dX1_makeProbe_58 : decode cX1_makeProbe 58 = .ok (.iload_n 2, 1) := by decide +kernel
theorem dX1_makeProbe_59 : decode cX1_makeProbe 59 = .ok (.invokevirtual 128, 3) := by decide +kernel
theorem dX1_makeProbe_62 : decode cX1_makeProbe 62 = .ok (.aload 5, 2) := by decide +kernel
theorem dX1_makeProbe_64 : decode cX1_makeProbe 64 = .ok (.iload 6, 2) := by decide +kernel
theorem dX1_makeProbe_66 : decode cX1_makeProbe 66 = .ok (.iconst 4, 1) := by decide +kernel
theorem dX1_makeProbe_67 : decode cX1_makeProbe 67 = .ok (.aload_n 0, 1) := by decide +kernel
theorem dX1_makeProbe_68 : decode cX1_makeProbe 68 = .ok (.getfield 72, 3) := by decide +kernel
theorem dX1_makeProbe_71 : decode cX1_makeProbe 71 = .ok (.invokevirtual 128, 3) := by decide +kernel
theorem dX1_makeProbe_74 : decode cX1_makeProbe 74 = .ok (.aload 5, 2) := by decide +kernel
theorem dX1_makeProbe_76 : decode cX1_makeProbe 76 = .ok (.iload 6, 2) := by decide +kernel
theorem dX1_makeProbe_78 : decode cX1_makeProbe 78 = .ok (.iconst 5, 1) := by decide +kernel
theorem dX1_makeProbe_79 : decode cX1_makeProbe 79 = .ok (.iload_n 3, 1) := by decide +kernel
theorem dX1_makeProbe_80 : decode cX1_makeProbe 80 = .ok (.invokevirtual 128, 3) := by decide +kernel
theorem dX1_makeProbe_83 : decode cX1_makeProbe 83 = .ok (.aload 5, 2) := by decide +kernel
theorem dX1_makeProbe_85 : decode cX1_makeProbe 85 = .ok (.iload 6, 2) := by decide +kernel
theorem dX1_makeProbe_87 : decode cX1_makeProbe 87 = .ok (.bipush 6, 2) := by decide +kernel
theorem dX1_makeProbe_89 : decode cX1_makeProbe 89 = .ok (.iload 4, 2) := by decide +kernel
theorem dX1_makeProbe_91 : decode cX1_makeProbe 91 = .ok (.invokevirtual 128, 3) := by decide +kernel
theorem dX1_makeProbe_94 : decode cX1_makeProbe 94 = .ok (.aload_n 0, 1) := by decide +kernel
theorem dX1_makeProbe_95 : decode cX1_makeProbe 95 = .ok (.iload_n 1, 1) := by decide +kernel
theorem dX1_makeProbe_96 : decode cX1_makeProbe 96 = .ok (.iconst 0, 1) := by decide +kernel
theorem dX1_makeProbe_97 : decode cX1_makeProbe 97 = .ok (.invokevirtual 132, 3) := by decide +kernel
theorem dX1_makeProbe_100 : decode cX1_makeProbe 100 = .ok (.iconst 0, 1) := by decide +kernel
theorem dX1_makeProbe_101 : decode cX1_makeProbe 101 = .ok (.istore 7, 2) := by decide +kernel
theorem dX1_makeProbe_103 : decode cX1_makeProbe 103 = .ok (.iconst 0, 1) := by decide +kernel
theorem dX1_makeProbe_104 : decode cX1_makeProbe 104 = .ok (.istore 8, 2) := by decide +kernel
theorem dX1_makeProbe_106 : decode cX1_makeProbe 106 = .ok (.iload 8, 2) := by decide +kernel
theorem dX1_makeProbe_108 : decode cX1_makeProbe 108 = .ok (.iload 6, 2) := by decide +kernel
theorem dX1_makeProbe_110 : decode cX1_makeProbe 110 = .ok (.if_icmp .ge 36, 3) := by decide +kernel
theorem dX1_makeProbe_113 : decode cX1_makeProbe 113 = .ok (.aload 5, 2) := by decide +kernel
theorem dX1_makeProbe_115 : decode cX1_makeProbe 115 = .ok (.iload 8, 2) := by decide +kernel
theorem dX1_makeProbe_117 : decode cX1_makeProbe 117 = .ok (.iconst 3, 1) := by decide +kernel
theorem dX1_makeProbe_118 : decode cX1_makeProbe 118 = .ok (.invokevirtual 111, 3) := by decide +kernel
theorem dX1_makeProbe_121 : decode cX1_makeProbe 121 = .ok (.iload_n 2, 1) := by decide +kernel
theorem dX1_makeProbe_122 : decode cX1_makeProbe 122 = .ok (.if_icmp .ne 18, 3) := by decide +kernel
theorem dX1_makeProbe_125 : decode cX1_makeProbe 125 = .ok (.aload_n 0, 1) := by decide +kernel
theorem dX1_makeProbe_126 : decode cX1_makeProbe 126 = .ok (.iload_n 1, 1) := by decide +kernel
theorem dX1_makeProbe_127 : decode cX1_makeProbe 127 = .ok (.iload 8, 2) := by decide +kernel
theorem dX1_makeProbe_129 : decode cX1_makeProbe 129 = .ok (.iload 6, 2) := by decide +kernel
theorem dX1_makeProbe_131 : decode cX1_makeProbe 131 = .ok (.invokevirtual 135, 3) := by decide +kernel
theorem dX1_makeProbe_134 : decode cX1_makeProbe 134 = .ok (.ifCond .eq 6, 3) := by decide +kernel
theorem dX1_makeProbe_137 : decode cX1_makeProbe 137 = .ok (.iinc 7 1, 3) := by decide +kernel
theorem dX1_makeProbe_140 : decode cX1_makeProbe 140 = .ok (.iinc 8 1, 3) := by decide +kernel
theorem dX1_makeProbe_143 : decode cX1_makeProbe 143 = .ok (.goto (-37), 3) := by decide +kernel
theorem dX1_makeProbe_146 : decode cX1_makeProbe 146 = .ok (.iload 7, 2) := by decide +kernel
theorem dX1_makeProbe_148 : decode cX1_makeProbe 148 = .ok (.ireturn, 1) := by decide +kernel
theorem dX1_judge_0 : decode cX1_judge 0 = .ok (.aload_n 0, 1) := by decide +kernel
theorem dX1_judge_1 : decode cX1_judge 1 = .ok (.iload_n 1, 1) := by decide +kernel
theorem dX1_judge_2 : decode cX1_judge 2 = .ok (.invokevirtual 67, 3) := by decide +kernel
theorem dX1_judge_5 : decode cX1_judge 5 = .ok (.astore 4, 2) := by decide +kernel
theorem dX1_judge_7 : decode cX1_judge 7 = .ok (.aload 4, 2) := by decide +kernel
theorem dX1_judge_9 : decode cX1_judge 9 = .ok (.iload_n 2, 1) := by decide +kernel
theorem dX1_judge_10 : decode cX1_judge 10 = .ok (.iconst 1, 1) := by decide +kernel
theorem dX1_judge_11 : decode cX1_judge 11 = .ok (.invokevirtual 111, 3) := by decide +kernel
theorem dX1_judge_14 : decode cX1_judge 14 = .ok (.istore 5, 2) := by decide +kernel
theorem dX1_judge_16 : decode cX1_judge 16 = .ok (.aload_n 0, 1) := by decide +kernel
theorem dX1_judge_17 : decode cX1_judge 17 = .ok (.iload_n 1, 1) := by decide +kernel
theorem dX1_judge_18 : decode cX1_judge 18 = .ok (.iload 5, 2) := by decide +kernel
theorem dX1_judge_20 : decode cX1_judge 20 = .ok (.invokevirtual 101, 3) := by decide +kernel
theorem dX1_judge_23 : decode cX1_judge 23 = .ok (.ifCond .ne 5, 3) := by decide +kernel
theorem dX1_judge_26 : decode cX1_judge 26 = .ok (.iconst 0, 1) := by decide +kernel
theorem dX1_judge_27 : decode cX1_judge 27 = .ok (.ireturn, 1) := by decide +kernel
theorem dX1_judge_28 : decode cX1_judge 28 = .ok (.aload_n 0, 1) := by decide +kernel
theorem dX1_judge_29 : decode cX1_judge 29 = .ok (.aload 4, 2) := by decide +kernel
theorem dX1_judge_31 : decode cX1_judge 31 = .ok (.iload_n 2, 1) := by decide +kernel
theorem dX1_judge_32 : decode cX1_judge 32 = .ok (.invokevirtual 114, 3) := by decide +kernel
theorem dX1_judge_35 : decode cX1_judge 35 = .ok (.istore 6, 2) := by decide +kernel
theorem dX1_judge_37 : decode cX1_judge 37 = .ok (.aload_n 0, 1) := by decide +kernel
theorem dX1_judge_38 : decode cX1_judge 38 = .ok (.aload 4, 2) := by decide +kernel
theorem dX1_judge_40 : decode cX1_judge 40 = .ok (.iload_n 3, 1) := by decide +kernel
theorem dX1_judge_41 : decode cX1_judge 41 = .ok (.invokevirtual 114, 3) := by decide +kernel
theorem dX1_judge_44 : decode cX1_judge 44 = .ok (.istore 7, 2) := by decide +kernel
theorem dX1_judge_46 : decode cX1_judge 46 = .ok (.aload 4, 2) := by decide +kernel
theorem dX1_judge_48 : decode cX1_judge 48 = .ok (.iload_n 2, 1) := by decide +kernel
theorem dX1_judge_49 : decode cX1_judge 49 = .ok (.iload 6, 2) := by decide +kernel
theorem dX1_judge_51 : decode cX1_judge 51 = .ok (.invokevirtual 139, 3) := by decide +kernel
theorem dX1_judge_54 : decode cX1_judge 54 = .ok (.aload 4, 2) := by decide +kernel
theorem dX1_judge_56 : decode cX1_judge 56 = .ok (.iload_n 3, 1) := by decide +kernel
theorem dX1_judge_57 : decode cX1_judge 57 = .ok (.iload 7, 2) := by decide +kernel
theorem dX1_judge_59 : decode cX1_judge 59 = .ok (.invokevirtual 139, 3) := by decide +kernel
theorem dX1_judge_62 : decode cX1_judge 62 = .ok (.invokestatic 142, 3) := by decide +kernel
theorem dX1_judge_65 : decode cX1_judge 65 = .ok (.istore 8, 2) := by decide +kernel
theorem dX1_judge_67 : decode cX1_judge 67 = .ok (.aload 4, 2) := by decide +kernel
theorem dX1_judge_69 : decode cX1_judge 69 = .ok (.iload_n 2, 1) := by decide +kernel
theorem dX1_judge_70 : decode cX1_judge 70 = .ok (.iload 6, 2) := by decide +kernel
theorem dX1_judge_72 : decode cX1_judge 72 = .ok (.invokevirtual 145, 3) := by decide +kernel
theorem dX1_judge_75 : decode cX1_judge 75 = .ok (.aload 4, 2) := by decide +kernel
theorem dX1_judge_77 : decode cX1_judge 77 = .ok (.iload_n 3, 1) := by decide +kernel
theorem dX1_judge_78 : decode cX1_judge 78 = .ok (.iload 7, 2) := by decide +kernel
theorem dX1_judge_80 : decode cX1_judge 80 = .ok (.invokevirtual 145, 3) := by decide +kernel
theorem dX1_judge_83 : decode cX1_judge 83 = .ok (.invokestatic 83, 3) := by decide +kernel
theorem dX1_judge_86 : decode cX1_judge 86 = .ok (.istore 9, 2) := by decide +kernel
theorem dX1_judge_88 : decode cX1_judge 88 = .ok (.iload 8, 2) := by decide +kernel
theorem dX1_judge_90 : decode cX1_judge 90 = .ok (.iload 9, 2) := by decide +kernel
theorem dX1_judge_92 : decode cX1_judge 92 = .ok (.if_icmp .le 7, 3) := by decide +kernel
theorem dX1_judge_95 : decode cX1_judge 95 = .ok (.iconst 1, 1) := by decide +kernel
theorem dX1_judge_96 : decode cX1_judge 96 = .ok (.goto 4, 3) := by decide +kernel
theorem dX1_judge_99 : decode cX1_judge 99 = .ok (.iconst 0, 1) := by decide +kernel
theorem dX1_judge_100 : decode cX1_judge 100 = .ok (.istore 10, 2) := by decide +kernel
theorem dX1_judge_102 : decode cX1_judge 102 = .ok (.aload_n 0, 1) := by decide +kernel
theorem dX1_judge_103 : decode cX1_judge 103 = .ok (.iload_n 1, 1) := by decide +kernel
theorem dX1_judge_104 : decode cX1_judge 104 = .ok (.iload 5, 2) := by decide +kernel
theorem dX1_judge_106 : decode cX1_judge 106 = .ok (.invokevirtual 98, 3) := by decide +kernel
theorem dX1_judge_109 : decode cX1_judge 109 = .ok (.iload 10, 2) := by decide +kernel
theorem dX1_judge_111 : decode cX1_judge 111 = .ok (.ifCond .eq 8, 3) := by decide +kernel
theorem dX1_judge_114 : decode cX1_judge 114 = .ok (.bipush (-2), 2) := by decide +kernel
theorem dX1_judge_116 : decode cX1_judge 116 = .ok (.goto 4, 3) := by decide +kernel
theorem dX1_judge_119 : decode cX1_judge 119 = .ok (.iconst 1, 1) := by decide +kernel
theorem dX1_judge_120 : decode cX1_judge 120 = .ok (.iadd, 1) := by decide +kernel
theorem dX1_judge_121 : decode cX1_judge 121 = .ok (.istore 11, 2) := by decide +kernel
theorem dX1_judge_123 : decode cX1_judge 123 = .ok (.aload_n 0, 1) := by decide +kernel
theorem dX1_judge_124 : decode cX1_judge 124 = .ok (.iload_n 1, 1) := by decide +kernel
theorem dX1_judge_125 : decode cX1_judge 125 = .ok (.iload 5, 2) := by decide +kernel
theorem dX1_judge_127 : decode cX1_judge 127 = .ok (.iconst 0, 1) := by decide +kernel
theorem dX1_judge_128 : decode cX1_judge 128 = .ok (.bipush 10, 2) := by decide +kernel
theorem dX1_judge_130 : decode cX1_judge 130 = .ok (.iload 11, 2) := by decide +kernel
theorem dX1_judge_132 : decode cX1_judge 132 = .ok (.invokestatic 83, 3) := by decide +kernel
theorem dX1_judge_135 : decode cX1_judge 135 = .ok (.invokestatic 142, 3) := by decide +kernel
theorem dX1_judge_138 : decode cX1_judge 138 = .ok (.invokevirtual 148, 3) := by decide +kernel
theorem dX1_judge_141 : decode cX1_judge 141 = .ok (.aload_n 0, 1) := by decide +kernel
theorem dX1_judge_142 : decode cX1_judge 142 = .ok (.iload_n 1, 1) := by decide +kernel
theorem dX1_judge_143 : decode cX1_judge 143 = .ok (.iload 10, 2) := by decide +kernel
theorem dX1_judge_145 : decode cX1_judge 145 = .ok (.ifCond .eq 7, 3) := by decide +kernel
theorem dX1_judge_148 : decode cX1_judge 148 = .ok (.iconst 4, 1) := by decide +kernel
theorem dX1_judge_149 : decode cX1_judge 149 = .ok (.goto 4, 3) := by decide +kernel
theorem dX1_judge_152 : decode cX1_judge 152 = .ok (.iconst 3, 1) := by decide +kernel
theorem dX1_judge_153 : decode cX1_judge 153 = .ok (.invokevirtual 132, 3) := by decide +kernel
theorem dX1_judge_156 : decode cX1_judge 156 = .ok (.iload 10, 2) := by decide +kernel
theorem dX1_judge_158 : decode cX1_judge 158 = .ok (.ireturn, 1) := by decide +kernel
theorem dX1_sendReports_0 : decode cX1_sendReports 0 = .ok (.aload_n 0, 1) := by decide +kernel
theorem dX1_sendReports_1 : decode cX1_sendReports 1 = .ok (.iload_n 1, 1) := by decide +kernel
theorem dX1_sendReports_2 : decode cX1_sendReports 2 = .ok (.invokevirtual 67, 3) := by decide +kernel
theorem dX1_sendReports_5 : decode cX1_sendReports 5 = .ok (.astore_n 3, 1) := by decide +kernel
theorem dX1_sendReports_6 : decode cX1_sendReports 6 = .ok (.aload_n 0, 1) := by decide +kernel
theorem dX1_sendReports_7 : decode cX1_sendReports 7 = .ok (.getfield 41, 3) := by decide +kernel
theorem dX1_sendReports_10 : decode cX1_sendReports 10 = .ok (.getfield 71, 3) := by decide +kernel
theorem dX1_sendReports_13 : decode cX1_sendReports 13 = .ok (.istore 4, 2) := by decide +kernel
theorem dX1_sendReports_15 : decode cX1_sendReports 15 = .ok (.iconst 0, 1) := by decide +kernel
theorem dX1_sendReports_16 : decode cX1_sendReports 16 = .ok (.istore 5, 2) := by decide +kernel
theorem dX1_sendReports_18 : decode cX1_sendReports 18 = .ok (.iload 5, 2) := by decide +kernel
theorem dX1_sendReports_20 : decode cX1_sendReports 20 = .ok (.aload_n 3, 1) := by decide +kernel
theorem dX1_sendReports_21 : decode cX1_sendReports 21 = .ok (.getfield 71, 3) := by decide +kernel
theorem dX1_sendReports_24 : decode cX1_sendReports 24 = .ok (.if_icmp .ge 28, 3) := by decide +kernel
theorem dX1_sendReports_27 : decode cX1_sendReports 27 = .ok (.aload_n 3, 1) := by decide +kernel
theorem dX1_sendReports_28 : decode cX1_sendReports 28 = .ok (.iload 5, 2) := by decide +kernel
theorem dX1_sendReports_30 : decode cX1_sendReports 30 = .ok (.iconst 2, 1) := by decide +kernel
theorem dX1_sendReports_31 : decode cX1_sendReports 31 = .ok (.invokevirtual 111, 3) := by decide +kernel
theorem dX1_sendReports_34 : decode cX1_sendReports 34 = .ok (.iload_n 2, 1) := by decide +kernel
theorem dX1_sendReports_35 : decode cX1_sendReports 35 = .ok (.if_icmp .ge 11, 3) := by decide +kernel
theorem dX1_sendReports_38 : decode cX1_sendReports 38 = .ok (.aload_n 0, 1) := by decide +kernel
theorem dX1_sendReports_39 : decode cX1_sendReports 39 = .ok (.iload_n 1, 1) := by decide +kernel
theorem dX1_sendReports_40 : decode cX1_sendReports 40 = .ok (.aload_n 3, 1) := by decide +kernel
theorem dX1_sendReports_41 : decode cX1_sendReports 41 = .ok (.iload 5, 2) := by decide +kernel
theorem dX1_sendReports_43 : decode cX1_sendReports 43 = .ok (.invokevirtual 151, 3) := by decide +kernel
theorem dX1_sendReports_46 : decode cX1_sendReports 46 = .ok (.iinc 5 1, 3) := by decide +kernel
theorem dX1_sendReports_49 : decode cX1_sendReports 49 = .ok (.goto (-31), 3) := by decide +kernel
theorem dX1_sendReports_52 : decode cX1_sendReports 52 = .ok (.aload_n 0, 1) := by decide +kernel
theorem dX1_sendReports_53 : decode cX1_sendReports 53 = .ok (.getfield 41, 3) := by decide +kernel
theorem dX1_sendReports_56 : decode cX1_sendReports 56 = .ok (.getfield 71, 3) := by decide +kernel
theorem dX1_sendReports_59 : decode cX1_sendReports 59 = .ok (.iload 4, 2) := by decide +kernel
theorem dX1_sendReports_61 : decode cX1_sendReports 61 = .ok (.isub, 1) := by decide +kernel
theorem dX1_sendReports_62 : decode cX1_sendReports 62 = .ok (.ireturn, 1) := by decide +kernel
theorem dX1_sendReport_0 : decode cX1_sendReport 0 = .ok (.iconst 0, 1) := by decide +kernel
theorem dX1_sendReport_1 : decode cX1_sendReport 1 = .ok (.istore 4, 2) := by decide +kernel
theorem dX1_sendReport_3 : decode cX1_sendReport 3 = .ok (.iload 4, 2) := by decide +kernel
theorem dX1_sendReport_5 : decode cX1_sendReport 5 = .ok (.aload_n 0, 1) := by decide +kernel
theorem dX1_sendReport_6 : decode cX1_sendReport 6 = .ok (.getfield 18, 3) := by decide +kernel
theorem dX1_sendReport_9 : decode cX1_sendReport 9 = .ok (.getfield 57, 3) := by decide +kernel
theorem dX1_sendReport_12 : decode cX1_sendReport 12 = .ok (.if_icmp .ge 116, 3) := by decide +kernel
theorem dX1_sendReport_15 : decode cX1_sendReport 15 = .ok (.iload 4, 2) := by decide +kernel
theorem dX1_sendReport_17 : decode cX1_sendReport 17 = .ok (.aload_n 2, 1) := by decide +kernel
theorem dX1_sendReport_18 : decode cX1_sendReport 18 = .ok (.iload_n 3, 1) := by decide +kernel
theorem dX1_sendReport_19 : decode cX1_sendReport 19 = .ok (.iconst 0, 1) := by decide +kernel
theorem dX1_sendReport_20 : decode cX1_sendReport 20 = .ok (.invokevirtual 111, 3) := by decide +kernel
theorem dX1_sendReport_23 : decode cX1_sendReport 23 = .ok (.if_icmp .eq 14, 3) := by decide +kernel
theorem dX1_sendReport_26 : decode cX1_sendReport 26 = .ok (.iload 4, 2) := by decide +kernel
theorem dX1_sendReport_28 : decode cX1_sendReport 28 = .ok (.aload_n 2, 1) := by decide +kernel
theorem dX1_sendReport_29 : decode cX1_sendReport 29 = .ok (.iload_n 3, 1) := by decide +kernel
theorem dX1_sendReport_30 : decode cX1_sendReport 30 = .ok (.iconst 1, 1) := by decide +kernel
theorem dX1_sendReport_31 : decode cX1_sendReport 31 = .ok (.invokevirtual 111, 3) := by decide +kernel
theorem dX1_sendReport_34 : decode cX1_sendReport 34 = .ok (.if_icmp .ne 7, 3) := by decide +kernel
theorem dX1_sendReport_37 : decode cX1_sendReport 37 = .ok (.iconst 1, 1) := by decide +kernel
theorem dX1_sendReport_38 : decode cX1_sendReport 38 = .ok (.goto 4, 3) := by decide +kernel
theorem dX1_sendReport_41 : decode cX1_sendReport 41 = .ok (.iconst 0, 1) := by decide +kernel
theorem dX1_sendReport_42 : decode cX1_sendReport 42 = .ok (.istore 5, 2) := by decide +kernel
theorem dX1_sendReport_44 : decode cX1_sendReport 44 = .ok (.aload_n 0, 1) := by decide +kernel
theorem dX1_sendReport_45 : decode cX1_sendReport 45 = .ok (.iload_n 1, 1) := by decide +kernel
theorem dX1_sendReport_46 : decode cX1_sendReport 46 = .ok (.iload 4, 2) := by decide +kernel
theorem dX1_sendReport_48 : decode cX1_sendReport 48 = .ok (.invokevirtual 101, 3) := by decide +kernel
theorem dX1_sendReport_51 : decode cX1_sendReport 51 = .ok (.ifCond .eq 71, 3) := by decide +kernel
theorem dX1_sendReport_54 : decode cX1_sendReport 54 = .ok (.iload 5, 2) := by decide +kernel
theorem dX1_sendReport_56 : decode cX1_sendReport 56 = .ok (.ifCond .ne 66, 3) := by decide +kernel
theorem dX1_sendReport_59 : decode cX1_sendReport 59 = .ok (.aload_n 0, 1) := by decide +kernel
theorem dX1_sendReport_60 : decode cX1_sendReport 60 = .ok (.getfield 41, 3) := by decide +kernel
theorem dX1_sendReport_63 : decode cX1_sendReport 63 = .ok (.invokevirtual 155, 3) := by decide +kernel
theorem dX1_sendReport_66 : decode cX1_sendReport 66 = .ok (.ifCond .ne 56, 3) := by decide +kernel
theorem dX1_sendReport_69 : decode cX1_sendReport 69 = .ok (.aload_n 0, 1) := by decide +kernel
theorem dX1_sendReport_70 : decode cX1_sendReport 70 = .ok (.getfield 41, 3) := by decide +kernel
theorem dX1_sendReport_73 : decode cX1_sendReport 73 = .ok (.aload_n 2, 1) := by decide +kernel
theorem dX1_sendReport_74 : decode cX1_sendReport 74 = .ok (.iload_n 3, 1) := by decide +kernel
theorem dX1_sendReport_75 : decode cX1_sendReport 75 = .ok (.invokevirtual 159, 3) := by decide +kernel
theorem dX1_sendReport_78 : decode cX1_sendReport 78 = .ok (.istore 6, 2) := by decide +kernel
theorem dX1_sendReport_80 : decode cX1_sendReport 80 = .ok (.aload_n 0, 1) := by decide +kernel
theorem dX1_sendReport_81 : decode cX1_sendReport 81 = .ok (.getfield 41, 3) := by decide +kernel
theorem dX1_sendReport_84 : decode cX1_sendReport 84 = .ok (.iload 6, 2) := by decide +kernel
theorem dX1_sendReport_86 : decode cX1_sendReport 86 = .ok (.iconst 1, 1) := by decide +kernel
theorem dX1_sendReport_87 : decode cX1_sendReport 87 = .ok (.iload_n 1, 1) := by decide +kernel
theorem dX1_sendReport_88 : decode cX1_sendReport 88 = .ok (.invokevirtual 128, 3) := by decide +kernel
theorem dX1_sendReport_91 : decode cX1_sendReport 91 = .ok (.aload_n 0, 1) := by decide +kernel
theorem dX1_sendReport_92 : decode cX1_sendReport 92 = .ok (.getfield 41, 3) := by decide +kernel
theorem dX1_sendReport_95 : decode cX1_sendReport 95 = .ok (.iload 6, 2) := by decide +kernel
theorem dX1_sendReport_97 : decode cX1_sendReport 97 = .ok (.iconst 2, 1) := by decide +kernel
theorem dX1_sendReport_98 : decode cX1_sendReport 98 = .ok (.aload_n 2, 1) := by decide +kernel
theorem dX1_sendReport_99 : decode cX1_sendReport 99 = .ok (.iload_n 3, 1) := by decide +kernel
theorem dX1_sendReport_100 : decode cX1_sendReport 100 = .ok (.iconst 2, 1) := by decide +kernel
theorem dX1_sendReport_101 : decode cX1_sendReport 101 = .ok (.invokevirtual 111, 3) := by decide +kernel
theorem dX1_sendReport_104 : decode cX1_sendReport 104 = .ok (.iconst 1, 1) := by decide +kernel
theorem dX1_sendReport_105 : decode cX1_sendReport 105 = .ok (.iadd, 1) := by decide +kernel
theorem dX1_sendReport_106 : decode cX1_sendReport 106 = .ok (.invokevirtual 128, 3) := by decide +kernel
theorem dX1_sendReport_109 : decode cX1_sendReport 109 = .ok (.aload_n 0, 1) := by decide +kernel
theorem dX1_sendReport_110 : decode cX1_sendReport 110 = .ok (.getfield 41, 3) := by decide +kernel
theorem dX1_sendReport_113 : decode cX1_sendReport 113 = .ok (.iload 6, 2) := by decide +kernel
theorem dX1_sendReport_115 : decode cX1_sendReport 115 = .ok (.bipush 7, 2) := by decide +kernel
theorem dX1_sendReport_117 : decode cX1_sendReport 117 = .ok (.iload 4, 2) := by decide +kernel
theorem dX1_sendReport_119 : decode cX1_sendReport 119 = .ok (.invokevirtual 128, 3) := by decide +kernel
theorem dX1_sendReport_122 : decode cX1_sendReport 122 = .ok (.iinc 4 1, 3) := by decide +kernel
theorem dX1_sendReport_125 : decode cX1_sendReport 125 = .ok (.goto (-122), 3) := by decide +kernel
theorem dX1_sendReport_128 : decode cX1_sendReport 128 = .ok (.return_, 1) := by decide +kernel
theorem dX1_reasonToRefuse_0 : decode cX1_reasonToRefuse 0 = .ok (.aload_n 0, 1) := by decide +kernel
theorem dX1_reasonToRefuse_1 : decode cX1_reasonToRefuse 1 = .ok (.getfield 41, 3) := by decide +kernel
theorem dX1_reasonToRefuse_4 : decode cX1_reasonToRefuse 4 = .ok (.iload_n 1, 1) := by decide +kernel
theorem dX1_reasonToRefuse_5 : decode cX1_reasonToRefuse 5 = .ok (.bipush 7, 2) := by decide +kernel
theorem dX1_reasonToRefuse_7 : decode cX1_reasonToRefuse 7 = .ok (.invokevirtual 111, 3) := by decide +kernel
theorem dX1_reasonToRefuse_10 : decode cX1_reasonToRefuse 10 = .ok (.istore_n 2, 1) := by decide +kernel
theorem dX1_reasonToRefuse_11 : decode cX1_reasonToRefuse 11 = .ok (.aload_n 0, 1) := by decide +kernel
theorem dX1_reasonToRefuse_12 : decode cX1_reasonToRefuse 12 = .ok (.iload_n 2, 1) := by decide +kernel
theorem dX1_reasonToRefuse_13 : decode cX1_reasonToRefuse 13 = .ok (.aload_n 0, 1) := by decide +kernel
theorem dX1_reasonToRefuse_14 : decode cX1_reasonToRefuse 14 = .ok (.getfield 41, 3) := by decide +kernel
theorem dX1_reasonToRefuse_17 : decode cX1_reasonToRefuse 17 = .ok (.iload_n 1, 1) := by decide +kernel
theorem dX1_reasonToRefuse_18 : decode cX1_reasonToRefuse 18 = .ok (.iconst 1, 1) := by decide +kernel
theorem dX1_reasonToRefuse_19 : decode cX1_reasonToRefuse 19 = .ok (.invokevirtual 111, 3) := by decide +kernel
theorem dX1_reasonToRefuse_22 : decode cX1_reasonToRefuse 22 = .ok (.invokevirtual 101, 3) := by decide +kernel
theorem dX1_reasonToRefuse_25 : decode cX1_reasonToRefuse 25 = .ok (.ifCond .ne 5, 3) := by decide +kernel
theorem dX1_reasonToRefuse_28 : decode cX1_reasonToRefuse 28 = .ok (.iconst 1, 1) := by decide +kernel
theorem dX1_reasonToRefuse_29 : decode cX1_reasonToRefuse 29 = .ok (.ireturn, 1) := by decide +kernel
theorem dX1_reasonToRefuse_30 : decode cX1_reasonToRefuse 30 = .ok (.aload_n 0, 1) := by decide +kernel
theorem dX1_reasonToRefuse_31 : decode cX1_reasonToRefuse 31 = .ok (.aload_n 0, 1) := by decide +kernel
theorem dX1_reasonToRefuse_32 : decode cX1_reasonToRefuse 32 = .ok (.getfield 41, 3) := by decide +kernel
theorem dX1_reasonToRefuse_35 : decode cX1_reasonToRefuse 35 = .ok (.iload_n 1, 1) := by decide +kernel
theorem dX1_reasonToRefuse_36 : decode cX1_reasonToRefuse 36 = .ok (.invokevirtual 162, 3) := by decide +kernel
theorem dX1_reasonToRefuse_39 : decode cX1_reasonToRefuse 39 = .ok (.ifCond .eq 5, 3) := by decide +kernel
theorem dX1_reasonToRefuse_42 : decode cX1_reasonToRefuse 42 = .ok (.iconst 2, 1) := by decide +kernel
theorem dX1_reasonToRefuse_43 : decode cX1_reasonToRefuse 43 = .ok (.ireturn, 1) := by decide +kernel
theorem dX1_reasonToRefuse_44 : decode cX1_reasonToRefuse 44 = .ok (.aload_n 0, 1) := by decide +kernel
theorem dX1_reasonToRefuse_45 : decode cX1_reasonToRefuse 45 = .ok (.iload_n 2, 1) := by decide +kernel
theorem dX1_reasonToRefuse_46 : decode cX1_reasonToRefuse 46 = .ok (.invokevirtual 67, 3) := by decide +kernel
theorem dX1_reasonToRefuse_49 : decode cX1_reasonToRefuse 49 = .ok (.astore_n 3, 1) := by decide +kernel
theorem dX1_reasonToRefuse_50 : decode cX1_reasonToRefuse 50 = .ok (.aload_n 3, 1) := by decide +kernel
theorem dX1_reasonToRefuse_51 : decode cX1_reasonToRefuse 51 = .ok (.aload_n 0, 1) := by decide +kernel
theorem dX1_reasonToRefuse_52 : decode cX1_reasonToRefuse 52 = .ok (.getfield 41, 3) := by decide +kernel
theorem dX1_reasonToRefuse_55 : decode cX1_reasonToRefuse 55 = .ok (.iload_n 1, 1) := by decide +kernel
theorem dX1_reasonToRefuse_56 : decode cX1_reasonToRefuse 56 = .ok (.iconst 0, 1) := by decide +kernel
theorem dX1_reasonToRefuse_57 : decode cX1_reasonToRefuse 57 = .ok (.invokevirtual 111, 3) := by decide +kernel
theorem dX1_reasonToRefuse_60 : decode cX1_reasonToRefuse 60 = .ok (.aload_n 0, 1) := by decide +kernel
theorem dX1_reasonToRefuse_61 : decode cX1_reasonToRefuse 61 = .ok (.getfield 41, 3) := by decide +kernel
theorem dX1_reasonToRefuse_64 : decode cX1_reasonToRefuse 64 = .ok (.iload_n 1, 1) := by decide +kernel
theorem dX1_reasonToRefuse_65 : decode cX1_reasonToRefuse 65 = .ok (.iconst 3, 1) := by decide +kernel
theorem dX1_reasonToRefuse_66 : decode cX1_reasonToRefuse 66 = .ok (.invokevirtual 111, 3) := by decide +kernel
theorem dX1_reasonToRefuse_69 : decode cX1_reasonToRefuse 69 = .ok (.invokevirtual 118, 3) := by decide +kernel
theorem dX1_reasonToRefuse_72 : decode cX1_reasonToRefuse 72 = .ok (.istore 4, 2) := by decide +kernel
theorem dX1_reasonToRefuse_74 : decode cX1_reasonToRefuse 74 = .ok (.iload 4, 2) := by decide +kernel
theorem dX1_reasonToRefuse_76 : decode cX1_reasonToRefuse 76 = .ok (.iconst (-1), 1) := by decide +kernel
theorem dX1_reasonToRefuse_77 : decode cX1_reasonToRefuse 77 = .ok (.if_icmp .ne 5, 3) := by decide +kernel
theorem dX1_reasonToRefuse_80 : decode cX1_reasonToRefuse 80 = .ok (.iconst 0, 1) := by decide +kernel
theorem dX1_reasonToRefuse_81 : decode cX1_reasonToRefuse 81 = .ok (.ireturn, 1) := by decide +kernel
theorem dX1_reasonToRefuse_82 : decode cX1_reasonToRefuse 82 = .ok (.aload_n 3, 1) := by decide +kernel
theorem dX1_reasonToRefuse_83 : decode cX1_reasonToRefuse 83 = .ok (.iload 4, 2) := by decide +kernel
theorem dX1_reasonToRefuse_85 : decode cX1_reasonToRefuse 85 = .ok (.iconst 4, 1) := by decide +kernel
theorem dX1_reasonToRefuse_86 : decode cX1_reasonToRefuse 86 = .ok (.invokevirtual 111, 3) := by decide +kernel
theorem dX1_reasonToRefuse_89 : decode cX1_reasonToRefuse 89 = .ok (.aload_n 0, 1) := by decide +kernel
theorem dX1_reasonToRefuse_90 : decode cX1_reasonToRefuse 90 = .ok (.getfield 41, 3) := by decide +kernel
theorem dX1_reasonToRefuse_93 : decode cX1_reasonToRefuse 93 = .ok (.iload_n 1, 1) := by decide +kernel
theorem dX1_reasonToRefuse_94 : decode cX1_reasonToRefuse 94 = .ok (.iconst 4, 1) := by decide +kernel
theorem dX1_reasonToRefuse_95 : decode cX1_reasonToRefuse 95 = .ok (.invokevirtual 111, 3) := by decide +kernel
theorem dX1_reasonToRefuse_98 : decode cX1_reasonToRefuse 98 = .ok (.isub, 1) := by decide +kernel
theorem dX1_reasonToRefuse_99 : decode cX1_reasonToRefuse 99 = .ok (.istore 5, 2) := by decide +kernel
theorem dX1_reasonToRefuse_101 : decode cX1_reasonToRefuse 101 = .ok (.aload_n 3, 1) := by decide +kernel
theorem dX1_reasonToRefuse_102 : decode cX1_reasonToRefuse 102 = .ok (.iload 4, 2) := by decide +kernel
theorem dX1_reasonToRefuse_104 : decode cX1_reasonToRefuse 104 = .ok (.iconst 2, 1) := by decide +kernel
theorem dX1_reasonToRefuse_105 : decode cX1_reasonToRefuse 105 = .ok (.invokevirtual 111, 3) := by decide +kernel
theorem dX1_reasonToRefuse_108 : decode cX1_reasonToRefuse 108 = .ok (.aload_n 0, 1) := by decide +kernel
theorem dX1_reasonToRefuse_109 : decode cX1_reasonToRefuse 109 = .ok (.getfield 41, 3) := by decide +kernel
theorem dX1_reasonToRefuse_112 : decode cX1_reasonToRefuse 112 = .ok (.iload_n 1, 1) := by decide +kernel
theorem dX1_reasonToRefuse_113 : decode cX1_reasonToRefuse 113 = .ok (.iconst 2, 1) := by decide +kernel
theorem dX1_reasonToRefuse_114 : decode cX1_reasonToRefuse 114 = .ok (.invokevirtual 111, 3) := by decide +kernel
theorem dX1_reasonToRefuse_117 : decode cX1_reasonToRefuse 117 = .ok (.if_icmp .gt 7, 3) := by decide +kernel
theorem dX1_reasonToRefuse_120 : decode cX1_reasonToRefuse 120 = .ok (.iconst 1, 1) := by decide +kernel
theorem dX1_reasonToRefuse_121 : decode cX1_reasonToRefuse 121 = .ok (.goto 4, 3) := by decide +kernel
theorem dX1_reasonToRefuse_124 : decode cX1_reasonToRefuse 124 = .ok (.iconst 0, 1) := by decide +kernel
theorem dX1_reasonToRefuse_125 : decode cX1_reasonToRefuse 125 = .ok (.istore 6, 2) := by decide +kernel
theorem dX1_reasonToRefuse_127 : decode cX1_reasonToRefuse 127 = .ok (.iload 5, 2) := by decide +kernel
theorem dX1_reasonToRefuse_129 : decode cX1_reasonToRefuse 129 = .ok (.ifCond .gt 13, 3) := by decide +kernel
theorem dX1_reasonToRefuse_132 : decode cX1_reasonToRefuse 132 = .ok (.iload 5, 2) := by decide +kernel
theorem dX1_reasonToRefuse_134 : decode cX1_reasonToRefuse 134 = .ok (.ifCond .ne 12, 3) := by decide +kernel
theorem dX1_reasonToRefuse_137 : decode cX1_reasonToRefuse 137 = .ok (.iload 6, 2) := by decide +kernel
theorem dX1_reasonToRefuse_139 : decode cX1_reasonToRefuse 139 = .ok (.ifCond .eq 7, 3) := by decide +kernel
theorem dX1_reasonToRefuse_142 : decode cX1_reasonToRefuse 142 = .ok (.iconst 3, 1) := by decide +kernel
theorem dX1_reasonToRefuse_143 : decode cX1_reasonToRefuse 143 = .ok (.goto 4, 3) := by decide +kernel
theorem dX1_reasonToRefuse_146 : decode cX1_reasonToRefuse 146 = .ok (.iconst 0, 1) := by decide +kernel
theorem dX1_reasonToRefuse_147 : decode cX1_reasonToRefuse 147 = .ok (.ireturn, 1) := by decide +kernel
theorem dX1_deliverFirst_0 : decode cX1_deliverFirst 0 = .ok (.iload_n 1, 1) := by decide +kernel
theorem dX1_deliverFirst_1 : decode cX1_deliverFirst 1 = .ok (.aload_n 0, 1) := by decide +kernel
theorem dX1_deliverFirst_2 : decode cX1_deliverFirst 2 = .ok (.getfield 41, 3) := by decide +kernel
theorem dX1_deliverFirst_5 : decode cX1_deliverFirst 5 = .ok (.getfield 71, 3) := by decide +kernel
theorem dX1_deliverFirst_8 : decode cX1_deliverFirst 8 = .ok (.invokestatic 83, 3) := by decide +kernel
theorem dX1_deliverFirst_11 : decode cX1_deliverFirst 11 = .ok (.istore_n 2, 1) := by decide +kernel
theorem dX1_deliverFirst_12 : decode cX1_deliverFirst 12 = .ok (.iconst 0, 1) := by decide +kernel
theorem dX1_deliverFirst_13 : decode cX1_deliverFirst 13 = .ok (.istore_n 3, 1) := by decide +kernel
theorem dX1_deliverFirst_14 : decode cX1_deliverFirst 14 = .ok (.iconst 0, 1) := by decide +kernel
theorem dX1_deliverFirst_15 : decode cX1_deliverFirst 15 = .ok (.istore 4, 2) := by decide +kernel
theorem dX1_deliverFirst_17 : decode cX1_deliverFirst 17 = .ok (.iload 4, 2) := by decide +kernel
theorem dX1_deliverFirst_19 : decode cX1_deliverFirst 19 = .ok (.iload_n 2, 1) := by decide +kernel
theorem dX1_deliverFirst_20 : decode cX1_deliverFirst 20 = .ok (.if_icmp .ge 21, 3) := by decide +kernel
theorem dX1_deliverFirst_23 : decode cX1_deliverFirst 23 = .ok (.aload_n 0, 1) := by decide +kernel
theorem dX1_deliverFirst_24 : decode cX1_deliverFirst 24 = .ok (.iload 4, 2) := by decide +kernel
theorem dX1_deliverFirst_26 : decode cX1_deliverFirst 26 = .ok (.invokevirtual 166, 3) := by decide +kernel
theorem dX1_deliverFirst_29 : decode cX1_deliverFirst 29 = .ok (.ifCond .eq 6, 3) := by decide +kernel
theorem dX1_deliverFirst_32 : decode cX1_deliverFirst 32 = .ok (.iinc 3 1, 3) := by decide +kernel
theorem dX1_deliverFirst_35 : decode cX1_deliverFirst 35 = .ok (.iinc 4 1, 3) := by decide +kernel
theorem dX1_deliverFirst_38 : decode cX1_deliverFirst 38 = .ok (.goto (-21), 3) := by decide +kernel
theorem dX1_deliverFirst_41 : decode cX1_deliverFirst 41 = .ok (.aload_n 0, 1) := by decide +kernel
theorem dX1_deliverFirst_42 : decode cX1_deliverFirst 42 = .ok (.getfield 41, 3) := by decide +kernel
theorem dX1_deliverFirst_45 : decode cX1_deliverFirst 45 = .ok (.iload_n 2, 1) := by decide +kernel
theorem dX1_deliverFirst_46 : decode cX1_deliverFirst 46 = .ok (.invokevirtual 170, 3) := by decide +kernel
theorem dX1_deliverFirst_49 : decode cX1_deliverFirst 49 = .ok (.iload_n 3, 1) := by decide +kernel
theorem dX1_deliverFirst_50 : decode cX1_deliverFirst 50 = .ok (.ireturn, 1) := by decide +kernel
theorem dX1_receive_0 : decode cX1_receive 0 = .ok (.aload_n 0, 1) := by decide +kernel
theorem dX1_receive_1 : decode cX1_receive 1 = .ok (.getfield 41, 3) := by decide +kernel
theorem dX1_receive_4 : decode cX1_receive 4 = .ok (.iload_n 1, 1) := by decide +kernel
theorem dX1_receive_5 : decode cX1_receive 5 = .ok (.bipush 7, 2) := by decide +kernel
theorem dX1_receive_7 : decode cX1_receive 7 = .ok (.invokevirtual 111, 3) := by decide +kernel
theorem dX1_receive_10 : decode cX1_receive 10 = .ok (.istore_n 2, 1) := by decide +kernel
theorem dX1_receive_11 : decode cX1_receive 11 = .ok (.aload_n 0, 1) := by decide +kernel
theorem dX1_receive_12 : decode cX1_receive 12 = .ok (.iload_n 1, 1) := by decide +kernel
theorem dX1_receive_13 : decode cX1_receive 13 = .ok (.invokevirtual 173, 3) := by decide +kernel
theorem dX1_receive_16 : decode cX1_receive 16 = .ok (.ifCond .eq 11, 3) := by decide +kernel
theorem dX1_receive_19 : decode cX1_receive 19 = .ok (.aload_n 0, 1) := by decide +kernel
theorem dX1_receive_20 : decode cX1_receive 20 = .ok (.iload_n 2, 1) := by decide +kernel
theorem dX1_receive_21 : decode cX1_receive 21 = .ok (.iconst 2, 1) := by decide +kernel
theorem dX1_receive_22 : decode cX1_receive 22 = .ok (.invokevirtual 132, 3) := by decide +kernel
theorem dX1_receive_25 : decode cX1_receive 25 = .ok (.iconst 0, 1) := by decide +kernel
theorem dX1_receive_26 : decode cX1_receive 26 = .ok (.ireturn, 1) := by decide +kernel
theorem dX1_receive_27 : decode cX1_receive 27 = .ok (.aload_n 0, 1) := by decide +kernel
theorem dX1_receive_28 : decode cX1_receive 28 = .ok (.iload_n 2, 1) := by decide +kernel
theorem dX1_receive_29 : decode cX1_receive 29 = .ok (.iconst 1, 1) := by decide +kernel
theorem dX1_receive_30 : decode cX1_receive 30 = .ok (.invokevirtual 132, 3) := by decide +kernel
theorem dX1_receive_33 : decode cX1_receive 33 = .ok (.aload_n 0, 1) := by decide +kernel
theorem dX1_receive_34 : decode cX1_receive 34 = .ok (.getfield 41, 3) := by decide +kernel
theorem dX1_receive_37 : decode cX1_receive 37 = .ok (.iload_n 1, 1) := by decide +kernel
theorem dX1_receive_38 : decode cX1_receive 38 = .ok (.iconst 3, 1) := by decide +kernel
theorem dX1_receive_39 : decode cX1_receive 39 = .ok (.invokevirtual 111, 3) := by decide +kernel
theorem dX1_receive_42 : decode cX1_receive 42 = .ok (.istore_n 3, 1) := by decide +kernel
theorem dX1_receive_43 : decode cX1_receive 43 = .ok (.aload_n 0, 1) := by decide +kernel
theorem dX1_receive_44 : decode cX1_receive 44 = .ok (.iload_n 2, 1) := by decide +kernel
theorem dX1_receive_45 : decode cX1_receive 45 = .ok (.invokevirtual 67, 3) := by decide +kernel
theorem dX1_receive_48 : decode cX1_receive 48 = .ok (.astore 4, 2) := by decide +kernel
theorem dX1_receive_50 : decode cX1_receive 50 = .ok (.aload 4, 2) := by decide +kernel
theorem dX1_receive_52 : decode cX1_receive 52 = .ok (.aload 4, 2) := by decide +kernel
theorem dX1_receive_54 : decode cX1_receive 54 = .ok (.aload_n 0, 1) := by decide +kernel
theorem dX1_receive_55 : decode cX1_receive 55 = .ok (.getfield 41, 3) := by decide +kernel
theorem dX1_receive_58 : decode cX1_receive 58 = .ok (.iload_n 1, 1) := by decide +kernel
theorem dX1_receive_59 : decode cX1_receive 59 = .ok (.iconst 0, 1) := by decide +kernel
theorem dX1_receive_60 : decode cX1_receive 60 = .ok (.invokevirtual 111, 3) := by decide +kernel
theorem dX1_receive_63 : decode cX1_receive 63 = .ok (.iload_n 3, 1) := by decide +kernel
theorem dX1_receive_64 : decode cX1_receive 64 = .ok (.invokevirtual 118, 3) := by decide +kernel
theorem dX1_receive_67 : decode cX1_receive 67 = .ok (.invokevirtual 121, 3) := by decide +kernel
theorem dX1_receive_70 : decode cX1_receive 70 = .ok (.aload 4, 2) := by decide +kernel
theorem dX1_receive_72 : decode cX1_receive 72 = .ok (.aload_n 0, 1) := by decide +kernel
theorem dX1_receive_73 : decode cX1_receive 73 = .ok (.getfield 41, 3) := by decide +kernel
theorem dX1_receive_76 : decode cX1_receive 76 = .ok (.iload_n 1, 1) := by decide +kernel
theorem dX1_receive_77 : decode cX1_receive 77 = .ok (.invokevirtual 159, 3) := by decide +kernel
theorem dX1_receive_80 : decode cX1_receive 80 = .ok (.istore 5, 2) := by decide +kernel
theorem dX1_receive_82 : decode cX1_receive 82 = .ok (.aload 4, 2) := by decide +kernel
theorem dX1_receive_84 : decode cX1_receive 84 = .ok (.iload_n 2, 1) := by decide +kernel
theorem dX1_receive_85 : decode cX1_receive 85 = .ok (.iload_n 3, 1) := by decide +kernel
theorem dX1_receive_86 : decode cX1_receive 86 = .ok (.invokevirtual 118, 3) := by decide +kernel
theorem dX1_receive_89 : decode cX1_receive 89 = .ok (.istore 6, 2) := by decide +kernel
theorem dX1_receive_91 : decode cX1_receive 91 = .ok (.iload 6, 2) := by decide +kernel
theorem dX1_receive_93 : decode cX1_receive 93 = .ok (.iconst (-1), 1) := by decide +kernel
theorem dX1_receive_94 : decode cX1_receive 94 = .ok (.if_icmp .eq 13, 3) := by decide +kernel
theorem dX1_receive_97 : decode cX1_receive 97 = .ok (.aload_n 0, 1) := by decide +kernel
theorem dX1_receive_98 : decode cX1_receive 98 = .ok (.iload_n 2, 1) := by decide +kernel
theorem dX1_receive_99 : decode cX1_receive 99 = .ok (.iload 5, 2) := by decide +kernel
theorem dX1_receive_101 : decode cX1_receive 101 = .ok (.iload 6, 2) := by decide +kernel
theorem dX1_receive_103 : decode cX1_receive 103 = .ok (.invokevirtual 135, 3) := by decide +kernel
theorem dX1_receive_106 : decode cX1_receive 106 = .ok (.pop, 1) := by decide +kernel
theorem dX1_receive_107 : decode cX1_receive 107 = .ok (.iconst 1, 1) := by decide +kernel
theorem dX1_receive_108 : decode cX1_receive 108 = .ok (.ireturn, 1) := by decide +kernel
theorem dX1_makeRounds_0 : decode cX1_makeRounds 0 = .ok (.iconst 0, 1) := by decide +kernel
theorem dX1_makeRounds_1 : decode cX1_makeRounds 1 = .ok (.istore_n 2, 1) := by decide +kernel
theorem dX1_makeRounds_2 : decode cX1_makeRounds 2 = .ok (.iconst 0, 1) := by decide +kernel
theorem dX1_makeRounds_3 : decode cX1_makeRounds 3 = .ok (.istore_n 3, 1) := by decide +kernel
theorem dX1_makeRounds_4 : decode cX1_makeRounds 4 = .ok (.iload_n 3, 1) := by decide +kernel
theorem dX1_makeRounds_5 : decode cX1_makeRounds 5 = .ok (.iload_n 1, 1) := by decide +kernel
theorem dX1_makeRounds_6 : decode cX1_makeRounds 6 = .ok (.if_icmp .ge 56, 3) := by decide +kernel
theorem dX1_makeRounds_9 : decode cX1_makeRounds 9 = .ok (.iconst 0, 1) := by decide +kernel
theorem dX1_makeRounds_10 : decode cX1_makeRounds 10 = .ok (.istore 4, 2) := by decide +kernel
theorem dX1_makeRounds_12 : decode cX1_makeRounds 12 = .ok (.iload 4, 2) := by decide +kernel
theorem dX1_makeRounds_14 : decode cX1_makeRounds 14 = .ok (.aload_n 0, 1) := by decide +kernel
theorem dX1_makeRounds_15 : decode cX1_makeRounds 15 = .ok (.getfield 18, 3) := by decide +kernel
theorem dX1_makeRounds_18 : decode cX1_makeRounds 18 = .ok (.getfield 57, 3) := by decide +kernel
theorem dX1_makeRounds_21 : decode cX1_makeRounds 21 = .ok (.if_icmp .ge 21, 3) := by decide +kernel
theorem dX1_makeRounds_24 : decode cX1_makeRounds 24 = .ok (.aload_n 0, 1) := by decide +kernel
theorem dX1_makeRounds_25 : decode cX1_makeRounds 25 = .ok (.iload 4, 2) := by decide +kernel
theorem dX1_makeRounds_27 : decode cX1_makeRounds 27 = .ok (.aload_n 0, 1) := by decide +kernel
theorem dX1_makeRounds_28 : decode cX1_makeRounds 28 = .ok (.iconst 4, 1) := by decide +kernel
theorem dX1_makeRounds_29 : decode cX1_makeRounds 29 = .ok (.invokevirtual 75, 3) := by decide +kernel
theorem dX1_makeRounds_32 : decode cX1_makeRounds 32 = .ok (.invokevirtual 176, 3) := by decide +kernel
theorem dX1_makeRounds_35 : decode cX1_makeRounds 35 = .ok (.pop, 1) := by decide +kernel
theorem dX1_makeRounds_36 : decode cX1_makeRounds 36 = .ok (.iinc 4 1, 3) := by decide +kernel
theorem dX1_makeRounds_39 : decode cX1_makeRounds 39 = .ok (.goto (-27), 3) := by decide +kernel
theorem dX1_makeRounds_42 : decode cX1_makeRounds 42 = .ok (.iload_n 2, 1) := by decide +kernel
theorem dX1_makeRounds_43 : decode cX1_makeRounds 43 = .ok (.aload_n 0, 1) := by decide +kernel
theorem dX1_makeRounds_44 : decode cX1_makeRounds 44 = .ok (.aload_n 0, 1) := by decide +kernel
theorem dX1_makeRounds_45 : decode cX1_makeRounds 45 = .ok (.getfield 41, 3) := by decide +kernel
theorem dX1_makeRounds_48 : decode cX1_makeRounds 48 = .ok (.getfield 71, 3) := by decide +kernel
theorem dX1_makeRounds_51 : decode cX1_makeRounds 51 = .ok (.invokevirtual 179, 3) := by decide +kernel
theorem dX1_makeRounds_54 : decode cX1_makeRounds 54 = .ok (.iadd, 1) := by decide +kernel
theorem dX1_makeRounds_55 : decode cX1_makeRounds 55 = .ok (.istore_n 2, 1) := by decide +kernel
theorem dX1_makeRounds_56 : decode cX1_makeRounds 56 = .ok (.iinc 3 1, 3) := by decide +kernel
theorem dX1_makeRounds_59 : decode cX1_makeRounds 59 = .ok (.goto (-55), 3) := by decide +kernel
theorem dX1_makeRounds_62 : decode cX1_makeRounds 62 = .ok (.iload_n 2, 1) := by decide +kernel
theorem dX1_makeRounds_63 : decode cX1_makeRounds 63 = .ok (.ireturn, 1) := by decide +kernel
theorem dX1_letPass_0 : decode cX1_letPass 0 = .ok (.aload_n 0, 1) := by decide +kernel
theorem dX1_letPass_1 : decode cX1_letPass 1 = .ok (.dup, 1) := by decide +kernel
theorem dX1_letPass_2 : decode cX1_letPass 2 = .ok (.getfield 72, 3) := by decide +kernel
theorem dX1_letPass_5 : decode cX1_letPass 5 = .ok (.iload_n 1, 1) := by decide +kernel
theorem dX1_letPass_6 : decode cX1_letPass 6 = .ok (.iadd, 1) := by decide +kernel
theorem dX1_letPass_7 : decode cX1_letPass 7 = .ok (.putfield 72, 3) := by decide +kernel
theorem dX1_letPass_10 : decode cX1_letPass 10 = .ok (.iconst 0, 1) := by decide +kernel
theorem dX1_letPass_11 : decode cX1_letPass 11 = .ok (.istore_n 2, 1) := by decide +kernel
theorem dX1_letPass_12 : decode cX1_letPass 12 = .ok (.iconst 0, 1) := by decide +kernel
theorem dX1_letPass_13 : decode cX1_letPass 13 = .ok (.istore_n 3, 1) := by decide +kernel
theorem dX1_letPass_14 : decode cX1_letPass 14 = .ok (.iload_n 3, 1) := by decide +kernel
theorem dX1_letPass_15 : decode cX1_letPass 15 = .ok (.aload_n 0, 1) := by decide +kernel
theorem dX1_letPass_16 : decode cX1_letPass 16 = .ok (.getfield 18, 3) := by decide +kernel
theorem dX1_letPass_19 : decode cX1_letPass 19 = .ok (.getfield 57, 3) := by decide +kernel
theorem dX1_letPass_22 : decode cX1_letPass 22 = .ok (.if_icmp .ge 57, 3) := by decide +kernel
theorem dX1_letPass_25 : decode cX1_letPass 25 = .ok (.aload_n 0, 1) := by decide +kernel
theorem dX1_letPass_26 : decode cX1_letPass 26 = .ok (.iload_n 3, 1) := by decide +kernel
theorem dX1_letPass_27 : decode cX1_letPass 27 = .ok (.invokevirtual 67, 3) := by decide +kernel
theorem dX1_letPass_30 : decode cX1_letPass 30 = .ok (.astore 4, 2) := by decide +kernel
theorem dX1_letPass_32 : decode cX1_letPass 32 = .ok (.aload 4, 2) := by decide +kernel
theorem dX1_letPass_34 : decode cX1_letPass 34 = .ok (.getfield 71, 3) := by decide +kernel
theorem dX1_letPass_37 : decode cX1_letPass 37 = .ok (.iconst 1, 1) := by decide +kernel
theorem dX1_letPass_38 : decode cX1_letPass 38 = .ok (.isub, 1) := by decide +kernel
theorem dX1_letPass_39 : decode cX1_letPass 39 = .ok (.istore 5, 2) := by decide +kernel
theorem dX1_letPass_41 : decode cX1_letPass 41 = .ok (.iload 5, 2) := by decide +kernel
theorem dX1_letPass_43 : decode cX1_letPass 43 = .ok (.ifCond .lt 30, 3) := by decide +kernel
theorem dX1_letPass_46 : decode cX1_letPass 46 = .ok (.aload_n 0, 1) := by decide +kernel
theorem dX1_letPass_47 : decode cX1_letPass 47 = .ok (.aload 4, 2) := by decide +kernel
theorem dX1_letPass_49 : decode cX1_letPass 49 = .ok (.iload 5, 2) := by decide +kernel
theorem dX1_letPass_51 : decode cX1_letPass 51 = .ok (.invokevirtual 162, 3) := by decide +kernel
theorem dX1_letPass_54 : decode cX1_letPass 54 = .ok (.ifCond .eq 13, 3) := by decide +kernel
theorem dX1_letPass_57 : decode cX1_letPass 57 = .ok (.aload 4, 2) := by decide +kernel
theorem dX1_letPass_59 : decode cX1_letPass 59 = .ok (.iload 5, 2) := by decide +kernel
theorem dX1_letPass_61 : decode cX1_letPass 61 = .ok (.invokevirtual 121, 3) := by decide +kernel
theorem dX1_letPass_64 : decode cX1_letPass 64 = .ok (.iinc 2 1, 3) := by decide +kernel
theorem dX1_letPass_67 : decode cX1_letPass 67 = .ok (.iinc 5 (-1), 3) := by decide +kernel
theorem dX1_letPass_70 : decode cX1_letPass 70 = .ok (.goto (-29), 3) := by decide +kernel
theorem dX1_letPass_73 : decode cX1_letPass 73 = .ok (.iinc 3 1, 3) := by decide +kernel
theorem dX1_letPass_76 : decode cX1_letPass 76 = .ok (.goto (-62), 3) := by decide +kernel
theorem dX1_letPass_79 : decode cX1_letPass 79 = .ok (.iload_n 2, 1) := by decide +kernel
theorem dX1_letPass_80 : decode cX1_letPass 80 = .ok (.ireturn, 1) := by decide +kernel
theorem dX2_init_0 : decode cX2_init 0 = .ok (.aload_n 0, 1) := by decide +kernel
theorem dX2_init_1 : decode cX2_init 1 = .ok (.invokespecial 3, 3) := by decide +kernel
theorem dX2_init_4 : decode cX2_init 4 = .ok (.aload_n 0, 1) := by decide +kernel
theorem dX2_init_5 : decode cX2_init 5 = .ok (.bipush 6, 2) := by decide +kernel
theorem dX2_init_7 : decode cX2_init 7 = .ok (.anewarray 9, 3) := by decide +kernel
theorem dX2_init_10 : decode cX2_init 10 = .ok (.putfield 11, 3) := by decide +kernel
theorem dX2_init_13 : decode cX2_init 13 = .ok (.return_, 1) := by decide +kernel
theorem dX2_push_0 : decode cX2_push 0 = .ok (.aload_n 0, 1) := by decide +kernel
theorem dX2_push_1 : decode cX2_push 1 = .ok (.getfield 17, 3) := by decide +kernel
theorem dX2_push_4 : decode cX2_push 4 = .ok (.aload_n 0, 1) := by decide +kernel
theorem dX2_push_5 : decode cX2_push 5 = .ok (.getfield 11, 3) := by decide +kernel
theorem dX2_push_8 : decode cX2_push 8 = .ok (.arraylength, 1) := by decide +kernel
theorem dX2_push_9 : decode cX2_push 9 = .ok (.if_icmp .lt 7, 3) := by decide +kernel
theorem dX2_push_12 : decode cX2_push 12 = .ok (.aload_n 0, 1) := by decide +kernel
theorem dX2_push_13 : decode cX2_push 13 = .ok (.invokevirtual 21, 3) := by decide +kernel
theorem dX2_push_16 : decode cX2_push 16 = .ok (.aload_n 0, 1) := by decide +kernel
theorem dX2_push_17 : decode cX2_push 17 = .ok (.getfield 17, 3) := by decide +kernel
theorem dX2_push_20 : decode cX2_push 20 = .ok (.ifCond .lt 62, 3) := by decide +kernel
theorem dX2_push_23 : decode cX2_push 23 = .ok (.aload_n 0, 1) := by decide +kernel
theorem dX2_push_24 : decode cX2_push 24 = .ok (.getfield 17, 3) := by decide +kernel
theorem dX2_push_27 : decode cX2_push 27 = .ok (.aload_n 0, 1) := by decide +kernel
theorem dX2_push_28 : decode cX2_push 28 = .ok (.getfield 11, 3) := by decide +kernel
theorem dX2_push_31 : decode cX2_push 31 = .ok (.arraylength, 1) := by decide +kernel
theorem dX2_push_32 : decode cX2_push 32 = .ok (.if_icmp .ge 50, 3) := by decide +kernel
theorem dX2_push_35 : decode cX2_push 35 = .ok (.aload_n 0, 1) := by decide +kernel
theorem dX2_push_36 : decode cX2_push 36 = .ok (.getfield 11, 3) := by decide +kernel
theorem dX2_push_39 : decode cX2_push 39 = .ok (.aload_n 0, 1) := by decide +kernel
theorem dX2_push_40 : decode cX2_push 40 = .ok (.getfield 17, 3) := by decide +kernel
theorem dX2_push_43 : decode cX2_push 43 = .ok (.aaload, 1) := by decide +kernel
theorem dX2_push_44 : decode cX2_push 44 = .ok (.astore_n 2, 1) := by decide +kernel
theorem dX2_push_45 : decode cX2_push 45 = .ok (.aload_n 2, 1) := by decide +kernel
theorem dX2_push_46 : decode cX2_push 46 = .ok (.ifnonnull 21, 3) := by decide +kernel
theorem dX2_push_49 : decode cX2_push 49 = .ok (.new 9, 3) := by decide +kernel
theorem dX2_push_52 : decode cX2_push 52 = .ok (.dup, 1) := by decide +kernel
theorem dX2_push_53 : decode cX2_push 53 = .ok (.invokespecial 24, 3) := by decide +kernel
theorem dX2_push_56 : decode cX2_push 56 = .ok (.astore_n 2, 1) := by decide +kernel
theorem dX2_push_57 : decode cX2_push 57 = .ok (.aload_n 0, 1) := by decide +kernel
theorem dX2_push_58 : decode cX2_push 58 = .ok (.getfield 11, 3) := by decide +kernel
theorem dX2_push_61 : decode cX2_push 61 = .ok (.aload_n 0, 1) := by decide +kernel
theorem dX2_push_62 : decode cX2_push 62 = .ok (.getfield 17, 3) := by decide +kernel
theorem dX2_push_65 : decode cX2_push 65 = .ok (.aload_n 2, 1) := by decide +kernel
theorem dX2_push_66 : decode cX2_push 66 = .ok (.aastore, 1) := by decide +kernel
theorem dX2_push_67 : decode cX2_push 67 = .ok (.aload_n 2, 1) := by decide +kernel
theorem dX2_push_68 : decode cX2_push 68 = .ok (.aload_n 1, 1) := by decide +kernel
theorem dX2_push_69 : decode cX2_push 69 = .ok (.invokevirtual 25, 3) := by decide +kernel
theorem dX2_push_72 : decode cX2_push 72 = .ok (.aload_n 0, 1) := by decide +kernel
theorem dX2_push_73 : decode cX2_push 73 = .ok (.dup, 1) := by decide +kernel
theorem dX2_push_74 : decode cX2_push 74 = .ok (.getfield 17, 3) := by decide +kernel
theorem dX2_push_77 : decode cX2_push 77 = .ok (.iconst 1, 1) := by decide +kernel
theorem dX2_push_78 : decode cX2_push 78 = .ok (.iadd, 1) := by decide +kernel
theorem dX2_push_79 : decode cX2_push 79 = .ok (.putfield 17, 3) := by decide +kernel
theorem dX2_push_82 : decode cX2_push 82 = .ok (.return_, 1) := by decide +kernel
theorem dX2_dropOldest_0 : decode cX2_dropOldest 0 = .ok (.iconst 1, 1) := by decide +kernel
theorem dX2_dropOldest_1 : decode cX2_dropOldest 1 = .ok (.istore_n 1, 1) := by decide +kernel
theorem dX2_dropOldest_2 : decode cX2_dropOldest 2 = .ok (.iload_n 1, 1) := by decide +kernel
theorem dX2_dropOldest_3 : decode cX2_dropOldest 3 = .ok (.aload_n 0, 1) := by decide +kernel
theorem dX2_dropOldest_4 : decode cX2_dropOldest 4 = .ok (.getfield 11, 3) := by decide +kernel
theorem dX2_dropOldest_7 : decode cX2_dropOldest 7 = .ok (.arraylength, 1) := by decide +kernel
theorem dX2_dropOldest_8 : decode cX2_dropOldest 8 = .ok (.if_icmp .ge 39, 3) := by decide +kernel
theorem dX2_dropOldest_11 : decode cX2_dropOldest 11 = .ok (.aload_n 0, 1) := by decide +kernel
theorem dX2_dropOldest_12 : decode cX2_dropOldest 12 = .ok (.getfield 11, 3) := by decide +kernel
theorem dX2_dropOldest_15 : decode cX2_dropOldest 15 = .ok (.iload_n 1, 1) := by decide +kernel
theorem dX2_dropOldest_16 : decode cX2_dropOldest 16 = .ok (.iconst 1, 1) := by decide +kernel
theorem dX2_dropOldest_17 : decode cX2_dropOldest 17 = .ok (.isub, 1) := by decide +kernel
theorem dX2_dropOldest_18 : decode cX2_dropOldest 18 = .ok (.aaload, 1) := by decide +kernel
theorem dX2_dropOldest_19 : decode cX2_dropOldest 19 = .ok (.astore_n 2, 1) := by decide +kernel
theorem dX2_dropOldest_20 : decode cX2_dropOldest 20 = .ok (.aload_n 0, 1) := by decide +kernel
theorem dX2_dropOldest_21 : decode cX2_dropOldest 21 = .ok (.getfield 11, 3) := by decide +kernel
theorem dX2_dropOldest_24 : decode cX2_dropOldest 24 = .ok (.iload_n 1, 1) := by decide +kernel
theorem dX2_dropOldest_25 : decode cX2_dropOldest 25 = .ok (.iconst 1, 1) := by decide +kernel
theorem dX2_dropOldest_26 : decode cX2_dropOldest 26 = .ok (.isub, 1) := by decide +kernel
theorem dX2_dropOldest_27 : decode cX2_dropOldest 27 = .ok (.aload_n 0, 1) := by decide +kernel
theorem dX2_dropOldest_28 : decode cX2_dropOldest 28 = .ok (.getfield 11, 3) := by decide +kernel
theorem dX2_dropOldest_31 : decode cX2_dropOldest 31 = .ok (.iload_n 1, 1) := by decide +kernel
theorem dX2_dropOldest_32 : decode cX2_dropOldest 32 = .ok (.aaload, 1) := by decide +kernel
theorem dX2_dropOldest_33 : decode cX2_dropOldest 33 = .ok (.aastore, 1) := by decide +kernel
theorem dX2_dropOldest_34 : decode cX2_dropOldest 34 = .ok (.aload_n 0, 1) := by decide +kernel
theorem dX2_dropOldest_35 : decode cX2_dropOldest 35 = .ok (.getfield 11, 3) := by decide +kernel
theorem dX2_dropOldest_38 : decode cX2_dropOldest 38 = .ok (.iload_n 1, 1) := by decide +kernel
theorem dX2_dropOldest_39 : decode cX2_dropOldest 39 = .ok (.aload_n 2, 1) := by decide +kernel
theorem dX2_dropOldest_40 : decode cX2_dropOldest 40 = .ok (.aastore, 1) := by decide +kernel
theorem dX2_dropOldest_41 : decode cX2_dropOldest 41 = .ok (.iinc 1 1, 3) := by decide +kernel
theorem dX2_dropOldest_44 : decode cX2_dropOldest 44 = .ok (.goto (-42), 3) := by decide +kernel
theorem dX2_dropOldest_47 : decode cX2_dropOldest 47 = .ok (.aload_n 0, 1) := by decide +kernel
theorem dX2_dropOldest_48 : decode cX2_dropOldest 48 = .ok (.dup, 1) := by decide +kernel
theorem dX2_dropOldest_49 : decode cX2_dropOldest 49 = .ok (.getfield 17, 3) := by decide +kernel
theorem dX2_dropOldest_52 : decode cX2_dropOldest 52 = .ok (.iconst 1, 1) := by decide +kernel
theorem dX2_dropOldest_53 : decode cX2_dropOldest 53 = .ok (.isub, 1) := by decide +kernel
theorem dX2_dropOldest_54 : decode cX2_dropOldest 54 = .ok (.putfield 17, 3) := by decide +kernel
theorem dX2_dropOldest_57 : decode cX2_dropOldest 57 = .ok (.return_, 1) := by decide +kernel
theorem dX3_init_0 : decode cX3_init 0 = .ok (.aload_n 0, 1) := by decide +kernel
theorem dX3_init_1 : decode cX3_init 1 = .ok (.invokespecial 3, 3) := by decide +kernel
theorem dX3_init_4 : decode cX3_init 4 = .ok (.aload_n 0, 1) := by decide +kernel
theorem dX3_init_5 : decode cX3_init 5 = .ok (.bipush 6, 2) := by decide +kernel
theorem dX3_init_7 : decode cX3_init 7 = .ok (.newarray .int, 2) := by decide +kernel
theorem dX3_init_9 : decode cX3_init 9 = .ok (.putfield 9, 3) := by decide +kernel
theorem dX3_init_12 : decode cX3_init 12 = .ok (.return_, 1) := by decide +kernel
theorem dX3_find_0 : decode cX3_find 0 = .ok (.iconst 0, 1) := by decide +kernel
theorem dX3_find_1 : decode cX3_find 1 = .ok (.istore_n 2, 1) := by decide +kernel
theorem dX3_find_2 : decode cX3_find 2 = .ok (.iload_n 2, 1) := by decide +kernel
theorem dX3_find_3 : decode cX3_find 3 = .ok (.aload_n 0, 1) := by decide +kernel
theorem dX3_find_4 : decode cX3_find 4 = .ok (.getfield 15, 3) := by decide +kernel
theorem dX3_find_7 : decode cX3_find 7 = .ok (.if_icmp .ge 30, 3) := by decide +kernel
theorem dX3_find_10 : decode cX3_find 10 = .ok (.iload_n 2, 1) := by decide +kernel
theorem dX3_find_11 : decode cX3_find 11 = .ok (.aload_n 0, 1) := by decide +kernel
theorem dX3_find_12 : decode cX3_find 12 = .ok (.getfield 9, 3) := by decide +kernel
theorem dX3_find_15 : decode cX3_find 15 = .ok (.arraylength, 1) := by decide +kernel
theorem dX3_find_16 : decode cX3_find 16 = .ok (.if_icmp .ge 21, 3) := by decide +kernel
theorem dX3_find_19 : decode cX3_find 19 = .ok (.aload_n 0, 1) := by decide +kernel
theorem dX3_find_20 : decode cX3_find 20 = .ok (.getfield 9, 3) := by decide +kernel
theorem dX3_find_23 : decode cX3_find 23 = .ok (.iload_n 2, 1) := by decide +kernel
theorem dX3_find_24 : decode cX3_find 24 = .ok (.iaload, 1) := by decide +kernel
theorem dX3_find_25 : decode cX3_find 25 = .ok (.iload_n 1, 1) := by decide +kernel
theorem dX3_find_26 : decode cX3_find 26 = .ok (.if_icmp .ne 5, 3) := by decide +kernel
theorem dX3_find_29 : decode cX3_find 29 = .ok (.iload_n 2, 1) := by decide +kernel
theorem dX3_find_30 : decode cX3_find 30 = .ok (.ireturn, 1) := by decide +kernel
theorem dX3_find_31 : decode cX3_find 31 = .ok (.iinc 2 1, 3) := by decide +kernel
theorem dX3_find_34 : decode cX3_find 34 = .ok (.goto (-32), 3) := by decide +kernel
theorem dX3_find_37 : decode cX3_find 37 = .ok (.iconst (-1), 1) := by decide +kernel
theorem dX3_find_38 : decode cX3_find 38 = .ok (.ireturn, 1) := by decide +kernel
theorem dX3_add_0 : decode cX3_add 0 = .ok (.aload_n 0, 1) := by decide +kernel
theorem dX3_add_1 : decode cX3_add 1 = .ok (.getfield 15, 3) := by decide +kernel
theorem dX3_add_4 : decode cX3_add 4 = .ok (.ifCond .lt 35, 3) := by decide +kernel
theorem dX3_add_7 : decode cX3_add 7 = .ok (.aload_n 0, 1) := by decide +kernel
theorem dX3_add_8 : decode cX3_add 8 = .ok (.getfield 15, 3) := by decide +kernel
theorem dX3_add_11 : decode cX3_add 11 = .ok (.aload_n 0, 1) := by decide +kernel
theorem dX3_add_12 : decode cX3_add 12 = .ok (.getfield 9, 3) := by decide +kernel
theorem dX3_add_15 : decode cX3_add 15 = .ok (.arraylength, 1) := by decide +kernel
theorem dX3_add_16 : decode cX3_add 16 = .ok (.if_icmp .ge 23, 3) := by decide +kernel
theorem dX3_add_19 : decode cX3_add 19 = .ok (.aload_n 0, 1) := by decide +kernel
theorem dX3_add_20 : decode cX3_add 20 = .ok (.getfield 9, 3) := by decide +kernel
theorem dX3_add_23 : decode cX3_add 23 = .ok (.aload_n 0, 1) := by decide +kernel
theorem dX3_add_24 : decode cX3_add 24 = .ok (.getfield 15, 3) := by decide +kernel
theorem dX3_add_27 : decode cX3_add 27 = .ok (.iload_n 1, 1) := by decide +kernel
theorem dX3_add_28 : decode cX3_add 28 = .ok (.iastore, 1) := by decide +kernel
theorem dX3_add_29 : decode cX3_add 29 = .ok (.aload_n 0, 1) := by decide +kernel
theorem dX3_add_30 : decode cX3_add 30 = .ok (.dup, 1) := by decide +kernel
theorem dX3_add_31 : decode cX3_add 31 = .ok (.getfield 15, 3) := by decide +kernel
theorem dX3_add_34 : decode cX3_add 34 = .ok (.iconst 1, 1) := by decide +kernel
theorem dX3_add_35 : decode cX3_add 35 = .ok (.iadd, 1) := by decide +kernel
theorem dX3_add_36 : decode cX3_add 36 = .ok (.putfield 15, 3) := by decide +kernel
theorem dX3_add_39 : decode cX3_add 39 = .ok (.return_, 1) := by decide +kernel
theorem dX3_copyFrom_0 : decode cX3_copyFrom 0 = .ok (.aload_n 0, 1) := by decide +kernel
theorem dX3_copyFrom_1 : decode cX3_copyFrom 1 = .ok (.aload_n 1, 1) := by decide +kernel
theorem dX3_copyFrom_2 : decode cX3_copyFrom 2 = .ok (.getfield 15, 3) := by decide +kernel
theorem dX3_copyFrom_5 : decode cX3_copyFrom 5 = .ok (.putfield 15, 3) := by decide +kernel
theorem dX3_copyFrom_8 : decode cX3_copyFrom 8 = .ok (.aload_n 1, 1) := by decide +kernel
theorem dX3_copyFrom_9 : decode cX3_copyFrom 9 = .ok (.getfield 9, 3) := by decide +kernel
theorem dX3_copyFrom_12 : decode cX3_copyFrom 12 = .ok (.iconst 0, 1) := by decide +kernel
theorem dX3_copyFrom_13 : decode cX3_copyFrom 13 = .ok (.aload_n 0, 1) := by decide +kernel
theorem dX3_copyFrom_14 : decode cX3_copyFrom 14 = .ok (.getfield 9, 3) := by decide +kernel
theorem dX3_copyFrom_17 : decode cX3_copyFrom 17 = .ok (.iconst 0, 1) := by decide +kernel
theorem dX3_copyFrom_18 : decode cX3_copyFrom 18 = .ok (.aload_n 1, 1) := by decide +kernel
theorem dX3_copyFrom_19 : decode cX3_copyFrom 19 = .ok (.getfield 9, 3) := by decide +kernel
theorem dX3_copyFrom_22 : decode cX3_copyFrom 22 = .ok (.arraylength, 1) := by decide +kernel
theorem dX3_copyFrom_23 : decode cX3_copyFrom 23 = .ok (.aload_n 0, 1) := by decide +kernel
theorem dX3_copyFrom_24 : decode cX3_copyFrom 24 = .ok (.getfield 9, 3) := by decide +kernel
theorem dX3_copyFrom_27 : decode cX3_copyFrom 27 = .ok (.arraylength, 1) := by decide +kernel
theorem dX3_copyFrom_28 : decode cX3_copyFrom 28 = .ok (.invokestatic 19, 3) := by decide +kernel
theorem dX3_copyFrom_31 : decode cX3_copyFrom 31 = .ok (.invokestatic 25, 3) := by decide +kernel
theorem dX3_copyFrom_34 : decode cX3_copyFrom 34 = .ok (.return_, 1) := by decide +kernel
theorem dX4_init_0 : decode cX4_init 0 = .ok (.aload_n 0, 1) := by decide +kernel
theorem dX4_init_1 : decode cX4_init 1 = .ok (.invokespecial 3, 3) := by decide +kernel
theorem dX4_init_4 : decode cX4_init 4 = .ok (.aload_n 0, 1) := by decide +kernel
theorem dX4_init_5 : decode cX4_init 5 = .ok (.iconst (-1), 1) := by decide +kernel
theorem dX4_init_6 : decode cX4_init 6 = .ok (.putfield 9, 3) := by decide +kernel
theorem dX4_init_9 : decode cX4_init 9 = .ok (.aload_n 0, 1) := by decide +kernel
theorem dX4_init_10 : decode cX4_init 10 = .ok (.aload_n 1, 1) := by decide +kernel
theorem dX4_init_11 : decode cX4_init 11 = .ok (.putfield 15, 3) := by decide +kernel
theorem dX4_init_14 : decode cX4_init 14 = .ok (.aload_n 0, 1) := by decide +kernel
theorem dX4_init_15 : decode cX4_init 15 = .ok (.aload_n 2, 1) := by decide +kernel
theorem dX4_init_16 : decode cX4_init 16 = .ok (.putfield 19, 3) := by decide +kernel
theorem dX4_init_19 : decode cX4_init 19 = .ok (.return_, 1) := by decide +kernel
theorem dX4_parse_0 : decode cX4_parse 0 = .ok (.aload_n 0, 1) := by decide +kernel
theorem dX4_parse_1 : decode cX4_parse 1 = .ok (.iconst 0, 1) := by decide +kernel
theorem dX4_parse_2 : decode cX4_parse 2 = .ok (.putfield 23, 3) := by decide +kernel
theorem dX4_parse_5 : decode cX4_parse 5 = .ok (.aload_n 0, 1) := by decide +kernel
theorem dX4_parse_6 : decode cX4_parse 6 = .ok (.iconst 0, 1) := by decide +kernel
theorem dX4_parse_7 : decode cX4_parse 7 = .ok (.putfield 26, 3) := by decide +kernel
theorem dX4_parse_10 : decode cX4_parse 10 = .ok (.aload_n 0, 1) := by decide +kernel
theorem dX4_parse_11 : decode cX4_parse 11 = .ok (.iconst (-1), 1) := by decide +kernel
theorem dX4_parse_12 : decode cX4_parse 12 = .ok (.putfield 9, 3) := by decide +kernel
theorem dX4_parse_15 : decode cX4_parse 15 = .ok (.aload_n 0, 1) := by decide +kernel
theorem dX4_parse_16 : decode cX4_parse 16 = .ok (.getfield 19, 3) := by decide +kernel
theorem dX4_parse_19 : decode cX4_parse 19 = .ok (.invokevirtual 29, 3) := by decide +kernel
theorem dX4_parse_22 : decode cX4_parse 22 = .ok (.aload_n 0, 1) := by decide +kernel
theorem dX4_parse_23 : decode cX4_parse 23 = .ok (.invokevirtual 34, 3) := by decide +kernel
theorem dX4_parse_26 : decode cX4_parse 26 = .ok (.aload_n 0, 1) := by decide +kernel
theorem dX4_parse_27 : decode cX4_parse 27 = .ok (.invokevirtual 37, 3) := by decide +kernel
theorem dX4_parse_30 : decode cX4_parse 30 = .ok (.istore_n 1, 1) := by decide +kernel
theorem dX4_parse_31 : decode cX4_parse 31 = .ok (.iconst 0, 1) := by decide +kernel
theorem dX4_parse_32 : decode cX4_parse 32 = .ok (.istore_n 2, 1) := by decide +kernel
theorem dX4_parse_33 : decode cX4_parse 33 = .ok (.iload_n 2, 1) := by decide +kernel
theorem dX4_parse_34 : decode cX4_parse 34 = .ok (.sipush 600, 3) := by decide +kernel
theorem dX4_parse_37 : decode cX4_parse 37 = .ok (.if_icmp .ge 108, 3) := by decide +kernel
theorem dX4_parse_40 : decode cX4_parse 40 = .ok (.iload_n 1, 1) := by decide +kernel
theorem dX4_parse_41 : decode cX4_parse 41 = .ok (.ifCond .eq 104, 3) := by decide +kernel
theorem dX4_parse_44 : decode cX4_parse 44 = .ok (.aload_n 0, 1) := by decide +kernel
theorem dX4_parse_45 : decode cX4_parse 45 = .ok (.getfield 41, 3) := by decide +kernel
theorem dX4_parse_48 : decode cX4_parse 48 = .ok (.ifCond .eq 97, 3) := by decide +kernel
theorem dX4_parse_51 : decode cX4_parse 51 = .ok (.aload_n 0, 1) := by decide +kernel
theorem dX4_parse_52 : decode cX4_parse 52 = .ok (.ldc 44, 2) := by decide +kernel
theorem dX4_parse_54 : decode cX4_parse 54 = .ok (.invokevirtual 46, 3) := by decide +kernel
theorem dX4_parse_57 : decode cX4_parse 57 = .ok (.ifCond .eq 18, 3) := by decide +kernel
theorem dX4_parse_60 : decode cX4_parse 60 = .ok (.aload_n 0, 1) := by decide +kernel
theorem dX4_parse_61 : decode cX4_parse 61 = .ok (.aload_n 0, 1) := by decide +kernel
theorem dX4_parse_62 : decode cX4_parse 62 = .ok (.getfield 19, 3) := by decide +kernel
theorem dX4_parse_65 : decode cX4_parse 65 = .ok (.getfield 50, 3) := by decide +kernel
theorem dX4_parse_68 : decode cX4_parse 68 = .ok (.invokevirtual 54, 3) := by decide +kernel
theorem dX4_parse_71 : decode cX4_parse 71 = .ok (.istore_n 1, 1) := by decide +kernel
theorem dX4_parse_72 : decode cX4_parse 72 = .ok (.goto 67, 3) := by decide +kernel
theorem dX4_parse_75 : decode cX4_parse 75 = .ok (.aload_n 0, 1) := by decide +kernel
theorem dX4_parse_76 : decode cX4_parse 76 = .ok (.ldc 58, 2) := by decide +kernel
theorem dX4_parse_78 : decode cX4_parse 78 = .ok (.invokevirtual 46, 3) := by decide +kernel
theorem dX4_parse_81 : decode cX4_parse 81 = .ok (.ifCond .eq 18, 3) := by decide +kernel
theorem dX4_parse_84 : decode cX4_parse 84 = .ok (.aload_n 0, 1) := by decide +kernel
theorem dX4_parse_85 : decode cX4_parse 85 = .ok (.aload_n 0, 1) := by decide +kernel
theorem dX4_parse_86 : decode cX4_parse 86 = .ok (.getfield 19, 3) := by decide +kernel
theorem dX4_parse_89 : decode cX4_parse 89 = .ok (.getfield 60, 3) := by decide +kernel
theorem dX4_parse_92 : decode cX4_parse 92 = .ok (.invokevirtual 54, 3) := by decide +kernel
theorem dX4_parse_95 : decode cX4_parse 95 = .ok (.istore_n 1, 1) := by decide +kernel
theorem dX4_parse_96 : decode cX4_parse 96 = .ok (.goto 43, 3) := by decide +kernel
theorem dX4_parse_99 : decode cX4_parse 99 = .ok (.aload_n 0, 1) := by decide +kernel
theorem dX4_parse_100 : decode cX4_parse 100 = .ok (.ldc 63, 2) := by decide +kernel
theorem dX4_parse_102 : decode cX4_parse 102 = .ok (.invokevirtual 46, 3) := by decide +kernel
theorem dX4_parse_105 : decode cX4_parse 105 = .ok (.ifCond .eq 11, 3) := by decide +kernel
theorem dX4_parse_108 : decode cX4_parse 108 = .ok (.aload_n 0, 1) := by decide +kernel
theorem dX4_parse_109 : decode cX4_parse 109 = .ok (.invokevirtual 65, 3) := by decide +kernel
theorem dX4_parse_112 : decode cX4_parse 112 = .ok (.istore_n 1, 1) := by decide +kernel
theorem dX4_parse_113 : decode cX4_parse 113 = .ok (.goto 26, 3) := by decide +kernel
theorem dX4_parse_116 : decode cX4_parse 116 = .ok (.aload_n 0, 1) := by decide +kernel
theorem dX4_parse_117 : decode cX4_parse 117 = .ok (.ldc 68, 2) := by decide +kernel
theorem dX4_parse_119 : decode cX4_parse 119 = .ok (.invokevirtual 46, 3) := by decide +kernel
theorem dX4_parse_122 : decode cX4_parse 122 = .ok (.ifCond .eq 11, 3) := by decide +kernel
theorem dX4_parse_125 : decode cX4_parse 125 = .ok (.aload_n 0, 1) := by decide +kernel
theorem dX4_parse_126 : decode cX4_parse 126 = .ok (.invokevirtual 70, 3) := by decide +kernel
theorem dX4_parse_129 : decode cX4_parse 129 = .ok (.istore_n 1, 1) := by decide +kernel
theorem dX4_parse_130 : decode cX4_parse 130 = .ok (.goto 9, 3) := by decide +kernel
theorem dX4_parse_133 : decode cX4_parse 133 = .ok (.aload_n 0, 1) := by decide +kernel
theorem dX4_parse_134 : decode cX4_parse 134 = .ok (.iconst 1, 1) := by decide +kernel
theorem dX4_parse_135 : decode cX4_parse 135 = .ok (.invokevirtual 73, 3) := by decide +kernel
theorem dX4_parse_138 : decode cX4_parse 138 = .ok (.istore_n 1, 1) := by decide +kernel
theorem dX4_parse_139 : decode cX4_parse 139 = .ok (.iinc 2 1, 3) := by decide +kernel
theorem dX4_parse_142 : decode cX4_parse 142 = .ok (.goto (-109), 3) := by decide +kernel
theorem dX4_parse_145 : decode cX4_parse 145 = .ok (.iload_n 1, 1) := by decide +kernel
theorem dX4_parse_146 : decode cX4_parse 146 = .ok (.ireturn, 1) := by decide +kernel
theorem dX4_readRules_0 : decode cX4_readRules 0 = .ok (.aload_n 0, 1) := by decide +kernel
theorem dX4_readRules_1 : decode cX4_readRules 1 = .ok (.ldc 77, 2) := by decide +kernel
theorem dX4_readRules_3 : decode cX4_readRules 3 = .ok (.invokevirtual 79, 3) := by decide +kernel
theorem dX4_readRules_6 : decode cX4_readRules 6 = .ok (.ifCond .eq 64, 3) := by decide +kernel
theorem dX4_readRules_9 : decode cX4_readRules 9 = .ok (.aload_n 0, 1) := by decide +kernel
theorem dX4_readRules_10 : decode cX4_readRules 10 = .ok (.ldc 82, 2) := by decide +kernel
theorem dX4_readRules_12 : decode cX4_readRules 12 = .ok (.iconst 0, 1) := by decide +kernel
theorem dX4_readRules_13 : decode cX4_readRules 13 = .ok (.invokevirtual 84, 3) := by decide +kernel
theorem dX4_readRules_16 : decode cX4_readRules 16 = .ok (.ifCond .eq 54, 3) := by decide +kernel
theorem dX4_readRules_19 : decode cX4_readRules 19 = .ok (.aload_n 0, 1) := by decide +kernel
theorem dX4_readRules_20 : decode cX4_readRules 20 = .ok (.ldc 88, 2) := by decide +kernel
theorem dX4_readRules_22 : decode cX4_readRules 22 = .ok (.iconst 1, 1) := by decide +kernel
theorem dX4_readRules_23 : decode cX4_readRules 23 = .ok (.invokevirtual 84, 3) := by decide +kernel
theorem dX4_readRules_26 : decode cX4_readRules 26 = .ok (.ifCond .eq 44, 3) := by decide +kernel
theorem dX4_readRules_29 : decode cX4_readRules 29 = .ok (.aload_n 0, 1) := by decide +kernel
theorem dX4_readRules_30 : decode cX4_readRules 30 = .ok (.ldc 90, 2) := by decide +kernel
theorem dX4_readRules_32 : decode cX4_readRules 32 = .ok (.iconst 2, 1) := by decide +kernel
theorem dX4_readRules_33 : decode cX4_readRules 33 = .ok (.invokevirtual 84, 3) := by decide +kernel
theorem dX4_readRules_36 : decode cX4_readRules 36 = .ok (.ifCond .eq 34, 3) := by decide +kernel
theorem dX4_readRules_39 : decode cX4_readRules 39 = .ok (.aload_n 0, 1) := by decide +kernel
theorem dX4_readRules_40 : decode cX4_readRules 40 = .ok (.ldc 92, 2) := by decide +kernel
theorem dX4_readRules_42 : decode cX4_readRules 42 = .ok (.iconst 3, 1) := by decide +kernel
theorem dX4_readRules_43 : decode cX4_readRules 43 = .ok (.invokevirtual 84, 3) := by decide +kernel
theorem dX4_readRules_46 : decode cX4_readRules 46 = .ok (.ifCond .eq 24, 3) := by decide +kernel
theorem dX4_readRules_49 : decode cX4_readRules 49 = .ok (.aload_n 0, 1) := by decide +kernel
theorem dX4_readRules_50 : decode cX4_readRules 50 = .ok (.ldc 94, 2) := by decide +kernel
theorem dX4_readRules_52 : decode cX4_readRules 52 = .ok (.iconst 4, 1) := by decide +kernel
theorem dX4_readRules_53 : decode cX4_readRules 53 = .ok (.invokevirtual 84, 3) := by decide +kernel
theorem dX4_readRules_56 : decode cX4_readRules 56 = .ok (.ifCond .eq 14, 3) := by decide +kernel
theorem dX4_readRules_59 : decode cX4_readRules 59 = .ok (.aload_n 0, 1) := by decide +kernel
theorem dX4_readRules_60 : decode cX4_readRules 60 = .ok (.invokevirtual 96, 3) := by decide +kernel
theorem dX4_readRules_63 : decode cX4_readRules 63 = .ok (.ifCond .eq 7, 3) := by decide +kernel
theorem dX4_readRules_66 : decode cX4_readRules 66 = .ok (.iconst 1, 1) := by decide +kernel
theorem dX4_readRules_67 : decode cX4_readRules 67 = .ok (.goto 4, 3) := by decide +kernel
theorem dX4_readRules_70 : decode cX4_readRules 70 = .ok (.iconst 0, 1) := by decide +kernel
theorem dX4_readRules_71 : decode cX4_readRules 71 = .ok (.ireturn, 1) := by decide +kernel
theorem dX4_readRule_0 : decode cX4_readRule 0 = .ok (.iload_n 2, 1) := by decide +kernel
theorem dX4_readRule_1 : decode cX4_readRule 1 = .ok (.ifCond .lt 33, 3) := by decide +kernel
theorem dX4_readRule_4 : decode cX4_readRule 4 = .ok (.iload_n 2, 1) := by decide +kernel
theorem dX4_readRule_5 : decode cX4_readRule 5 = .ok (.iconst 5, 1) := by decide +kernel
theorem dX4_readRule_6 : decode cX4_readRule 6 = .ok (.if_icmp .ge 28, 3) := by decide +kernel
theorem dX4_readRule_9 : decode cX4_readRule 9 = .ok (.aload_n 0, 1) := by decide +kernel
theorem dX4_readRule_10 : decode cX4_readRule 10 = .ok (.aload_n 1, 1) := by decide +kernel
theorem dX4_readRule_11 : decode cX4_readRule 11 = .ok (.invokevirtual 79, 3) := by decide +kernel
theorem dX4_readRule_14 : decode cX4_readRule 14 = .ok (.ifCond .eq 20, 3) := by decide +kernel
theorem dX4_readRule_17 : decode cX4_readRule 17 = .ok (.aload_n 0, 1) := by decide +kernel
theorem dX4_readRule_18 : decode cX4_readRule 18 = .ok (.getstatic 99, 3) := by decide +kernel
theorem dX4_readRule_21 : decode cX4_readRule 21 = .ok (.iload_n 2, 1) := by decide +kernel
theorem dX4_readRule_22 : decode cX4_readRule 22 = .ok (.iaload, 1) := by decide +kernel
theorem dX4_readRule_23 : decode cX4_readRule 23 = .ok (.getstatic 103, 3) := by decide +kernel
theorem dX4_readRule_26 : decode cX4_readRule 26 = .ok (.iload_n 2, 1) := by decide +kernel
theorem dX4_readRule_27 : decode cX4_readRule 27 = .ok (.iaload, 1) := by decide +kernel
theorem dX4_readRule_28 : decode cX4_readRule 28 = .ok (.invokevirtual 106, 3) := by decide +kernel
theorem dX4_readRule_31 : decode cX4_readRule 31 = .ok (.ifCond .ne 5, 3) := by decide +kernel
theorem dX4_readRule_34 : decode cX4_readRule 34 = .ok (.iconst 0, 1) := by decide +kernel
theorem dX4_readRule_35 : decode cX4_readRule 35 = .ok (.ireturn, 1) := by decide +kernel
theorem dX4_readRule_36 : decode cX4_readRule 36 = .ok (.aload_n 0, 1) := by decide +kernel
theorem dX4_readRule_37 : decode cX4_readRule 37 = .ok (.getfield 19, 3) := by decide +kernel
theorem dX4_readRule_40 : decode cX4_readRule 40 = .ok (.iload_n 2, 1) := by decide +kernel
theorem dX4_readRule_41 : decode cX4_readRule 41 = .ok (.aload_n 0, 1) := by decide +kernel
theorem dX4_readRule_42 : decode cX4_readRule 42 = .ok (.getfield 110, 3) := by decide +kernel
theorem dX4_readRule_45 : decode cX4_readRule 45 = .ok (.invokevirtual 113, 3) := by decide +kernel
theorem dX4_readRule_48 : decode cX4_readRule 48 = .ok (.iconst 1, 1) := by decide +kernel
theorem dX4_readRule_49 : decode cX4_readRule 49 = .ok (.ireturn, 1) := by decide +kernel
theorem dX4_readNewName_0 : decode cX4_readNewName 0 = .ok (.aload_n 1, 1) := by decide +kernel
theorem dX4_readNewName_1 : decode cX4_readNewName 1 = .ok (.getfield 117, 3) := by decide +kernel
theorem dX4_readNewName_4 : decode cX4_readNewName 4 = .ok (.bipush 6, 2) := by decide +kernel
theorem dX4_readNewName_6 : decode cX4_readNewName 6 = .ok (.if_icmp .lt 9, 3) := by decide +kernel
theorem dX4_readNewName_9 : decode cX4_readNewName 9 = .ok (.aload_n 0, 1) := by decide +kernel
theorem dX4_readNewName_10 : decode cX4_readNewName 10 = .ok (.iconst 4, 1) := by decide +kernel
theorem dX4_readNewName_11 : decode cX4_readNewName 11 = .ok (.invokevirtual 73, 3) := by decide +kernel
theorem dX4_readNewName_14 : decode cX4_readNewName 14 = .ok (.ireturn, 1) := by decide +kernel
theorem dX4_readNewName_15 : decode cX4_readNewName 15 = .ok (.aload_n 0, 1) := by decide +kernel
theorem dX4_readNewName_16 : decode cX4_readNewName 16 = .ok (.invokevirtual 34, 3) := by decide +kernel
theorem dX4_readNewName_19 : decode cX4_readNewName 19 = .ok (.aload_n 0, 1) := by decide +kernel
theorem dX4_readNewName_20 : decode cX4_readNewName 20 = .ok (.invokevirtual 122, 3) := by decide +kernel
theorem dX4_readNewName_23 : decode cX4_readNewName 23 = .ok (.ifCond .ne 9, 3) := by decide +kernel
theorem dX4_readNewName_26 : decode cX4_readNewName 26 = .ok (.aload_n 0, 1) := by decide +kernel
theorem dX4_readNewName_27 : decode cX4_readNewName 27 = .ok (.iconst 1, 1) := by decide +kernel
theorem dX4_readNewName_28 : decode cX4_readNewName 28 = .ok (.invokevirtual 73, 3) := by decide +kernel
theorem dX4_readNewName_31 : decode cX4_readNewName 31 = .ok (.ireturn, 1) := by decide +kernel
theorem dX4_readNewName_32 : decode cX4_readNewName 32 = .ok (.aload_n 0, 1) := by decide +kernel
theorem dX4_readNewName_33 : decode cX4_readNewName 33 = .ok (.getfield 15, 3) := by decide +kernel
theorem dX4_readNewName_36 : decode cX4_readNewName 36 = .ok (.aload_n 0, 1) := by decide +kernel
theorem dX4_readNewName_37 : decode cX4_readNewName 37 = .ok (.getfield 125, 3) := by decide +kernel
theorem dX4_readNewName_40 : decode cX4_readNewName 40 = .ok (.aload_n 0, 1) := by decide +kernel
theorem dX4_readNewName_41 : decode cX4_readNewName 41 = .ok (.getfield 23, 3) := by decide +kernel
theorem dX4_readNewName_44 : decode cX4_readNewName 44 = .ok (.invokevirtual 128, 3) := by decide +kernel
theorem dX4_readNewName_47 : decode cX4_readNewName 47 = .ok (.istore_n 2, 1) := by decide +kernel
theorem dX4_readNewName_48 : decode cX4_readNewName 48 = .ok (.aload_n 1, 1) := by decide +kernel
theorem dX4_readNewName_49 : decode cX4_readNewName 49 = .ok (.iload_n 2, 1) := by decide +kernel
theorem dX4_readNewName_50 : decode cX4_readNewName 50 = .ok (.invokevirtual 134, 3) := by decide +kernel
theorem dX4_readNewName_53 : decode cX4_readNewName 53 = .ok (.iconst (-1), 1) := by decide +kernel
theorem dX4_readNewName_54 : decode cX4_readNewName 54 = .ok (.if_icmp .eq 9, 3) := by decide +kernel
theorem dX4_readNewName_57 : decode cX4_readNewName 57 = .ok (.aload_n 0, 1) := by decide +kernel
theorem dX4_readNewName_58 : decode cX4_readNewName 58 = .ok (.iconst 3, 1) := by decide +kernel
theorem dX4_readNewName_59 : decode cX4_readNewName 59 = .ok (.invokevirtual 73, 3) := by decide +kernel
theorem dX4_readNewName_62 : decode cX4_readNewName 62 = .ok (.ireturn, 1) := by decide +kernel
theorem dX4_readNewName_63 : decode cX4_readNewName 63 = .ok (.aload_n 1, 1) := by decide +kernel
theorem dX4_readNewName_64 : decode cX4_readNewName 64 = .ok (.iload_n 2, 1) := by decide +kernel
theorem dX4_readNewName_65 : decode cX4_readNewName 65 = .ok (.invokevirtual 138, 3) := by decide +kernel
theorem dX4_readNewName_68 : decode cX4_readNewName 68 = .ok (.aload_n 0, 1) := by decide +kernel
theorem dX4_readNewName_69 : decode cX4_readNewName 69 = .ok (.invokevirtual 34, 3) := by decide +kernel
theorem dX4_readNewName_72 : decode cX4_readNewName 72 = .ok (.aload_n 0, 1) := by decide +kernel
theorem dX4_readNewName_73 : decode cX4_readNewName 73 = .ok (.invokevirtual 96, 3) := by decide +kernel
theorem dX4_readNewName_76 : decode cX4_readNewName 76 = .ok (.ireturn, 1) := by decide +kernel
theorem dX4_readLink_0 : decode cX4_readLink 0 = .ok (.aload_n 0, 1) := by decide +kernel
theorem dX4_readLink_1 : decode cX4_readLink 1 = .ok (.invokevirtual 34, 3) := by decide +kernel
theorem dX4_readLink_4 : decode cX4_readLink 4 = .ok (.aload_n 0, 1) := by decide +kernel
theorem dX4_readLink_5 : decode cX4_readLink 5 = .ok (.aload_n 0, 1) := by decide +kernel
theorem dX4_readLink_6 : decode cX4_readLink 6 = .ok (.getfield 19, 3) := by decide +kernel
theorem dX4_readLink_9 : decode cX4_readLink 9 = .ok (.getfield 50, 3) := by decide +kernel
theorem dX4_readLink_12 : decode cX4_readLink 12 = .ok (.invokevirtual 142, 3) := by decide +kernel
theorem dX4_readLink_15 : decode cX4_readLink 15 = .ok (.ifCond .ne 5, 3) := by decide +kernel
theorem dX4_readLink_18 : decode cX4_readLink 18 = .ok (.iconst 0, 1) := by decide +kernel
theorem dX4_readLink_19 : decode cX4_readLink 19 = .ok (.ireturn, 1) := by decide +kernel
theorem dX4_readLink_20 : decode cX4_readLink 20 = .ok (.aload_n 0, 1) := by decide +kernel
theorem dX4_readLink_21 : decode cX4_readLink 21 = .ok (.getfield 110, 3) := by decide +kernel
theorem dX4_readLink_24 : decode cX4_readLink 24 = .ok (.istore_n 1, 1) := by decide +kernel
theorem dX4_readLink_25 : decode cX4_readLink 25 = .ok (.aload_n 0, 1) := by decide +kernel
theorem dX4_readLink_26 : decode cX4_readLink 26 = .ok (.invokevirtual 34, 3) := by decide +kernel
theorem dX4_readLink_29 : decode cX4_readLink 29 = .ok (.aload_n 0, 1) := by decide +kernel
theorem dX4_readLink_30 : decode cX4_readLink 30 = .ok (.aload_n 0, 1) := by decide +kernel
theorem dX4_readLink_31 : decode cX4_readLink 31 = .ok (.getfield 19, 3) := by decide +kernel
theorem dX4_readLink_34 : decode cX4_readLink 34 = .ok (.getfield 50, 3) := by decide +kernel
theorem dX4_readLink_37 : decode cX4_readLink 37 = .ok (.invokevirtual 142, 3) := by decide +kernel
theorem dX4_readLink_40 : decode cX4_readLink 40 = .ok (.ifCond .ne 5, 3) := by decide +kernel
theorem dX4_readLink_43 : decode cX4_readLink 43 = .ok (.iconst 0, 1) := by decide +kernel
theorem dX4_readLink_44 : decode cX4_readLink 44 = .ok (.ireturn, 1) := by decide +kernel
theorem dX4_readLink_45 : decode cX4_readLink 45 = .ok (.aload_n 0, 1) := by decide +kernel
theorem dX4_readLink_46 : decode cX4_readLink 46 = .ok (.getfield 110, 3) := by decide +kernel
theorem dX4_readLink_49 : decode cX4_readLink 49 = .ok (.istore_n 2, 1) := by decide +kernel
theorem dX4_readLink_50 : decode cX4_readLink 50 = .ok (.iload_n 2, 1) := by decide +kernel
theorem dX4_readLink_51 : decode cX4_readLink 51 = .ok (.iload_n 1, 1) := by decide +kernel
theorem dX4_readLink_52 : decode cX4_readLink 52 = .ok (.if_icmp .eq 15, 3) := by decide +kernel
theorem dX4_readLink_55 : decode cX4_readLink 55 = .ok (.aload_n 0, 1) := by decide +kernel
theorem dX4_readLink_56 : decode cX4_readLink 56 = .ok (.getfield 19, 3) := by decide +kernel
theorem dX4_readLink_59 : decode cX4_readLink 59 = .ok (.iload_n 1, 1) := by decide +kernel
theorem dX4_readLink_60 : decode cX4_readLink 60 = .ok (.iload_n 2, 1) := by decide +kernel
theorem dX4_readLink_61 : decode cX4_readLink 61 = .ok (.invokevirtual 145, 3) := by decide +kernel
theorem dX4_readLink_64 : decode cX4_readLink 64 = .ok (.ifCond .eq 9, 3) := by decide +kernel
theorem dX4_readLink_67 : decode cX4_readLink 67 = .ok (.aload_n 0, 1) := by decide +kernel
theorem dX4_readLink_68 : decode cX4_readLink 68 = .ok (.iconst 3, 1) := by decide +kernel
theorem dX4_readLink_69 : decode cX4_readLink 69 = .ok (.invokevirtual 73, 3) := by decide +kernel
theorem dX4_readLink_72 : decode cX4_readLink 72 = .ok (.ireturn, 1) := by decide +kernel
theorem dX4_readLink_73 : decode cX4_readLink 73 = .ok (.aload_n 0, 1) := by decide +kernel
theorem dX4_readLink_74 : decode cX4_readLink 74 = .ok (.invokevirtual 34, 3) := by decide +kernel
theorem dX4_readLink_77 : decode cX4_readLink 77 = .ok (.iconst 5, 1) := by decide +kernel
theorem dX4_readLink_78 : decode cX4_readLink 78 = .ok (.istore_n 3, 1) := by decide +kernel
theorem dX4_readLink_79 : decode cX4_readLink 79 = .ok (.aload_n 0, 1) := by decide +kernel
theorem dX4_readLink_80 : decode cX4_readLink 80 = .ok (.ldc 148, 2) := by decide +kernel
theorem dX4_readLink_82 : decode cX4_readLink 82 = .ok (.invokevirtual 46, 3) := by decide +kernel
theorem dX4_readLink_85 : decode cX4_readLink 85 = .ok (.ifCond .eq 24, 3) := by decide +kernel
theorem dX4_readLink_88 : decode cX4_readLink 88 = .ok (.aload_n 0, 1) := by decide +kernel
theorem dX4_readLink_89 : decode cX4_readLink 89 = .ok (.invokevirtual 34, 3) := by decide +kernel
theorem dX4_readLink_92 : decode cX4_readLink 92 = .ok (.aload_n 0, 1) := by decide +kernel
theorem dX4_readLink_93 : decode cX4_readLink 93 = .ok (.iconst 0, 1) := by decide +kernel
theorem dX4_readLink_94 : decode cX4_readLink 94 = .ok (.bipush 10, 2) := by decide +kernel
theorem dX4_readLink_96 : decode cX4_readLink 96 = .ok (.invokevirtual 106, 3) := by decide +kernel
theorem dX4_readLink_99 : decode cX4_readLink 99 = .ok (.ifCond .ne 5, 3) := by decide +kernel
theorem dX4_readLink_102 : decode cX4_readLink 102 = .ok (.iconst 0, 1) := by decide +kernel
theorem dX4_readLink_103 : decode cX4_readLink 103 = .ok (.ireturn, 1) := by decide +kernel
theorem dX4_readLink_104 : decode cX4_readLink 104 = .ok (.aload_n 0, 1) := by decide +kernel
theorem dX4_readLink_105 : decode cX4_readLink 105 = .ok (.getfield 110, 3) := by decide +kernel
theorem dX4_readLink_108 : decode cX4_readLink 108 = .ok (.istore_n 3, 1) := by decide +kernel
theorem dX4_readLink_109 : decode cX4_readLink 109 = .ok (.aload_n 0, 1) := by decide +kernel
theorem dX4_readLink_110 : decode cX4_readLink 110 = .ok (.getfield 19, 3) := by decide +kernel
theorem dX4_readLink_113 : decode cX4_readLink 113 = .ok (.iload_n 1, 1) := by decide +kernel
theorem dX4_readLink_114 : decode cX4_readLink 114 = .ok (.iload_n 2, 1) := by decide +kernel
theorem dX4_readLink_115 : decode cX4_readLink 115 = .ok (.iload_n 3, 1) := by decide +kernel
theorem dX4_readLink_116 : decode cX4_readLink 116 = .ok (.invokevirtual 150, 3) := by decide +kernel
theorem dX4_readLink_119 : decode cX4_readLink 119 = .ok (.aload_n 0, 1) := by decide +kernel
theorem dX4_readLink_120 : decode cX4_readLink 120 = .ok (.getfield 19, 3) := by decide +kernel
theorem dX4_readLink_123 : decode cX4_readLink 123 = .ok (.iload_n 2, 1) := by decide +kernel
theorem dX4_readLink_124 : decode cX4_readLink 124 = .ok (.iload_n 1, 1) := by decide +kernel
theorem dX4_readLink_125 : decode cX4_readLink 125 = .ok (.iload_n 3, 1) := by decide +kernel
theorem dX4_readLink_126 : decode cX4_readLink 126 = .ok (.invokevirtual 150, 3) := by decide +kernel
theorem dX4_readLink_129 : decode cX4_readLink 129 = .ok (.aload_n 0, 1) := by decide +kernel
theorem dX4_readLink_130 : decode cX4_readLink 130 = .ok (.invokevirtual 96, 3) := by decide +kernel
theorem dX4_readLink_133 : decode cX4_readLink 133 = .ok (.ireturn, 1) := by decide +kernel
theorem dX4_readProbe_0 : decode cX4_readProbe 0 = .ok (.aload_n 0, 1) := by decide +kernel
theorem dX4_readProbe_1 : decode cX4_readProbe 1 = .ok (.invokevirtual 34, 3) := by decide +kernel
theorem dX4_readProbe_4 : decode cX4_readProbe 4 = .ok (.aload_n 0, 1) := by decide +kernel
theorem dX4_readProbe_5 : decode cX4_readProbe 5 = .ok (.aload_n 0, 1) := by decide +kernel
theorem dX4_readProbe_6 : decode cX4_readProbe 6 = .ok (.getfield 19, 3) := by decide +kernel
theorem dX4_readProbe_9 : decode cX4_readProbe 9 = .ok (.getfield 50, 3) := by decide +kernel
theorem dX4_readProbe_12 : decode cX4_readProbe 12 = .ok (.invokevirtual 142, 3) := by decide +kernel
theorem dX4_readProbe_15 : decode cX4_readProbe 15 = .ok (.ifCond .ne 5, 3) := by decide +kernel
theorem dX4_readProbe_18 : decode cX4_readProbe 18 = .ok (.iconst 0, 1) := by decide +kernel
theorem dX4_readProbe_19 : decode cX4_readProbe 19 = .ok (.ireturn, 1) := by decide +kernel
theorem dX4_readProbe_20 : decode cX4_readProbe 20 = .ok (.aload_n 0, 1) := by decide +kernel
theorem dX4_readProbe_21 : decode cX4_readProbe 21 = .ok (.getfield 110, 3) := by decide +kernel
theorem dX4_readProbe_24 : decode cX4_readProbe 24 = .ok (.istore_n 1, 1) := by decide +kernel
theorem dX4_readProbe_25 : decode cX4_readProbe 25 = .ok (.aload_n 0, 1) := by decide +kernel
theorem dX4_readProbe_26 : decode cX4_readProbe 26 = .ok (.invokevirtual 34, 3) := by decide +kernel
theorem dX4_readProbe_29 : decode cX4_readProbe 29 = .ok (.aload_n 0, 1) := by decide +kernel
theorem dX4_readProbe_30 : decode cX4_readProbe 30 = .ok (.aload_n 0, 1) := by decide +kernel
theorem dX4_readProbe_31 : decode cX4_readProbe 31 = .ok (.getfield 19, 3) := by decide +kernel
theorem dX4_readProbe_34 : decode cX4_readProbe 34 = .ok (.getfield 60, 3) := by decide +kernel
theorem dX4_readProbe_37 : decode cX4_readProbe 37 = .ok (.invokevirtual 142, 3) := by decide +kernel
theorem dX4_readProbe_40 : decode cX4_readProbe 40 = .ok (.ifCond .ne 5, 3) := by decide +kernel
theorem dX4_readProbe_43 : decode cX4_readProbe 43 = .ok (.iconst 0, 1) := by decide +kernel
theorem dX4_readProbe_44 : decode cX4_readProbe 44 = .ok (.ireturn, 1) := by decide +kernel
theorem dX4_readProbe_45 : decode cX4_readProbe 45 = .ok (.aload_n 0, 1) := by decide +kernel
theorem dX4_readProbe_46 : decode cX4_readProbe 46 = .ok (.getfield 110, 3) := by decide +kernel
theorem dX4_readProbe_49 : decode cX4_readProbe 49 = .ok (.istore_n 2, 1) := by decide +kernel
theorem dX4_readProbe_50 : decode cX4_readProbe 50 = .ok (.aload_n 0, 1) := by decide +kernel
theorem dX4_readProbe_51 : decode cX4_readProbe 51 = .ok (.invokevirtual 34, 3) := by decide +kernel
theorem dX4_readProbe_54 : decode cX4_readProbe 54 = .ok (.aload_n 0, 1) := by decide +kernel
theorem dX4_readProbe_55 : decode cX4_readProbe 55 = .ok (.iconst 0, 1) := by decide +kernel
theorem dX4_readProbe_56 : decode cX4_readProbe 56 = .ok (.sipush 999, 3) := by decide +kernel
theorem dX4_readProbe_59 : decode cX4_readProbe 59 = .ok (.invokevirtual 106, 3) := by decide +kernel
theorem dX4_readProbe_62 : decode cX4_readProbe 62 = .ok (.ifCond .ne 5, 3) := by decide +kernel
theorem dX4_readProbe_65 : decode cX4_readProbe 65 = .ok (.iconst 0, 1) := by decide +kernel
theorem dX4_readProbe_66 : decode cX4_readProbe 66 = .ok (.ireturn, 1) := by decide +kernel
theorem dX4_readProbe_67 : decode cX4_readProbe 67 = .ok (.aload_n 0, 1) := by decide +kernel
theorem dX4_readProbe_68 : decode cX4_readProbe 68 = .ok (.getfield 110, 3) := by decide +kernel
theorem dX4_readProbe_71 : decode cX4_readProbe 71 = .ok (.istore_n 3, 1) := by decide +kernel
theorem dX4_readProbe_72 : decode cX4_readProbe 72 = .ok (.aload_n 0, 1) := by decide +kernel
theorem dX4_readProbe_73 : decode cX4_readProbe 73 = .ok (.iload_n 3, 1) := by decide +kernel
theorem dX4_readProbe_74 : decode cX4_readProbe 74 = .ok (.sipush 999, 3) := by decide +kernel
theorem dX4_readProbe_77 : decode cX4_readProbe 77 = .ok (.invokevirtual 106, 3) := by decide +kernel
theorem dX4_readProbe_80 : decode cX4_readProbe 80 = .ok (.ifCond .ne 5, 3) := by decide +kernel
theorem dX4_readProbe_83 : decode cX4_readProbe 83 = .ok (.iconst 0, 1) := by decide +kernel
theorem dX4_readProbe_84 : decode cX4_readProbe 84 = .ok (.ireturn, 1) := by decide +kernel
theorem dX4_readProbe_85 : decode cX4_readProbe 85 = .ok (.aload_n 0, 1) := by decide +kernel
theorem dX4_readProbe_86 : decode cX4_readProbe 86 = .ok (.getfield 19, 3) := by decide +kernel
theorem dX4_readProbe_89 : decode cX4_readProbe 89 = .ok (.iload_n 1, 1) := by decide +kernel
theorem dX4_readProbe_90 : decode cX4_readProbe 90 = .ok (.iload_n 2, 1) := by decide +kernel
theorem dX4_readProbe_91 : decode cX4_readProbe 91 = .ok (.iload_n 3, 1) := by decide +kernel
theorem dX4_readProbe_92 : decode cX4_readProbe 92 = .ok (.aload_n 0, 1) := by decide +kernel
theorem dX4_readProbe_93 : decode cX4_readProbe 93 = .ok (.getfield 110, 3) := by decide +kernel
theorem dX4_readProbe_96 : decode cX4_readProbe 96 = .ok (.invokevirtual 154, 3) := by decide +kernel
theorem dX4_readProbe_99 : decode cX4_readProbe 99 = .ok (.pop, 1) := by decide +kernel
theorem dX4_readProbe_100 : decode cX4_readProbe 100 = .ok (.aload_n 0, 1) := by decide +kernel
theorem dX4_readProbe_101 : decode cX4_readProbe 101 = .ok (.invokevirtual 96, 3) := by decide +kernel
theorem dX4_readProbe_104 : decode cX4_readProbe 104 = .ok (.ireturn, 1) := by decide +kernel
theorem dX4_readWord_0 : decode cX4_readWord 0 = .ok (.aload_n 0, 1) := by decide +kernel
theorem dX4_readWord_1 : decode cX4_readWord 1 = .ok (.aload_n 1, 1) := by decide +kernel
theorem dX4_readWord_2 : decode cX4_readWord 2 = .ok (.invokevirtual 46, 3) := by decide +kernel
theorem dX4_readWord_5 : decode cX4_readWord 5 = .ok (.ifCond .ne 9, 3) := by decide +kernel
theorem dX4_readWord_8 : decode cX4_readWord 8 = .ok (.aload_n 0, 1) := by decide +kernel
theorem dX4_readWord_9 : decode cX4_readWord 9 = .ok (.iconst 1, 1) := by decide +kernel
theorem dX4_readWord_10 : decode cX4_readWord 10 = .ok (.invokevirtual 73, 3) := by decide +kernel
theorem dX4_readWord_13 : decode cX4_readWord 13 = .ok (.ireturn, 1) := by decide +kernel
theorem dX4_readWord_14 : decode cX4_readWord 14 = .ok (.aload_n 0, 1) := by decide +kernel
theorem dX4_readWord_15 : decode cX4_readWord 15 = .ok (.invokevirtual 34, 3) := by decide +kernel
theorem dX4_readWord_18 : decode cX4_readWord 18 = .ok (.iconst 1, 1) := by decide +kernel
theorem dX4_readWord_19 : decode cX4_readWord 19 = .ok (.ireturn, 1) := by decide +kernel
theorem dX4_readSemicolon_0 : decode cX4_readSemicolon 0 = .ok (.aload_n 0, 1) := by decide +kernel
theorem dX4_readSemicolon_1 : decode cX4_readSemicolon 1 = .ok (.getfield 41, 3) := by decide +kernel
theorem dX4_readSemicolon_4 : decode cX4_readSemicolon 4 = .ok (.iconst 3, 1) := by decide +kernel
theorem dX4_readSemicolon_5 : decode cX4_readSemicolon 5 = .ok (.if_icmp .ne 19, 3) := by decide +kernel
theorem dX4_readSemicolon_8 : decode cX4_readSemicolon 8 = .ok (.aload_n 0, 1) := by decide +kernel
theorem dX4_readSemicolon_9 : decode cX4_readSemicolon 9 = .ok (.getfield 15, 3) := by decide +kernel
theorem dX4_readSemicolon_12 : decode cX4_readSemicolon 12 = .ok (.aload_n 0, 1) := by decide +kernel
theorem dX4_readSemicolon_13 : decode cX4_readSemicolon 13 = .ok (.getfield 125, 3) := by decide +kernel
theorem dX4_readSemicolon_16 : decode cX4_readSemicolon 16 = .ok (.invokevirtual 158, 3) := by decide +kernel
theorem dX4_readSemicolon_19 : decode cX4_readSemicolon 19 = .ok (.bipush 59, 2) := by decide +kernel
theorem dX4_readSemicolon_21 : decode cX4_readSemicolon 21 = .ok (.if_icmp .eq 9, 3) := by decide +kernel
theorem dX4_readSemicolon_24 : decode cX4_readSemicolon 24 = .ok (.aload_n 0, 1) := by decide +kernel
theorem dX4_readSemicolon_25 : decode cX4_readSemicolon 25 = .ok (.iconst 1, 1) := by decide +kernel
theorem dX4_readSemicolon_26 : decode cX4_readSemicolon 26 = .ok (.invokevirtual 73, 3) := by decide +kernel
theorem dX4_readSemicolon_29 : decode cX4_readSemicolon 29 = .ok (.ireturn, 1) := by decide +kernel
theorem dX4_readSemicolon_30 : decode cX4_readSemicolon 30 = .ok (.aload_n 0, 1) := by decide +kernel
theorem dX4_readSemicolon_31 : decode cX4_readSemicolon 31 = .ok (.invokevirtual 34, 3) := by decide +kernel
theorem dX4_readSemicolon_34 : decode cX4_readSemicolon 34 = .ok (.iconst 1, 1) := by decide +kernel
theorem dX4_readSemicolon_35 : decode cX4_readSemicolon 35 = .ok (.ireturn, 1) := by decide +kernel
theorem dX4_readNumber_0 : decode cX4_readNumber 0 = .ok (.aload_n 0, 1) := by decide +kernel
theorem dX4_readNumber_1 : decode cX4_readNumber 1 = .ok (.getfield 41, 3) := by decide +kernel
theorem dX4_readNumber_4 : decode cX4_readNumber 4 = .ok (.iconst 2, 1) := by decide +kernel
theorem dX4_readNumber_5 : decode cX4_readNumber 5 = .ok (.if_icmp .eq 9, 3) := by decide +kernel
theorem dX4_readNumber_8 : decode cX4_readNumber 8 = .ok (.aload_n 0, 1) := by decide +kernel
theorem dX4_readNumber_9 : decode cX4_readNumber 9 = .ok (.iconst 1, 1) := by decide +kernel
theorem dX4_readNumber_10 : decode cX4_readNumber 10 = .ok (.invokevirtual 73, 3) := by decide +kernel
theorem dX4_readNumber_13 : decode cX4_readNumber 13 = .ok (.ireturn, 1) := by decide +kernel
theorem dX4_readNumber_14 : decode cX4_readNumber 14 = .ok (.iconst 0, 1) := by decide +kernel
theorem dX4_readNumber_15 : decode cX4_readNumber 15 = .ok (.istore_n 3, 1) := by decide +kernel
theorem dX4_readNumber_16 : decode cX4_readNumber 16 = .ok (.aload_n 0, 1) := by decide +kernel
theorem dX4_readNumber_17 : decode cX4_readNumber 17 = .ok (.getfield 125, 3) := by decide +kernel
theorem dX4_readNumber_20 : decode cX4_readNumber 20 = .ok (.istore 4, 2) := by decide +kernel
theorem dX4_readNumber_22 : decode cX4_readNumber 22 = .ok (.iload 4, 2) := by decide +kernel
theorem dX4_readNumber_24 : decode cX4_readNumber 24 = .ok (.aload_n 0, 1) := by decide +kernel
theorem dX4_readNumber_25 : decode cX4_readNumber 25 = .ok (.getfield 23, 3) := by decide +kernel
theorem dX4_readNumber_28 : decode cX4_readNumber 28 = .ok (.if_icmp .ge 33, 3) := by decide +kernel
theorem dX4_readNumber_31 : decode cX4_readNumber 31 = .ok (.iload_n 3, 1) := by decide +kernel
theorem dX4_readNumber_32 : decode cX4_readNumber 32 = .ok (.bipush 10, 2) := by decide +kernel
theorem dX4_readNumber_34 : decode cX4_readNumber 34 = .ok (.imul, 1) := by decide +kernel
theorem dX4_readNumber_35 : decode cX4_readNumber 35 = .ok (.aload_n 0, 1) := by decide +kernel
theorem dX4_readNumber_36 : decode cX4_readNumber 36 = .ok (.getfield 15, 3) := by decide +kernel
theorem dX4_readNumber_39 : decode cX4_readNumber 39 = .ok (.iload 4, 2) := by decide +kernel
theorem dX4_readNumber_41 : decode cX4_readNumber 41 = .ok (.invokevirtual 158, 3) := by decide +kernel
theorem dX4_readNumber_44 : decode cX4_readNumber 44 = .ok (.iadd, 1) := by decide +kernel
theorem dX4_readNumber_45 : decode cX4_readNumber 45 = .ok (.bipush 48, 2) := by decide +kernel
theorem dX4_readNumber_47 : decode cX4_readNumber 47 = .ok (.isub, 1) := by decide +kernel
theorem dX4_readNumber_48 : decode cX4_readNumber 48 = .ok (.sipush 1000, 3) := by decide +kernel
theorem dX4_readNumber_51 : decode cX4_readNumber 51 = .ok (.invokestatic 161, 3) := by decide +kernel
theorem dX4_readNumber_54 : decode cX4_readNumber 54 = .ok (.istore_n 3, 1) := by decide +kernel
theorem dX4_readNumber_55 : decode cX4_readNumber 55 = .ok (.iinc 4 1, 3) := by decide +kernel
theorem dX4_readNumber_58 : decode cX4_readNumber 58 = .ok (.goto (-36), 3) := by decide +kernel
theorem dX4_readNumber_61 : decode cX4_readNumber 61 = .ok (.iload_n 3, 1) := by decide +kernel
theorem dX4_readNumber_62 : decode cX4_readNumber 62 = .ok (.iload_n 1, 1) := by decide +kernel
theorem dX4_readNumber_63 : decode cX4_readNumber 63 = .ok (.if_icmp .lt 8, 3) := by decide +kernel
theorem dX4_readNumber_66 : decode cX4_readNumber 66 = .ok (.iload_n 3, 1) := by decide +kernel
theorem dX4_readNumber_67 : decode cX4_readNumber 67 = .ok (.iload_n 2, 1) := by decide +kernel
theorem dX4_readNumber_68 : decode cX4_readNumber 68 = .ok (.if_icmp .le 9, 3) := by decide +kernel
theorem dX4_readNumber_71 : decode cX4_readNumber 71 = .ok (.aload_n 0, 1) := by decide +kernel
theorem dX4_readNumber_72 : decode cX4_readNumber 72 = .ok (.iconst 2, 1) := by decide +kernel
theorem dX4_readNumber_73 : decode cX4_readNumber 73 = .ok (.invokevirtual 73, 3) := by decide +kernel
theorem dX4_readNumber_76 : decode cX4_readNumber 76 = .ok (.ireturn, 1) := by decide +kernel
theorem dX4_readNumber_77 : decode cX4_readNumber 77 = .ok (.aload_n 0, 1) := by decide +kernel
theorem dX4_readNumber_78 : decode cX4_readNumber 78 = .ok (.iload_n 3, 1) := by decide +kernel
theorem dX4_readNumber_79 : decode cX4_readNumber 79 = .ok (.putfield 110, 3) := by decide +kernel
theorem dX4_readNumber_82 : decode cX4_readNumber 82 = .ok (.aload_n 0, 1) := by decide +kernel
theorem dX4_readNumber_83 : decode cX4_readNumber 83 = .ok (.invokevirtual 34, 3) := by decide +kernel
theorem dX4_readNumber_86 : decode cX4_readNumber 86 = .ok (.iconst 1, 1) := by decide +kernel
theorem dX4_readNumber_87 : decode cX4_readNumber 87 = .ok (.ireturn, 1) := by decide +kernel
theorem dX4_isNameOf_0 : decode cX4_isNameOf 0 = .ok (.aload_n 0, 1) := by decide +kernel
theorem dX4_isNameOf_1 : decode cX4_isNameOf 1 = .ok (.invokevirtual 122, 3) := by decide +kernel
theorem dX4_isNameOf_4 : decode cX4_isNameOf 4 = .ok (.ifCond .ne 9, 3) := by decide +kernel
theorem dX4_isNameOf_7 : decode cX4_isNameOf 7 = .ok (.aload_n 0, 1) := by decide +kernel
theorem dX4_isNameOf_8 : decode cX4_isNameOf 8 = .ok (.iconst 1, 1) := by decide +kernel
theorem dX4_isNameOf_9 : decode cX4_isNameOf 9 = .ok (.invokevirtual 73, 3) := by decide +kernel
theorem dX4_isNameOf_12 : decode cX4_isNameOf 12 = .ok (.ireturn, 1) := by decide +kernel
theorem dX4_isNameOf_13 : decode cX4_isNameOf 13 = .ok (.aload_n 0, 1) := by decide +kernel
theorem dX4_isNameOf_14 : decode cX4_isNameOf 14 = .ok (.aload_n 1, 1) := by decide +kernel
theorem dX4_isNameOf_15 : decode cX4_isNameOf 15 = .ok (.aload_n 0, 1) := by decide +kernel
theorem dX4_isNameOf_16 : decode cX4_isNameOf 16 = .ok (.getfield 15, 3) := by decide +kernel
theorem dX4_isNameOf_19 : decode cX4_isNameOf 19 = .ok (.aload_n 0, 1) := by decide +kernel
theorem dX4_isNameOf_20 : decode cX4_isNameOf 20 = .ok (.getfield 125, 3) := by decide +kernel
theorem dX4_isNameOf_23 : decode cX4_isNameOf 23 = .ok (.aload_n 0, 1) := by decide +kernel
theorem dX4_isNameOf_24 : decode cX4_isNameOf 24 = .ok (.getfield 23, 3) := by decide +kernel
theorem dX4_isNameOf_27 : decode cX4_isNameOf 27 = .ok (.invokevirtual 128, 3) := by decide +kernel
theorem dX4_isNameOf_30 : decode cX4_isNameOf 30 = .ok (.invokevirtual 134, 3) := by decide +kernel
theorem dX4_isNameOf_33 : decode cX4_isNameOf 33 = .ok (.putfield 110, 3) := by decide +kernel
theorem dX4_isNameOf_36 : decode cX4_isNameOf 36 = .ok (.aload_n 0, 1) := by decide +kernel
theorem dX4_isNameOf_37 : decode cX4_isNameOf 37 = .ok (.getfield 110, 3) := by decide +kernel
theorem dX4_isNameOf_40 : decode cX4_isNameOf 40 = .ok (.iconst (-1), 1) := by decide +kernel
theorem dX4_isNameOf_41 : decode cX4_isNameOf 41 = .ok (.if_icmp .ne 11, 3) := by decide +kernel
theorem dX4_isNameOf_44 : decode cX4_isNameOf 44 = .ok (.aload_n 0, 1) := by decide +kernel
theorem dX4_isNameOf_45 : decode cX4_isNameOf 45 = .ok (.iconst 3, 1) := by decide +kernel
theorem dX4_isNameOf_46 : decode cX4_isNameOf 46 = .ok (.invokevirtual 73, 3) := by decide +kernel
theorem dX4_isNameOf_49 : decode cX4_isNameOf 49 = .ok (.ifCond .eq 7, 3) := by decide +kernel
theorem dX4_isNameOf_52 : decode cX4_isNameOf 52 = .ok (.iconst 1, 1) := by decide +kernel
theorem dX4_isNameOf_53 : decode cX4_isNameOf 53 = .ok (.goto 4, 3) := by decide +kernel
theorem dX4_isNameOf_56 : decode cX4_isNameOf 56 = .ok (.iconst 0, 1) := by decide +kernel
theorem dX4_isNameOf_57 : decode cX4_isNameOf 57 = .ok (.ireturn, 1) := by decide +kernel
theorem dX4_isName_0 : decode cX4_isName 0 = .ok (.aload_n 0, 1) := by decide +kernel
theorem dX4_isName_1 : decode cX4_isName 1 = .ok (.ldc 77, 2) := by decide +kernel
theorem dX4_isName_3 : decode cX4_isName 3 = .ok (.invokevirtual 46, 3) := by decide +kernel
theorem dX4_isName_6 : decode cX4_isName 6 = .ok (.ifCond .ne 93, 3) := by decide +kernel
theorem dX4_isName_9 : decode cX4_isName 9 = .ok (.aload_n 0, 1) := by decide +kernel
theorem dX4_isName_10 : decode cX4_isName 10 = .ok (.ldc 82, 2) := by decide +kernel
theorem dX4_isName_12 : decode cX4_isName 12 = .ok (.invokevirtual 46, 3) := by decide +kernel
theorem dX4_isName_15 : decode cX4_isName 15 = .ok (.ifCond .ne 84, 3) := by decide +kernel
theorem dX4_isName_18 : decode cX4_isName 18 = .ok (.aload_n 0, 1) := by decide +kernel
theorem dX4_isName_19 : decode cX4_isName 19 = .ok (.ldc 88, 2) := by decide +kernel
theorem dX4_isName_21 : decode cX4_isName 21 = .ok (.invokevirtual 46, 3) := by decide +kernel
theorem dX4_isName_24 : decode cX4_isName 24 = .ok (.ifCond .ne 75, 3) := by decide +kernel
theorem dX4_isName_27 : decode cX4_isName 27 = .ok (.aload_n 0, 1) := by decide +kernel
theorem dX4_isName_28 : decode cX4_isName 28 = .ok (.ldc 90, 2) := by decide +kernel
theorem dX4_isName_30 : decode cX4_isName 30 = .ok (.invokevirtual 46, 3) := by decide +kernel
theorem dX4_isName_33 : decode cX4_isName 33 = .ok (.ifCond .ne 66, 3) := by decide +kernel
theorem dX4_isName_36 : decode cX4_isName 36 = .ok (.aload_n 0, 1) := by decide +kernel
theorem dX4_isName_37 : decode cX4_isName 37 = .ok (.ldc 92, 2) := by decide +kernel
theorem dX4_isName_39 : decode cX4_isName 39 = .ok (.invokevirtual 46, 3) := by decide +kernel
theorem dX4_isName_42 : decode cX4_isName 42 = .ok (.ifCond .ne 57, 3) := by decide +kernel
theorem dX4_isName_45 : decode cX4_isName 45 = .ok (.aload_n 0, 1) := by decide +kernel
theorem dX4_isName_46 : decode cX4_isName 46 = .ok (.ldc 94, 2) := by decide +kernel
theorem dX4_isName_48 : decode cX4_isName 48 = .ok (.invokevirtual 46, 3) := by decide +kernel
theorem dX4_isName_51 : decode cX4_isName 51 = .ok (.ifCond .ne 48, 3) := by decide +kernel
theorem dX4_isName_54 : decode cX4_isName 54 = .ok (.aload_n 0, 1) := by decide +kernel
theorem dX4_isName_55 : decode cX4_isName 55 = .ok (.ldc 44, 2) := by decide +kernel
theorem dX4_isName_57 : decode cX4_isName 57 = .ok (.invokevirtual 46, 3) := by decide +kernel
theorem dX4_isName_60 : decode cX4_isName 60 = .ok (.ifCond .ne 39, 3) := by decide +kernel
theorem dX4_isName_63 : decode cX4_isName 63 = .ok (.aload_n 0, 1) := by decide +kernel
theorem dX4_isName_64 : decode cX4_isName 64 = .ok (.ldc 58, 2) := by decide +kernel
theorem dX4_isName_66 : decode cX4_isName 66 = .ok (.invokevirtual 46, 3) := by decide +kernel
theorem dX4_isName_69 : decode cX4_isName 69 = .ok (.ifCond .ne 30, 3) := by decide +kernel
theorem dX4_isName_72 : decode cX4_isName 72 = .ok (.aload_n 0, 1) := by decide +kernel
theorem dX4_isName_73 : decode cX4_isName 73 = .ok (.ldc 63, 2) := by decide +kernel
theorem dX4_isName_75 : decode cX4_isName 75 = .ok (.invokevirtual 46, 3) := by decide +kernel
theorem dX4_isName_78 : decode cX4_isName 78 = .ok (.ifCond .ne 21, 3) := by decide +kernel
theorem dX4_isName_81 : decode cX4_isName 81 = .ok (.aload_n 0, 1) := by decide +kernel
theorem dX4_isName_82 : decode cX4_isName 82 = .ok (.ldc 148, 2) := by decide +kernel
theorem dX4_isName_84 : decode cX4_isName 84 = .ok (.invokevirtual 46, 3) := by decide +kernel
theorem dX4_isName_87 : decode cX4_isName 87 = .ok (.ifCond .ne 12, 3) := by decide +kernel
theorem dX4_isName_90 : decode cX4_isName 90 = .ok (.aload_n 0, 1) := by decide +kernel
theorem dX4_isName_91 : decode cX4_isName 91 = .ok (.ldc 68, 2) := by decide +kernel
theorem dX4_isName_93 : decode cX4_isName 93 = .ok (.invokevirtual 46, 3) := by decide +kernel
theorem dX4_isName_96 : decode cX4_isName 96 = .ok (.ifCond .eq 7, 3) := by decide +kernel
theorem dX4_isName_99 : decode cX4_isName 99 = .ok (.iconst 1, 1) := by decide +kernel
theorem dX4_isName_100 : decode cX4_isName 100 = .ok (.goto 4, 3) := by decide +kernel
theorem dX4_isName_103 : decode cX4_isName 103 = .ok (.iconst 0, 1) := by decide +kernel
theorem dX4_isName_104 : decode cX4_isName 104 = .ok (.istore_n 1, 1) := by decide +kernel
theorem dX4_isName_105 : decode cX4_isName 105 = .ok (.aload_n 0, 1) := by decide +kernel
theorem dX4_isName_106 : decode cX4_isName 106 = .ok (.getfield 41, 3) := by decide +kernel
theorem dX4_isName_109 : decode cX4_isName 109 = .ok (.iconst 1, 1) := by decide +kernel
theorem dX4_isName_110 : decode cX4_isName 110 = .ok (.if_icmp .ne 25, 3) := by decide +kernel
theorem dX4_isName_113 : decode cX4_isName 113 = .ok (.aload_n 0, 1) := by decide +kernel
theorem dX4_isName_114 : decode cX4_isName 114 = .ok (.getfield 23, 3) := by decide +kernel
theorem dX4_isName_117 : decode cX4_isName 117 = .ok (.aload_n 0, 1) := by decide +kernel
theorem dX4_isName_118 : decode cX4_isName 118 = .ok (.getfield 125, 3) := by decide +kernel
theorem dX4_isName_121 : decode cX4_isName 121 = .ok (.isub, 1) := by decide +kernel
theorem dX4_isName_122 : decode cX4_isName 122 = .ok (.bipush 6, 2) := by decide +kernel
theorem dX4_isName_124 : decode cX4_isName 124 = .ok (.if_icmp .gt 11, 3) := by decide +kernel
theorem dX4_isName_127 : decode cX4_isName 127 = .ok (.iload_n 1, 1) := by decide +kernel
theorem dX4_isName_128 : decode cX4_isName 128 = .ok (.ifCond .ne 7, 3) := by decide +kernel
theorem dX4_isName_131 : decode cX4_isName 131 = .ok (.iconst 1, 1) := by decide +kernel
theorem dX4_isName_132 : decode cX4_isName 132 = .ok (.goto 4, 3) := by decide +kernel
theorem dX4_isName_135 : decode cX4_isName 135 = .ok (.iconst 0, 1) := by decide +kernel
theorem dX4_isName_136 : decode cX4_isName 136 = .ok (.ireturn, 1) := by decide +kernel
theorem dX4_isWord_0 : decode cX4_isWord 0 = .ok (.aload_n 0, 1) := by decide +kernel
theorem dX4_isWord_1 : decode cX4_isWord 1 = .ok (.getfield 41, 3) := by decide +kernel
theorem dX4_isWord_4 : decode cX4_isWord 4 = .ok (.iconst 1, 1) := by decide +kernel
theorem dX4_isWord_5 : decode cX4_isWord 5 = .ok (.if_icmp .ne 19, 3) := by decide +kernel
theorem dX4_isWord_8 : decode cX4_isWord 8 = .ok (.aload_n 0, 1) := by decide +kernel
theorem dX4_isWord_9 : decode cX4_isWord 9 = .ok (.getfield 23, 3) := by decide +kernel
theorem dX4_isWord_12 : decode cX4_isWord 12 = .ok (.aload_n 0, 1) := by decide +kernel
theorem dX4_isWord_13 : decode cX4_isWord 13 = .ok (.getfield 125, 3) := by decide +kernel
theorem dX4_isWord_16 : decode cX4_isWord 16 = .ok (.isub, 1) := by decide +kernel
theorem dX4_isWord_17 : decode cX4_isWord 17 = .ok (.aload_n 1, 1) := by decide +kernel
theorem dX4_isWord_18 : decode cX4_isWord 18 = .ok (.invokevirtual 166, 3) := by decide +kernel
theorem dX4_isWord_21 : decode cX4_isWord 21 = .ok (.if_icmp .eq 5, 3) := by decide +kernel
theorem dX4_isWord_24 : decode cX4_isWord 24 = .ok (.iconst 0, 1) := by decide +kernel
theorem dX4_isWord_25 : decode cX4_isWord 25 = .ok (.ireturn, 1) := by decide +kernel
theorem dX4_isWord_26 : decode cX4_isWord 26 = .ok (.iconst 0, 1) := by decide +kernel
theorem dX4_isWord_27 : decode cX4_isWord 27 = .ok (.istore_n 2, 1) := by decide +kernel
theorem dX4_isWord_28 : decode cX4_isWord 28 = .ok (.iload_n 2, 1) := by decide +kernel
theorem dX4_isWord_29 : decode cX4_isWord 29 = .ok (.aload_n 1, 1) := by decide +kernel
theorem dX4_isWord_30 : decode cX4_isWord 30 = .ok (.invokevirtual 166, 3) := by decide +kernel
theorem dX4_isWord_33 : decode cX4_isWord 33 = .ok (.if_icmp .ge 32, 3) := by decide +kernel
theorem dX4_isWord_36 : decode cX4_isWord 36 = .ok (.aload_n 0, 1) := by decide +kernel
theorem dX4_isWord_37 : decode cX4_isWord 37 = .ok (.getfield 15, 3) := by decide +kernel
theorem dX4_isWord_40 : decode cX4_isWord 40 = .ok (.aload_n 0, 1) := by decide +kernel
theorem dX4_isWord_41 : decode cX4_isWord 41 = .ok (.getfield 125, 3) := by decide +kernel
theorem dX4_isWord_44 : decode cX4_isWord 44 = .ok (.iload_n 2, 1) := by decide +kernel
theorem dX4_isWord_45 : decode cX4_isWord 45 = .ok (.iadd, 1) := by decide +kernel
theorem dX4_isWord_46 : decode cX4_isWord 46 = .ok (.invokevirtual 158, 3) := by decide +kernel
theorem dX4_isWord_49 : decode cX4_isWord 49 = .ok (.aload_n 1, 1) := by decide +kernel
theorem dX4_isWord_50 : decode cX4_isWord 50 = .ok (.iload_n 2, 1) := by decide +kernel
theorem dX4_isWord_51 : decode cX4_isWord 51 = .ok (.invokevirtual 172, 3) := by decide +kernel
theorem dX4_isWord_54 : decode cX4_isWord 54 = .ok (.if_icmp .eq 5, 3) := by decide +kernel
theorem dX4_isWord_57 : decode cX4_isWord 57 = .ok (.iconst 0, 1) := by decide +kernel
theorem dX4_isWord_58 : decode cX4_isWord 58 = .ok (.ireturn, 1) := by decide +kernel
theorem dX4_isWord_59 : decode cX4_isWord 59 = .ok (.iinc 2 1, 3) := by decide +kernel
theorem dX4_isWord_62 : decode cX4_isWord 62 = .ok (.goto (-34), 3) := by decide +kernel
theorem dX4_isWord_65 : decode cX4_isWord 65 = .ok (.iconst 1, 1) := by decide +kernel
theorem dX4_isWord_66 : decode cX4_isWord 66 = .ok (.ireturn, 1) := by decide +kernel
theorem dX4_fail_0 : decode cX4_fail 0 = .ok (.aload_n 0, 1) := by decide +kernel
theorem dX4_fail_1 : decode cX4_fail 1 = .ok (.iload_n 1, 1) := by decide +kernel
theorem dX4_fail_2 : decode cX4_fail 2 = .ok (.putfield 26, 3) := by decide +kernel
theorem dX4_fail_5 : decode cX4_fail 5 = .ok (.aload_n 0, 1) := by decide +kernel
theorem dX4_fail_6 : decode cX4_fail 6 = .ok (.aload_n 0, 1) := by decide +kernel
theorem dX4_fail_7 : decode cX4_fail 7 = .ok (.getfield 125, 3) := by decide +kernel
theorem dX4_fail_10 : decode cX4_fail 10 = .ok (.putfield 9, 3) := by decide +kernel
theorem dX4_fail_13 : decode cX4_fail 13 = .ok (.iconst 0, 1) := by decide +kernel
theorem dX4_fail_14 : decode cX4_fail 14 = .ok (.ireturn, 1) := by decide +kernel
theorem dX4_next_0 : decode cX4_next 0 = .ok (.aload_n 0, 1) := by decide +kernel
theorem dX4_next_1 : decode cX4_next 1 = .ok (.aload_n 0, 1) := by decide +kernel
theorem dX4_next_2 : decode cX4_next 2 = .ok (.getfield 23, 3) := by decide +kernel
theorem dX4_next_5 : decode cX4_next 5 = .ok (.putfield 125, 3) := by decide +kernel
theorem dX4_next_8 : decode cX4_next 8 = .ok (.aload_n 0, 1) := by decide +kernel
theorem dX4_next_9 : decode cX4_next 9 = .ok (.getfield 125, 3) := by decide +kernel
theorem dX4_next_12 : decode cX4_next 12 = .ok (.aload_n 0, 1) := by decide +kernel
theorem dX4_next_13 : decode cX4_next 13 = .ok (.getfield 15, 3) := by decide +kernel
theorem dX4_next_16 : decode cX4_next 16 = .ok (.getfield 176, 3) := by decide +kernel
theorem dX4_next_19 : decode cX4_next 19 = .ok (.if_icmp .ge 34, 3) := by decide +kernel
theorem dX4_next_22 : decode cX4_next 22 = .ok (.aload_n 0, 1) := by decide +kernel
theorem dX4_next_23 : decode cX4_next 23 = .ok (.getfield 15, 3) := by decide +kernel
theorem dX4_next_26 : decode cX4_next 26 = .ok (.aload_n 0, 1) := by decide +kernel
theorem dX4_next_27 : decode cX4_next 27 = .ok (.getfield 125, 3) := by decide +kernel
theorem dX4_next_30 : decode cX4_next 30 = .ok (.invokevirtual 158, 3) := by decide +kernel
theorem dX4_next_33 : decode cX4_next 33 = .ok (.invokestatic 178, 3) := by decide +kernel
theorem dX4_next_36 : decode cX4_next 36 = .ok (.iconst 4, 1) := by decide +kernel
theorem dX4_next_37 : decode cX4_next 37 = .ok (.if_icmp .ne 16, 3) := by decide +kernel
theorem dX4_next_40 : decode cX4_next 40 = .ok (.aload_n 0, 1) := by decide +kernel
theorem dX4_next_41 : decode cX4_next 41 = .ok (.dup, 1) := by decide +kernel
theorem dX4_next_42 : decode cX4_next 42 = .ok (.getfield 125, 3) := by decide +kernel
theorem dX4_next_45 : decode cX4_next 45 = .ok (.iconst 1, 1) := by decide +kernel
theorem dX4_next_46 : decode cX4_next 46 = .ok (.iadd, 1) := by decide +kernel
theorem dX4_next_47 : decode cX4_next 47 = .ok (.putfield 125, 3) := by decide +kernel
theorem dX4_next_50 : decode cX4_next 50 = .ok (.goto (-42), 3) := by decide +kernel
theorem dX4_next_53 : decode cX4_next 53 = .ok (.aload_n 0, 1) := by decide +kernel
theorem dX4_next_54 : decode cX4_next 54 = .ok (.aload_n 0, 1) := by decide +kernel
theorem dX4_next_55 : decode cX4_next 55 = .ok (.getfield 125, 3) := by decide +kernel
theorem dX4_next_58 : decode cX4_next 58 = .ok (.putfield 23, 3) := by decide +kernel
theorem dX4_next_61 : decode cX4_next 61 = .ok (.aload_n 0, 1) := by decide +kernel
theorem dX4_next_62 : decode cX4_next 62 = .ok (.getfield 125, 3) := by decide +kernel
theorem dX4_next_65 : decode cX4_next 65 = .ok (.aload_n 0, 1) := by decide +kernel
theorem dX4_next_66 : decode cX4_next 66 = .ok (.getfield 15, 3) := by decide +kernel
theorem dX4_next_69 : decode cX4_next 69 = .ok (.getfield 176, 3) := by decide +kernel
theorem dX4_next_72 : decode cX4_next 72 = .ok (.if_icmp .lt 9, 3) := by decide +kernel
theorem dX4_next_75 : decode cX4_next 75 = .ok (.aload_n 0, 1) := by decide +kernel
theorem dX4_next_76 : decode cX4_next 76 = .ok (.iconst 0, 1) := by decide +kernel
theorem dX4_next_77 : decode cX4_next 77 = .ok (.putfield 41, 3) := by decide +kernel
theorem dX4_next_80 : decode cX4_next 80 = .ok (.return_, 1) := by decide +kernel
theorem dX4_next_81 : decode cX4_next 81 = .ok (.aload_n 0, 1) := by decide +kernel
theorem dX4_next_82 : decode cX4_next 82 = .ok (.aload_n 0, 1) := by decide +kernel
theorem dX4_next_83 : decode cX4_next 83 = .ok (.getfield 15, 3) := by decide +kernel
theorem dX4_next_86 : decode cX4_next 86 = .ok (.aload_n 0, 1) := by decide +kernel
theorem dX4_next_87 : decode cX4_next 87 = .ok (.getfield 125, 3) := by decide +kernel
theorem dX4_next_90 : decode cX4_next 90 = .ok (.invokevirtual 158, 3) := by decide +kernel
theorem dX4_next_93 : decode cX4_next 93 = .ok (.invokestatic 178, 3) := by decide +kernel
theorem dX4_next_96 : decode cX4_next 96 = .ok (.putfield 41, 3) := by decide +kernel
theorem dX4_next_99 : decode cX4_next 99 = .ok (.aload_n 0, 1) := by decide +kernel
theorem dX4_next_100 : decode cX4_next 100 = .ok (.aload_n 0, 1) := by decide +kernel
theorem dX4_next_101 : decode cX4_next 101 = .ok (.getfield 125, 3) := by decide +kernel
theorem dX4_next_104 : decode cX4_next 104 = .ok (.iconst 1, 1) := by decide +kernel
theorem dX4_next_105 : decode cX4_next 105 = .ok (.iadd, 1) := by decide +kernel
theorem dX4_next_106 : decode cX4_next 106 = .ok (.putfield 23, 3) := by decide +kernel
theorem dX4_next_109 : decode cX4_next 109 = .ok (.aload_n 0, 1) := by decide +kernel
theorem dX4_next_110 : decode cX4_next 110 = .ok (.getfield 41, 3) := by decide +kernel
theorem dX4_next_113 : decode cX4_next 113 = .ok (.iconst 3, 1) := by decide +kernel
theorem dX4_next_114 : decode cX4_next 114 = .ok (.if_icmp .eq 51, 3) := by decide +kernel
theorem dX4_next_117 : decode cX4_next 117 = .ok (.aload_n 0, 1) := by decide +kernel
theorem dX4_next_118 : decode cX4_next 118 = .ok (.getfield 23, 3) := by decide +kernel
theorem dX4_next_121 : decode cX4_next 121 = .ok (.aload_n 0, 1) := by decide +kernel
theorem dX4_next_122 : decode cX4_next 122 = .ok (.getfield 15, 3) := by decide +kernel
theorem dX4_next_125 : decode cX4_next 125 = .ok (.getfield 176, 3) := by decide +kernel
theorem dX4_next_128 : decode cX4_next 128 = .ok (.if_icmp .ge 37, 3) := by decide +kernel
theorem dX4_next_131 : decode cX4_next 131 = .ok (.aload_n 0, 1) := by decide +kernel
theorem dX4_next_132 : decode cX4_next 132 = .ok (.getfield 15, 3) := by decide +kernel
theorem dX4_next_135 : decode cX4_next 135 = .ok (.aload_n 0, 1) := by decide +kernel
theorem dX4_next_136 : decode cX4_next 136 = .ok (.getfield 23, 3) := by decide +kernel
theorem dX4_next_139 : decode cX4_next 139 = .ok (.invokevirtual 158, 3) := by decide +kernel
theorem dX4_next_142 : decode cX4_next 142 = .ok (.invokestatic 178, 3) := by decide +kernel
theorem dX4_next_145 : decode cX4_next 145 = .ok (.aload_n 0, 1) := by decide +kernel
theorem dX4_next_146 : decode cX4_next 146 = .ok (.getfield 41, 3) := by decide +kernel
theorem dX4_next_149 : decode cX4_next 149 = .ok (.if_icmp .ne 16, 3) := by decide +kernel
theorem dX4_next_152 : decode cX4_next 152 = .ok (.aload_n 0, 1) := by decide +kernel
theorem dX4_next_153 : decode cX4_next 153 = .ok (.dup, 1) := by decide +kernel
theorem dX4_next_154 : decode cX4_next 154 = .ok (.getfield 23, 3) := by decide +kernel
theorem dX4_next_157 : decode cX4_next 157 = .ok (.iconst 1, 1) := by decide +kernel
theorem dX4_next_158 : decode cX4_next 158 = .ok (.iadd, 1) := by decide +kernel
theorem dX4_next_159 : decode cX4_next 159 = .ok (.putfield 23, 3) := by decide +kernel
theorem dX4_next_162 : decode cX4_next 162 = .ok (.goto (-53), 3) := by decide +kernel
theorem dX4_next_165 : decode cX4_next 165 = .ok (.return_, 1) := by decide +kernel
theorem dX4_kindOf_0 : decode cX4_kindOf 0 = .ok (.iload_n 0, 1) := by decide +kernel
theorem dX4_kindOf_1 : decode cX4_kindOf 1 = .ok (.bipush 97, 2) := by decide +kernel
theorem dX4_kindOf_3 : decode cX4_kindOf 3 = .ok (.if_icmp .lt 11, 3) := by decide +kernel
theorem dX4_kindOf_6 : decode cX4_kindOf 6 = .ok (.iload_n 0, 1) := by decide +kernel
theorem dX4_kindOf_7 : decode cX4_kindOf 7 = .ok (.bipush 122, 2) := by decide +kernel
theorem dX4_kindOf_9 : decode cX4_kindOf 9 = .ok (.if_icmp .gt 5, 3) := by decide +kernel
theorem dX4_kindOf_12 : decode cX4_kindOf 12 = .ok (.iconst 1, 1) := by decide +kernel
theorem dX4_kindOf_13 : decode cX4_kindOf 13 = .ok (.ireturn, 1) := by decide +kernel
theorem dX4_kindOf_14 : decode cX4_kindOf 14 = .ok (.iload_n 0, 1) := by decide +kernel
theorem dX4_kindOf_15 : decode cX4_kindOf 15 = .ok (.bipush 48, 2) := by decide +kernel
theorem dX4_kindOf_17 : decode cX4_kindOf 17 = .ok (.if_icmp .lt 11, 3) := by decide +kernel
theorem dX4_kindOf_20 : decode cX4_kindOf 20 = .ok (.iload_n 0, 1) := by decide +kernel
theorem dX4_kindOf_21 : decode cX4_kindOf 21 = .ok (.bipush 57, 2) := by decide +kernel
theorem dX4_kindOf_23 : decode cX4_kindOf 23 = .ok (.if_icmp .gt 5, 3) := by decide +kernel
theorem dX4_kindOf_26 : decode cX4_kindOf 26 = .ok (.iconst 2, 1) := by decide +kernel
theorem dX4_kindOf_27 : decode cX4_kindOf 27 = .ok (.ireturn, 1) := by decide +kernel
theorem dX4_kindOf_28 : decode cX4_kindOf 28 = .ok (.iload_n 0, 1) := by decide +kernel
theorem dX4_kindOf_29 : decode cX4_kindOf 29 = .ok (.bipush 32, 2) := by decide +kernel
theorem dX4_kindOf_31 : decode cX4_kindOf 31 = .ok (.if_icmp .eq 9, 3) := by decide +kernel
theorem dX4_kindOf_34 : decode cX4_kindOf 34 = .ok (.iload_n 0, 1) := by decide +kernel
theorem dX4_kindOf_35 : decode cX4_kindOf 35 = .ok (.bipush 10, 2) := by decide +kernel
theorem dX4_kindOf_37 : decode cX4_kindOf 37 = .ok (.if_icmp .ne 7, 3) := by decide +kernel
theorem dX4_kindOf_40 : decode cX4_kindOf 40 = .ok (.iconst 4, 1) := by decide +kernel
theorem dX4_kindOf_41 : decode cX4_kindOf 41 = .ok (.goto 4, 3) := by decide +kernel
theorem dX4_kindOf_44 : decode cX4_kindOf 44 = .ok (.iconst 3, 1) := by decide +kernel
theorem dX4_kindOf_45 : decode cX4_kindOf 45 = .ok (.ireturn, 1) := by decide +kernel
theorem dX5_init_0 : decode cX5_init 0 = .ok (.aload_n 0, 1) := by decide +kernel
theorem dX5_init_1 : decode cX5_init 1 = .ok (.invokespecial 3, 3) := by decide +kernel
theorem dX5_init_4 : decode cX5_init 4 = .ok (.aload_n 0, 1) := by decide +kernel
theorem dX5_init_5 : decode cX5_init 5 = .ok (.iload_n 1, 1) := by decide +kernel
theorem dX5_init_6 : decode cX5_init 6 = .ok (.ifCond .ge 7, 3) := by decide +kernel
theorem dX5_init_9 : decode cX5_init 9 = .ok (.iconst 0, 1) := by decide +kernel
theorem dX5_init_10 : decode cX5_init 10 = .ok (.goto 7, 3) := by decide +kernel
theorem dX5_init_13 : decode cX5_init 13 = .ok (.iload_n 1, 1) := by decide +kernel
theorem dX5_init_14 : decode cX5_init 14 = .ok (.bipush 8, 2) := by decide +kernel
theorem dX5_init_16 : decode cX5_init 16 = .ok (.imul, 1) := by decide +kernel
theorem dX5_init_17 : decode cX5_init 17 = .ok (.newarray .int, 2) := by decide +kernel
theorem dX5_init_19 : decode cX5_init 19 = .ok (.putfield 9, 3) := by decide +kernel
theorem dX5_init_22 : decode cX5_init 22 = .ok (.return_, 1) := by decide +kernel
theorem dX5_isFull_0 : decode cX5_isFull 0 = .ok (.aload_n 0, 1) := by decide +kernel
theorem dX5_isFull_1 : decode cX5_isFull 1 = .ok (.getfield 15, 3) := by decide +kernel
theorem dX5_isFull_4 : decode cX5_isFull 4 = .ok (.iconst 1, 1) := by decide +kernel
theorem dX5_isFull_5 : decode cX5_isFull 5 = .ok (.iadd, 1) := by decide +kernel
theorem dX5_isFull_6 : decode cX5_isFull 6 = .ok (.bipush 8, 2) := by decide +kernel
theorem dX5_isFull_8 : decode cX5_isFull 8 = .ok (.imul, 1) := by decide +kernel
theorem dX5_isFull_9 : decode cX5_isFull 9 = .ok (.aload_n 0, 1) := by decide +kernel
theorem dX5_isFull_10 : decode cX5_isFull 10 = .ok (.getfield 9, 3) := by decide +kernel
theorem dX5_isFull_13 : decode cX5_isFull 13 = .ok (.arraylength, 1) := by decide +kernel
theorem dX5_isFull_14 : decode cX5_isFull 14 = .ok (.if_icmp .le 7, 3) := by decide +kernel
theorem dX5_isFull_17 : decode cX5_isFull 17 = .ok (.iconst 1, 1) := by decide +kernel
theorem dX5_isFull_18 : decode cX5_isFull 18 = .ok (.goto 4, 3) := by decide +kernel
theorem dX5_isFull_21 : decode cX5_isFull 21 = .ok (.iconst 0, 1) := by decide +kernel
theorem dX5_isFull_22 : decode cX5_isFull 22 = .ok (.ireturn, 1) := by decide +kernel
theorem dX5_get_0 : decode cX5_get 0 = .ok (.iload_n 1, 1) := by decide +kernel
theorem dX5_get_1 : decode cX5_get 1 = .ok (.ifCond .lt 21, 3) := by decide +kernel
theorem dX5_get_4 : decode cX5_get 4 = .ok (.iload_n 1, 1) := by decide +kernel
theorem dX5_get_5 : decode cX5_get 5 = .ok (.aload_n 0, 1) := by decide +kernel
theorem dX5_get_6 : decode cX5_get 6 = .ok (.getfield 15, 3) := by decide +kernel
theorem dX5_get_9 : decode cX5_get 9 = .ok (.if_icmp .ge 13, 3) := by decide +kernel
theorem dX5_get_12 : decode cX5_get 12 = .ok (.iload_n 2, 1) := by decide +kernel
theorem dX5_get_13 : decode cX5_get 13 = .ok (.ifCond .lt 9, 3) := by decide +kernel
theorem dX5_get_16 : decode cX5_get 16 = .ok (.iload_n 2, 1) := by decide +kernel
theorem dX5_get_17 : decode cX5_get 17 = .ok (.bipush 8, 2) := by decide +kernel
theorem dX5_get_19 : decode cX5_get 19 = .ok (.if_icmp .lt 5, 3) := by decide +kernel
theorem dX5_get_22 : decode cX5_get 22 = .ok (.iconst (-1), 1) := by decide +kernel
theorem dX5_get_23 : decode cX5_get 23 = .ok (.ireturn, 1) := by decide +kernel
theorem dX5_get_24 : decode cX5_get 24 = .ok (.iload_n 1, 1) := by decide +kernel
theorem dX5_get_25 : decode cX5_get 25 = .ok (.bipush 8, 2) := by decide +kernel
theorem dX5_get_27 : decode cX5_get 27 = .ok (.imul, 1) := by decide +kernel
theorem dX5_get_28 : decode cX5_get 28 = .ok (.iload_n 2, 1) := by decide +kernel
theorem dX5_get_29 : decode cX5_get 29 = .ok (.iadd, 1) := by decide +kernel
theorem dX5_get_30 : decode cX5_get 30 = .ok (.istore_n 3, 1) := by decide +kernel
theorem dX5_get_31 : decode cX5_get 31 = .ok (.iload_n 3, 1) := by decide +kernel
theorem dX5_get_32 : decode cX5_get 32 = .ok (.ifCond .lt 21, 3) := by decide +kernel
theorem dX5_get_35 : decode cX5_get 35 = .ok (.iload_n 3, 1) := by decide +kernel
theorem dX5_get_36 : decode cX5_get 36 = .ok (.aload_n 0, 1) := by decide +kernel
theorem dX5_get_37 : decode cX5_get 37 = .ok (.getfield 9, 3) := by decide +kernel
theorem dX5_get_40 : decode cX5_get 40 = .ok (.arraylength, 1) := by decide +kernel
theorem dX5_get_41 : decode cX5_get 41 = .ok (.if_icmp .ge 12, 3) := by decide +kernel
theorem dX5_get_44 : decode cX5_get 44 = .ok (.aload_n 0, 1) := by decide +kernel
theorem dX5_get_45 : decode cX5_get 45 = .ok (.getfield 9, 3) := by decide +kernel
theorem dX5_get_48 : decode cX5_get 48 = .ok (.iload_n 3, 1) := by decide +kernel
theorem dX5_get_49 : decode cX5_get 49 = .ok (.iaload, 1) := by decide +kernel
theorem dX5_get_50 : decode cX5_get 50 = .ok (.goto 4, 3) := by decide +kernel
theorem dX5_get_53 : decode cX5_get 53 = .ok (.iconst (-1), 1) := by decide +kernel
theorem dX5_get_54 : decode cX5_get 54 = .ok (.ireturn, 1) := by decide +kernel
theorem dX5_put_0 : decode cX5_put 0 = .ok (.iload_n 1, 1) := by decide +kernel
theorem dX5_put_1 : decode cX5_put 1 = .ok (.ifCond .lt 21, 3) := by decide +kernel
theorem dX5_put_4 : decode cX5_put 4 = .ok (.iload_n 1, 1) := by decide +kernel
theorem dX5_put_5 : decode cX5_put 5 = .ok (.aload_n 0, 1) := by decide +kernel
theorem dX5_put_6 : decode cX5_put 6 = .ok (.getfield 15, 3) := by decide +kernel
theorem dX5_put_9 : decode cX5_put 9 = .ok (.if_icmp .ge 13, 3) := by decide +kernel
theorem dX5_put_12 : decode cX5_put 12 = .ok (.iload_n 2, 1) := by decide +kernel
theorem dX5_put_13 : decode cX5_put 13 = .ok (.ifCond .lt 9, 3) := by decide +kernel
theorem dX5_put_16 : decode cX5_put 16 = .ok (.iload_n 2, 1) := by decide +kernel
theorem dX5_put_17 : decode cX5_put 17 = .ok (.bipush 8, 2) := by decide +kernel
theorem dX5_put_19 : decode cX5_put 19 = .ok (.if_icmp .lt 4, 3) := by decide +kernel
theorem dX5_put_22 : decode cX5_put 22 = .ok (.return_, 1) := by decide +kernel
theorem dX5_put_23 : decode cX5_put 23 = .ok (.iload_n 1, 1) := by decide +kernel
theorem dX5_put_24 : decode cX5_put 24 = .ok (.bipush 8, 2) := by decide +kernel
theorem dX5_put_26 : decode cX5_put 26 = .ok (.imul, 1) := by decide +kernel
theorem dX5_put_27 : decode cX5_put 27 = .ok (.iload_n 2, 1) := by decide +kernel
theorem dX5_put_28 : decode cX5_put 28 = .ok (.iadd, 1) := by decide +kernel
theorem dX5_put_29 : decode cX5_put 29 = .ok (.istore 4, 2) := by decide +kernel
theorem dX5_put_31 : decode cX5_put 31 = .ok (.iload 4, 2) := by decide +kernel
theorem dX5_put_33 : decode cX5_put 33 = .ok (.ifCond .lt 21, 3) := by decide +kernel
theorem dX5_put_36 : decode cX5_put 36 = .ok (.iload 4, 2) := by decide +kernel
theorem dX5_put_38 : decode cX5_put 38 = .ok (.aload_n 0, 1) := by decide +kernel
theorem dX5_put_39 : decode cX5_put 39 = .ok (.getfield 9, 3) := by decide +kernel
theorem dX5_put_42 : decode cX5_put 42 = .ok (.arraylength, 1) := by decide +kernel
theorem dX5_put_43 : decode cX5_put 43 = .ok (.if_icmp .ge 11, 3) := by decide +kernel
theorem dX5_put_46 : decode cX5_put 46 = .ok (.aload_n 0, 1) := by decide +kernel
theorem dX5_put_47 : decode cX5_put 47 = .ok (.getfield 9, 3) := by decide +kernel
theorem dX5_put_50 : decode cX5_put 50 = .ok (.iload 4, 2) := by decide +kernel
theorem dX5_put_52 : decode cX5_put 52 = .ok (.iload_n 3, 1) := by decide +kernel
theorem dX5_put_53 : decode cX5_put 53 = .ok (.iastore, 1) := by decide +kernel
theorem dX5_put_54 : decode cX5_put 54 = .ok (.return_, 1) := by decide +kernel
theorem dX5_rowOf_0 : decode cX5_rowOf 0 = .ok (.iconst 0, 1) := by decide +kernel
theorem dX5_rowOf_1 : decode cX5_rowOf 1 = .ok (.istore_n 3, 1) := by decide +kernel
theorem dX5_rowOf_2 : decode cX5_rowOf 2 = .ok (.iload_n 3, 1) := by decide +kernel
theorem dX5_rowOf_3 : decode cX5_rowOf 3 = .ok (.aload_n 0, 1) := by decide +kernel
theorem dX5_rowOf_4 : decode cX5_rowOf 4 = .ok (.getfield 15, 3) := by decide +kernel
theorem dX5_rowOf_7 : decode cX5_rowOf 7 = .ok (.if_icmp .ge 31, 3) := by decide +kernel
theorem dX5_rowOf_10 : decode cX5_rowOf 10 = .ok (.aload_n 0, 1) := by decide +kernel
theorem dX5_rowOf_11 : decode cX5_rowOf 11 = .ok (.iload_n 3, 1) := by decide +kernel
theorem dX5_rowOf_12 : decode cX5_rowOf 12 = .ok (.iconst 0, 1) := by decide +kernel
theorem dX5_rowOf_13 : decode cX5_rowOf 13 = .ok (.invokevirtual 19, 3) := by decide +kernel
theorem dX5_rowOf_16 : decode cX5_rowOf 16 = .ok (.iload_n 1, 1) := by decide +kernel
theorem dX5_rowOf_17 : decode cX5_rowOf 17 = .ok (.if_icmp .ne 15, 3) := by decide +kernel
theorem dX5_rowOf_20 : decode cX5_rowOf 20 = .ok (.aload_n 0, 1) := by decide +kernel
theorem dX5_rowOf_21 : decode cX5_rowOf 21 = .ok (.iload_n 3, 1) := by decide +kernel
theorem dX5_rowOf_22 : decode cX5_rowOf 22 = .ok (.iconst 3, 1) := by decide +kernel
theorem dX5_rowOf_23 : decode cX5_rowOf 23 = .ok (.invokevirtual 19, 3) := by decide +kernel
theorem dX5_rowOf_26 : decode cX5_rowOf 26 = .ok (.iload_n 2, 1) := by decide +kernel
theorem dX5_rowOf_27 : decode cX5_rowOf 27 = .ok (.if_icmp .ne 5, 3) := by decide +kernel
theorem dX5_rowOf_30 : decode cX5_rowOf 30 = .ok (.iload_n 3, 1) := by decide +kernel
theorem dX5_rowOf_31 : decode cX5_rowOf 31 = .ok (.ireturn, 1) := by decide +kernel
theorem dX5_rowOf_32 : decode cX5_rowOf 32 = .ok (.iinc 3 1, 3) := by decide +kernel
theorem dX5_rowOf_35 : decode cX5_rowOf 35 = .ok (.goto (-33), 3) := by decide +kernel
theorem dX5_rowOf_38 : decode cX5_rowOf 38 = .ok (.iconst (-1), 1) := by decide +kernel
theorem dX5_rowOf_39 : decode cX5_rowOf 39 = .ok (.ireturn, 1) := by decide +kernel
theorem dX5_addRow_0 : decode cX5_addRow 0 = .ok (.aload_n 0, 1) := by decide +kernel
theorem dX5_addRow_1 : decode cX5_addRow 1 = .ok (.invokevirtual 23, 3) := by decide +kernel
theorem dX5_addRow_4 : decode cX5_addRow 4 = .ok (.ifCond .eq 5, 3) := by decide +kernel
theorem dX5_addRow_7 : decode cX5_addRow 7 = .ok (.iconst (-1), 1) := by decide +kernel
theorem dX5_addRow_8 : decode cX5_addRow 8 = .ok (.ireturn, 1) := by decide +kernel
theorem dX5_addRow_9 : decode cX5_addRow 9 = .ok (.aload_n 0, 1) := by decide +kernel
theorem dX5_addRow_10 : decode cX5_addRow 10 = .ok (.dup, 1) := by decide +kernel
theorem dX5_addRow_11 : decode cX5_addRow 11 = .ok (.getfield 15, 3) := by decide +kernel
theorem dX5_addRow_14 : decode cX5_addRow 14 = .ok (.iconst 1, 1) := by decide +kernel
theorem dX5_addRow_15 : decode cX5_addRow 15 = .ok (.iadd, 1) := by decide +kernel
theorem dX5_addRow_16 : decode cX5_addRow 16 = .ok (.putfield 15, 3) := by decide +kernel
theorem dX5_addRow_19 : decode cX5_addRow 19 = .ok (.aload_n 0, 1) := by decide +kernel
theorem dX5_addRow_20 : decode cX5_addRow 20 = .ok (.getfield 15, 3) := by decide +kernel
theorem dX5_addRow_23 : decode cX5_addRow 23 = .ok (.iconst 1, 1) := by decide +kernel
theorem dX5_addRow_24 : decode cX5_addRow 24 = .ok (.isub, 1) := by decide +kernel
theorem dX5_addRow_25 : decode cX5_addRow 25 = .ok (.ireturn, 1) := by decide +kernel
theorem dX5_addCopy_0 : decode cX5_addCopy 0 = .ok (.aload_n 0, 1) := by decide +kernel
theorem dX5_addCopy_1 : decode cX5_addCopy 1 = .ok (.invokevirtual 27, 3) := by decide +kernel
theorem dX5_addCopy_4 : decode cX5_addCopy 4 = .ok (.istore_n 3, 1) := by decide +kernel
theorem dX5_addCopy_5 : decode cX5_addCopy 5 = .ok (.iconst 0, 1) := by decide +kernel
theorem dX5_addCopy_6 : decode cX5_addCopy 6 = .ok (.istore 4, 2) := by decide +kernel
theorem dX5_addCopy_8 : decode cX5_addCopy 8 = .ok (.iload 4, 2) := by decide +kernel
theorem dX5_addCopy_10 : decode cX5_addCopy 10 = .ok (.bipush 8, 2) := by decide +kernel
theorem dX5_addCopy_12 : decode cX5_addCopy 12 = .ok (.if_icmp .ge 23, 3) := by decide +kernel
theorem dX5_addCopy_15 : decode cX5_addCopy 15 = .ok (.aload_n 0, 1) := by decide +kernel
theorem dX5_addCopy_16 : decode cX5_addCopy 16 = .ok (.iload_n 3, 1) := by decide +kernel
theorem dX5_addCopy_17 : decode cX5_addCopy 17 = .ok (.iload 4, 2) := by decide +kernel
theorem dX5_addCopy_19 : decode cX5_addCopy 19 = .ok (.aload_n 1, 1) := by decide +kernel
theorem dX5_addCopy_20 : decode cX5_addCopy 20 = .ok (.iload_n 2, 1) := by decide +kernel
theorem dX5_addCopy_21 : decode cX5_addCopy 21 = .ok (.iload 4, 2) := by decide +kernel
theorem dX5_addCopy_23 : decode cX5_addCopy 23 = .ok (.invokevirtual 19, 3) := by decide +kernel
theorem dX5_addCopy_26 : decode cX5_addCopy 26 = .ok (.invokevirtual 31, 3) := by decide +kernel
theorem dX5_addCopy_29 : decode cX5_addCopy 29 = .ok (.iinc 4 1, 3) := by decide +kernel
theorem dX5_addCopy_32 : decode cX5_addCopy 32 = .ok (.goto (-24), 3) := by decide +kernel
theorem dX5_addCopy_35 : decode cX5_addCopy 35 = .ok (.iload_n 3, 1) := by decide +kernel
theorem dX5_addCopy_36 : decode cX5_addCopy 36 = .ok (.ireturn, 1) := by decide +kernel
theorem dX5_removeRow_0 : decode cX5_removeRow 0 = .ok (.iload_n 1, 1) := by decide +kernel
theorem dX5_removeRow_1 : decode cX5_removeRow 1 = .ok (.ifCond .lt 19, 3) := by decide +kernel
theorem dX5_removeRow_4 : decode cX5_removeRow 4 = .ok (.iload_n 1, 1) := by decide +kernel
theorem dX5_removeRow_5 : decode cX5_removeRow 5 = .ok (.aload_n 0, 1) := by decide +kernel
theorem dX5_removeRow_6 : decode cX5_removeRow 6 = .ok (.getfield 15, 3) := by decide +kernel
theorem dX5_removeRow_9 : decode cX5_removeRow 9 = .ok (.if_icmp .ge 11, 3) := by decide +kernel
theorem dX5_removeRow_12 : decode cX5_removeRow 12 = .ok (.aload_n 0, 1) := by decide +kernel
theorem dX5_removeRow_13 : decode cX5_removeRow 13 = .ok (.iload_n 1, 1) := by decide +kernel
theorem dX5_removeRow_14 : decode cX5_removeRow 14 = .ok (.iload_n 1, 1) := by decide +kernel
theorem dX5_removeRow_15 : decode cX5_removeRow 15 = .ok (.iconst 1, 1) := by decide +kernel
theorem dX5_removeRow_16 : decode cX5_removeRow 16 = .ok (.iadd, 1) := by decide +kernel
theorem dX5_removeRow_17 : decode cX5_removeRow 17 = .ok (.invokevirtual 35, 3) := by decide +kernel
theorem dX5_removeRow_20 : decode cX5_removeRow 20 = .ok (.return_, 1) := by decide +kernel
theorem dX5_removeFirst_0 : decode cX5_removeFirst 0 = .ok (.aload_n 0, 1) := by decide +kernel
theorem dX5_removeFirst_1 : decode cX5_removeFirst 1 = .ok (.iconst 0, 1) := by decide +kernel
theorem dX5_removeFirst_2 : decode cX5_removeFirst 2 = .ok (.iconst 0, 1) := by decide +kernel
theorem dX5_removeFirst_3 : decode cX5_removeFirst 3 = .ok (.iload_n 1, 1) := by decide +kernel
theorem dX5_removeFirst_4 : decode cX5_removeFirst 4 = .ok (.aload_n 0, 1) := by decide +kernel
theorem dX5_removeFirst_5 : decode cX5_removeFirst 5 = .ok (.getfield 15, 3) := by decide +kernel
theorem dX5_removeFirst_8 : decode cX5_removeFirst 8 = .ok (.invokestatic 39, 3) := by decide +kernel
theorem dX5_removeFirst_11 : decode cX5_removeFirst 11 = .ok (.invokestatic 44, 3) := by decide +kernel
theorem dX5_removeFirst_14 : decode cX5_removeFirst 14 = .ok (.invokevirtual 35, 3) := by decide +kernel
theorem dX5_removeFirst_17 : decode cX5_removeFirst 17 = .ok (.return_, 1) := by decide +kernel
theorem dX5_closeGap_0 : decode cX5_closeGap 0 = .ok (.aload_n 0, 1) := by decide +kernel
theorem dX5_closeGap_1 : decode cX5_closeGap 1 = .ok (.getfield 15, 3) := by decide +kernel
theorem dX5_closeGap_4 : decode cX5_closeGap 4 = .ok (.iload_n 2, 1) := by decide +kernel
theorem dX5_closeGap_5 : decode cX5_closeGap 5 = .ok (.isub, 1) := by decide +kernel
theorem dX5_closeGap_6 : decode cX5_closeGap 6 = .ok (.bipush 8, 2) := by decide +kernel
theorem dX5_closeGap_8 : decode cX5_closeGap 8 = .ok (.imul, 1) := by decide +kernel
theorem dX5_closeGap_9 : decode cX5_closeGap 9 = .ok (.istore_n 3, 1) := by decide +kernel
theorem dX5_closeGap_10 : decode cX5_closeGap 10 = .ok (.iload_n 2, 1) := by decide +kernel
theorem dX5_closeGap_11 : decode cX5_closeGap 11 = .ok (.bipush 8, 2) := by decide +kernel
theorem dX5_closeGap_13 : decode cX5_closeGap 13 = .ok (.imul, 1) := by decide +kernel
theorem dX5_closeGap_14 : decode cX5_closeGap 14 = .ok (.istore 4, 2) := by decide +kernel
theorem dX5_closeGap_16 : decode cX5_closeGap 16 = .ok (.iload_n 1, 1) := by decide +kernel
theorem dX5_closeGap_17 : decode cX5_closeGap 17 = .ok (.bipush 8, 2) := by decide +kernel
theorem dX5_closeGap_19 : decode cX5_closeGap 19 = .ok (.imul, 1) := by decide +kernel
theorem dX5_closeGap_20 : decode cX5_closeGap 20 = .ok (.istore 5, 2) := by decide +kernel
theorem dX5_closeGap_22 : decode cX5_closeGap 22 = .ok (.iload 5, 2) := by decide +kernel
theorem dX5_closeGap_24 : decode cX5_closeGap 24 = .ok (.ifCond .lt 54, 3) := by decide +kernel
theorem dX5_closeGap_27 : decode cX5_closeGap 27 = .ok (.iload 5, 2) := by decide +kernel
theorem dX5_closeGap_29 : decode cX5_closeGap 29 = .ok (.iload 4, 2) := by decide +kernel
theorem dX5_closeGap_31 : decode cX5_closeGap 31 = .ok (.if_icmp .gt 47, 3) := by decide +kernel
theorem dX5_closeGap_34 : decode cX5_closeGap 34 = .ok (.iload_n 3, 1) := by decide +kernel
theorem dX5_closeGap_35 : decode cX5_closeGap 35 = .ok (.ifCond .lt 43, 3) := by decide +kernel
theorem dX5_closeGap_38 : decode cX5_closeGap 38 = .ok (.iload 4, 2) := by decide +kernel
theorem dX5_closeGap_40 : decode cX5_closeGap 40 = .ok (.iload_n 3, 1) := by decide +kernel
theorem dX5_closeGap_41 : decode cX5_closeGap 41 = .ok (.iadd, 1) := by decide +kernel
theorem dX5_closeGap_42 : decode cX5_closeGap 42 = .ok (.aload_n 0, 1) := by decide +kernel
theorem dX5_closeGap_43 : decode cX5_closeGap 43 = .ok (.getfield 9, 3) := by decide +kernel
theorem dX5_closeGap_46 : decode cX5_closeGap 46 = .ok (.arraylength, 1) := by decide +kernel
theorem dX5_closeGap_47 : decode cX5_closeGap 47 = .ok (.if_icmp .gt 31, 3) := by decide +kernel
theorem dX5_closeGap_50 : decode cX5_closeGap 50 = .ok (.aload_n 0, 1) := by decide +kernel
theorem dX5_closeGap_51 : decode cX5_closeGap 51 = .ok (.getfield 9, 3) := by decide +kernel
theorem dX5_closeGap_54 : decode cX5_closeGap 54 = .ok (.iload 4, 2) := by decide +kernel
theorem dX5_closeGap_56 : decode cX5_closeGap 56 = .ok (.aload_n 0, 1) := by decide +kernel
theorem dX5_closeGap_57 : decode cX5_closeGap 57 = .ok (.getfield 9, 3) := by decide +kernel
theorem dX5_closeGap_60 : decode cX5_closeGap 60 = .ok (.iload 5, 2) := by decide +kernel
theorem dX5_closeGap_62 : decode cX5_closeGap 62 = .ok (.iload_n 3, 1) := by decide +kernel
theorem dX5_closeGap_63 : decode cX5_closeGap 63 = .ok (.invokestatic 47, 3) := by decide +kernel
theorem dX5_closeGap_66 : decode cX5_closeGap 66 = .ok (.aload_n 0, 1) := by decide +kernel
theorem dX5_closeGap_67 : decode cX5_closeGap 67 = .ok (.dup, 1) := by decide +kernel
theorem dX5_closeGap_68 : decode cX5_closeGap 68 = .ok (.getfield 15, 3) := by decide +kernel
theorem dX5_closeGap_71 : decode cX5_closeGap 71 = .ok (.iload_n 2, 1) := by decide +kernel
theorem dX5_closeGap_72 : decode cX5_closeGap 72 = .ok (.iload_n 1, 1) := by decide +kernel
theorem dX5_closeGap_73 : decode cX5_closeGap 73 = .ok (.isub, 1) := by decide +kernel
theorem dX5_closeGap_74 : decode cX5_closeGap 74 = .ok (.isub, 1) := by decide +kernel
theorem dX5_closeGap_75 : decode cX5_closeGap 75 = .ok (.putfield 15, 3) := by decide +kernel
theorem dX5_closeGap_78 : decode cX5_closeGap 78 = .ok (.return_, 1) := by decide +kernel
theorem dX5_removeAll_0 : decode cX5_removeAll 0 = .ok (.aload_n 0, 1) := by decide +kernel
theorem dX5_removeAll_1 : decode cX5_removeAll 1 = .ok (.getfield 15, 3) := by decide +kernel
theorem dX5_removeAll_4 : decode cX5_removeAll 4 = .ok (.istore_n 3, 1) := by decide +kernel
theorem dX5_removeAll_5 : decode cX5_removeAll 5 = .ok (.iload_n 3, 1) := by decide +kernel
theorem dX5_removeAll_6 : decode cX5_removeAll 6 = .ok (.iconst 1, 1) := by decide +kernel
theorem dX5_removeAll_7 : decode cX5_removeAll 7 = .ok (.isub, 1) := by decide +kernel
theorem dX5_removeAll_8 : decode cX5_removeAll 8 = .ok (.istore 4, 2) := by decide +kernel
theorem dX5_removeAll_10 : decode cX5_removeAll 10 = .ok (.iload 4, 2) := by decide +kernel
theorem dX5_removeAll_12 : decode cX5_removeAll 12 = .ok (.ifCond .lt 40, 3) := by decide +kernel
theorem dX5_removeAll_15 : decode cX5_removeAll 15 = .ok (.aload_n 0, 1) := by decide +kernel
theorem dX5_removeAll_16 : decode cX5_removeAll 16 = .ok (.iload 4, 2) := by decide +kernel
theorem dX5_removeAll_18 : decode cX5_removeAll 18 = .ok (.iconst 3, 1) := by decide +kernel
theorem dX5_removeAll_19 : decode cX5_removeAll 19 = .ok (.invokevirtual 19, 3) := by decide +kernel
theorem dX5_removeAll_22 : decode cX5_removeAll 22 = .ok (.iload_n 1, 1) := by decide +kernel
theorem dX5_removeAll_23 : decode cX5_removeAll 23 = .ok (.if_icmp .ne 23, 3) := by decide +kernel
theorem dX5_removeAll_26 : decode cX5_removeAll 26 = .ok (.iload_n 2, 1) := by decide +kernel
theorem dX5_removeAll_27 : decode cX5_removeAll 27 = .ok (.aload_n 0, 1) := by decide +kernel
theorem dX5_removeAll_28 : decode cX5_removeAll 28 = .ok (.iload 4, 2) := by decide +kernel
theorem dX5_removeAll_30 : decode cX5_removeAll 30 = .ok (.iconst 0, 1) := by decide +kernel
theorem dX5_removeAll_31 : decode cX5_removeAll 31 = .ok (.invokevirtual 19, 3) := by decide +kernel
theorem dX5_removeAll_34 : decode cX5_removeAll 34 = .ok (.invokestatic 53, 3) := by decide +kernel
theorem dX5_removeAll_37 : decode cX5_removeAll 37 = .ok (.ifCond .eq 9, 3) := by decide +kernel
theorem dX5_removeAll_40 : decode cX5_removeAll 40 = .ok (.aload_n 0, 1) := by decide +kernel
theorem dX5_removeAll_41 : decode cX5_removeAll 41 = .ok (.iload 4, 2) := by decide +kernel
theorem dX5_removeAll_43 : decode cX5_removeAll 43 = .ok (.invokevirtual 57, 3) := by decide +kernel
theorem dX5_removeAll_46 : decode cX5_removeAll 46 = .ok (.iinc 4 (-1), 3) := by decide +kernel
theorem dX5_removeAll_49 : decode cX5_removeAll 49 = .ok (.goto (-39), 3) := by decide +kernel
theorem dX5_removeAll_52 : decode cX5_removeAll 52 = .ok (.iload_n 3, 1) := by decide +kernel
theorem dX5_removeAll_53 : decode cX5_removeAll 53 = .ok (.aload_n 0, 1) := by decide +kernel
theorem dX5_removeAll_54 : decode cX5_removeAll 54 = .ok (.getfield 15, 3) := by decide +kernel
theorem dX5_removeAll_57 : decode cX5_removeAll 57 = .ok (.isub, 1) := by decide +kernel
theorem dX5_removeAll_58 : decode cX5_removeAll 58 = .ok (.ireturn, 1) := by decide +kernel
theorem dX5_lowMoved_0 : decode cX5_lowMoved 0 = .ok (.iconst 0, 1) := by decide +kernel
theorem dX5_lowMoved_1 : decode cX5_lowMoved 1 = .ok (.aload_n 0, 1) := by decide +kernel
theorem dX5_lowMoved_2 : decode cX5_lowMoved 2 = .ok (.iload_n 1, 1) := by decide +kernel
theorem dX5_lowMoved_3 : decode cX5_lowMoved 3 = .ok (.iconst 5, 1) := by decide +kernel
theorem dX5_lowMoved_4 : decode cX5_lowMoved 4 = .ok (.invokevirtual 19, 3) := by decide +kernel
theorem dX5_lowMoved_7 : decode cX5_lowMoved 7 = .ok (.iload_n 2, 1) := by decide +kernel
theorem dX5_lowMoved_8 : decode cX5_lowMoved 8 = .ok (.isub, 1) := by decide +kernel
theorem dX5_lowMoved_9 : decode cX5_lowMoved 9 = .ok (.invokestatic 44, 3) := by decide +kernel
theorem dX5_lowMoved_12 : decode cX5_lowMoved 12 = .ok (.ireturn, 1) := by decide +kernel
theorem dX5_highMoved_0 : decode cX5_highMoved 0 = .ok (.sipush 999, 3) := by decide +kernel
theorem dX5_highMoved_3 : decode cX5_highMoved 3 = .ok (.aload_n 0, 1) := by decide +kernel
theorem dX5_highMoved_4 : decode cX5_highMoved 4 = .ok (.iload_n 1, 1) := by decide +kernel
theorem dX5_highMoved_5 : decode cX5_highMoved 5 = .ok (.bipush 6, 2) := by decide +kernel
theorem dX5_highMoved_7 : decode cX5_highMoved 7 = .ok (.invokevirtual 19, 3) := by decide +kernel
theorem dX5_highMoved_10 : decode cX5_highMoved 10 = .ok (.iload_n 2, 1) := by decide +kernel
theorem dX5_highMoved_11 : decode cX5_highMoved 11 = .ok (.iadd, 1) := by decide +kernel
theorem dX5_highMoved_12 : decode cX5_highMoved 12 = .ok (.invokestatic 39, 3) := by decide +kernel
theorem dX5_highMoved_15 : decode cX5_highMoved 15 = .ok (.ireturn, 1) := by decide +kernel
theorem dX5_copyFrom_0 : decode cX5_copyFrom 0 = .ok (.aload_n 1, 1) := by decide +kernel
theorem dX5_copyFrom_1 : decode cX5_copyFrom 1 = .ok (.getfield 15, 3) := by decide +kernel
theorem dX5_copyFrom_4 : decode cX5_copyFrom 4 = .ok (.bipush 8, 2) := by decide +kernel
theorem dX5_copyFrom_6 : decode cX5_copyFrom 6 = .ok (.imul, 1) := by decide +kernel
theorem dX5_copyFrom_7 : decode cX5_copyFrom 7 = .ok (.aload_n 1, 1) := by decide +kernel
theorem dX5_copyFrom_8 : decode cX5_copyFrom 8 = .ok (.getfield 9, 3) := by decide +kernel
theorem dX5_copyFrom_11 : decode cX5_copyFrom 11 = .ok (.arraylength, 1) := by decide +kernel
theorem dX5_copyFrom_12 : decode cX5_copyFrom 12 = .ok (.aload_n 0, 1) := by decide +kernel
theorem dX5_copyFrom_13 : decode cX5_copyFrom 13 = .ok (.getfield 9, 3) := by decide +kernel
theorem dX5_copyFrom_16 : decode cX5_copyFrom 16 = .ok (.arraylength, 1) := by decide +kernel
theorem dX5_copyFrom_17 : decode cX5_copyFrom 17 = .ok (.invokestatic 39, 3) := by decide +kernel
theorem dX5_copyFrom_20 : decode cX5_copyFrom 20 = .ok (.invokestatic 39, 3) := by decide +kernel
theorem dX5_copyFrom_23 : decode cX5_copyFrom 23 = .ok (.istore_n 2, 1) := by decide +kernel
theorem dX5_copyFrom_24 : decode cX5_copyFrom 24 = .ok (.iload_n 2, 1) := by decide +kernel
theorem dX5_copyFrom_25 : decode cX5_copyFrom 25 = .ok (.ifCond .le 17, 3) := by decide +kernel
theorem dX5_copyFrom_28 : decode cX5_copyFrom 28 = .ok (.aload_n 1, 1) := by decide +kernel
theorem dX5_copyFrom_29 : decode cX5_copyFrom 29 = .ok (.getfield 9, 3) := by decide +kernel
theorem dX5_copyFrom_32 : decode cX5_copyFrom 32 = .ok (.iconst 0, 1) := by decide +kernel
theorem dX5_copyFrom_33 : decode cX5_copyFrom 33 = .ok (.aload_n 0, 1) := by decide +kernel
theorem dX5_copyFrom_34 : decode cX5_copyFrom 34 = .ok (.getfield 9, 3) := by decide +kernel
theorem dX5_copyFrom_37 : decode cX5_copyFrom 37 = .ok (.iconst 0, 1) := by decide +kernel
theorem dX5_copyFrom_38 : decode cX5_copyFrom 38 = .ok (.iload_n 2, 1) := by decide +kernel
theorem dX5_copyFrom_39 : decode cX5_copyFrom 39 = .ok (.invokestatic 47, 3) := by decide +kernel
theorem dX5_copyFrom_42 : decode cX5_copyFrom 42 = .ok (.aload_n 0, 1) := by decide +kernel
theorem dX5_copyFrom_43 : decode cX5_copyFrom 43 = .ok (.aload_n 1, 1) := by decide +kernel
theorem dX5_copyFrom_44 : decode cX5_copyFrom 44 = .ok (.getfield 15, 3) := by decide +kernel
theorem dX5_copyFrom_47 : decode cX5_copyFrom 47 = .ok (.putfield 15, 3) := by decide +kernel
theorem dX5_copyFrom_50 : decode cX5_copyFrom 50 = .ok (.return_, 1) := by decide +kernel
theorem dX6_init_0 : decode cX6_init 0 = .ok (.aload_n 0, 1) := by decide +kernel
theorem dX6_init_1 : decode cX6_init 1 = .ok (.invokespecial 3, 3) := by decide +kernel
theorem dX6_init_4 : decode cX6_init 4 = .ok (.aload_n 0, 1) := by decide +kernel
theorem dX6_init_5 : decode cX6_init 5 = .ok (.bipush 6, 2) := by decide +kernel
theorem dX6_init_7 : decode cX6_init 7 = .ok (.newarray .int, 2) := by decide +kernel
theorem dX6_init_9 : decode cX6_init 9 = .ok (.putfield 9, 3) := by decide +kernel
theorem dX6_init_12 : decode cX6_init 12 = .ok (.aload_n 0, 1) := by decide +kernel
theorem dX6_init_13 : decode cX6_init 13 = .ok (.bipush 6, 2) := by decide +kernel
theorem dX6_init_15 : decode cX6_init 15 = .ok (.newarray .int, 2) := by decide +kernel
theorem dX6_init_17 : decode cX6_init 17 = .ok (.putfield 15, 3) := by decide +kernel
theorem dX6_init_20 : decode cX6_init 20 = .ok (.aload_n 0, 1) := by decide +kernel
theorem dX6_init_21 : decode cX6_init 21 = .ok (.bipush 6, 2) := by decide +kernel
theorem dX6_init_23 : decode cX6_init 23 = .ok (.newarray .int, 2) := by decide +kernel
theorem dX6_init_25 : decode cX6_init 25 = .ok (.putfield 18, 3) := by decide +kernel
theorem dX6_init_28 : decode cX6_init 28 = .ok (.aload_n 0, 1) := by decide +kernel
theorem dX6_init_29 : decode cX6_init 29 = .ok (.bipush 6, 2) := by decide +kernel
theorem dX6_init_31 : decode cX6_init 31 = .ok (.newarray .int, 2) := by decide +kernel
theorem dX6_init_33 : decode cX6_init 33 = .ok (.putfield 21, 3) := by decide +kernel
theorem dX6_init_36 : decode cX6_init 36 = .ok (.aload_n 0, 1) := by decide +kernel
theorem dX6_init_37 : decode cX6_init 37 = .ok (.bipush 6, 2) := by decide +kernel
theorem dX6_init_39 : decode cX6_init 39 = .ok (.newarray .int, 2) := by decide +kernel
theorem dX6_init_41 : decode cX6_init 41 = .ok (.putfield 24, 3) := by decide +kernel
theorem dX6_init_44 : decode cX6_init 44 = .ok (.aload_n 0, 1) := by decide +kernel
theorem dX6_init_45 : decode cX6_init 45 = .ok (.bipush 6, 2) := by decide +kernel
theorem dX6_init_47 : decode cX6_init 47 = .ok (.newarray .int, 2) := by decide +kernel
theorem dX6_init_49 : decode cX6_init 49 = .ok (.putfield 27, 3) := by decide +kernel
theorem dX6_init_52 : decode cX6_init 52 = .ok (.return_, 1) := by decide +kernel
theorem dX6_form_0 : decode cX6_form 0 = .ok (.aload_n 0, 1) := by decide +kernel
theorem dX6_form_1 : decode cX6_form 1 = .ok (.iconst 0, 1) := by decide +kernel
theorem dX6_form_2 : decode cX6_form 2 = .ok (.putfield 30, 3) := by decide +kernel
theorem dX6_form_5 : decode cX6_form 5 = .ok (.aload_n 0, 1) := by decide +kernel
theorem dX6_form_6 : decode cX6_form 6 = .ok (.iconst 0, 1) := by decide +kernel
theorem dX6_form_7 : decode cX6_form 7 = .ok (.putfield 34, 3) := by decide +kernel
theorem dX6_form_10 : decode cX6_form 10 = .ok (.aload_n 0, 1) := by decide +kernel
theorem dX6_form_11 : decode cX6_form 11 = .ok (.sipush 999, 3) := by decide +kernel
theorem dX6_form_14 : decode cX6_form 14 = .ok (.putfield 37, 3) := by decide +kernel
theorem dX6_form_17 : decode cX6_form 17 = .ok (.aload_n 1, 1) := by decide +kernel
theorem dX6_form_18 : decode cX6_form 18 = .ok (.iload_n 2, 1) := by decide +kernel
theorem dX6_form_19 : decode cX6_form 19 = .ok (.invokevirtual 40, 3) := by decide +kernel
theorem dX6_form_22 : decode cX6_form 22 = .ok (.astore 5, 2) := by decide +kernel
theorem dX6_form_24 : decode cX6_form 24 = .ok (.iconst 0, 1) := by decide +kernel
theorem dX6_form_25 : decode cX6_form 25 = .ok (.istore 6, 2) := by decide +kernel
theorem dX6_form_27 : decode cX6_form 27 = .ok (.iload 6, 2) := by decide +kernel
theorem dX6_form_29 : decode cX6_form 29 = .ok (.aload 5, 2) := by decide +kernel
theorem dX6_form_31 : decode cX6_form 31 = .ok (.getfield 46, 3) := by decide +kernel
theorem dX6_form_34 : decode cX6_form 34 = .ok (.if_icmp .ge 65, 3) := by decide +kernel
theorem dX6_form_37 : decode cX6_form 37 = .ok (.aload 5, 2) := by decide +kernel
theorem dX6_form_39 : decode cX6_form 39 = .ok (.iload 6, 2) := by decide +kernel
theorem dX6_form_41 : decode cX6_form 41 = .ok (.iconst 3, 1) := by decide +kernel
theorem dX6_form_42 : decode cX6_form 42 = .ok (.invokevirtual 49, 3) := by decide +kernel
theorem dX6_form_45 : decode cX6_form 45 = .ok (.iload_n 3, 1) := by decide +kernel
theorem dX6_form_46 : decode cX6_form 46 = .ok (.if_icmp .ne 47, 3) := by decide +kernel
theorem dX6_form_49 : decode cX6_form 49 = .ok (.aload 5, 2) := by decide +kernel
theorem dX6_form_51 : decode cX6_form 51 = .ok (.iload 6, 2) := by decide +kernel
theorem dX6_form_53 : decode cX6_form 53 = .ok (.iconst 1, 1) := by decide +kernel
theorem dX6_form_54 : decode cX6_form 54 = .ok (.invokevirtual 49, 3) := by decide +kernel
theorem dX6_form_57 : decode cX6_form 57 = .ok (.iload 4, 2) := by decide +kernel
theorem dX6_form_59 : decode cX6_form 59 = .ok (.if_icmp .eq 34, 3) := by decide +kernel
theorem dX6_form_62 : decode cX6_form 62 = .ok (.aload_n 0, 1) := by decide +kernel
theorem dX6_form_63 : decode cX6_form 63 = .ok (.getfield 30, 3) := by decide +kernel
theorem dX6_form_66 : decode cX6_form 66 = .ok (.bipush 6, 2) := by decide +kernel
theorem dX6_form_68 : decode cX6_form 68 = .ok (.if_icmp .ge 25, 3) := by decide +kernel
theorem dX6_form_71 : decode cX6_form 71 = .ok (.aload_n 0, 1) := by decide +kernel
theorem dX6_form_72 : decode cX6_form 72 = .ok (.aload_n 1, 1) := by decide +kernel
theorem dX6_form_73 : decode cX6_form 73 = .ok (.iload_n 2, 1) := by decide +kernel
theorem dX6_form_74 : decode cX6_form 74 = .ok (.iload 6, 2) := by decide +kernel
theorem dX6_form_76 : decode cX6_form 76 = .ok (.aload_n 0, 1) := by decide +kernel
theorem dX6_form_77 : decode cX6_form 77 = .ok (.getfield 30, 3) := by decide +kernel
theorem dX6_form_80 : decode cX6_form 80 = .ok (.invokevirtual 53, 3) := by decide +kernel
theorem dX6_form_83 : decode cX6_form 83 = .ok (.aload_n 0, 1) := by decide +kernel
theorem dX6_form_84 : decode cX6_form 84 = .ok (.dup, 1) := by decide +kernel
theorem dX6_form_85 : decode cX6_form 85 = .ok (.getfield 30, 3) := by decide +kernel
theorem dX6_form_88 : decode cX6_form 88 = .ok (.iconst 1, 1) := by decide +kernel
theorem dX6_form_89 : decode cX6_form 89 = .ok (.iadd, 1) := by decide +kernel
theorem dX6_form_90 : decode cX6_form 90 = .ok (.putfield 30, 3) := by decide +kernel
theorem dX6_form_93 : decode cX6_form 93 = .ok (.iinc 6 1, 3) := by decide +kernel
theorem dX6_form_96 : decode cX6_form 96 = .ok (.goto (-69), 3) := by decide +kernel
theorem dX6_form_99 : decode cX6_form 99 = .ok (.iconst 0, 1) := by decide +kernel
theorem dX6_form_100 : decode cX6_form 100 = .ok (.istore 6, 2) := by decide +kernel
theorem dX6_form_102 : decode cX6_form 102 = .ok (.iload 6, 2) := by decide +kernel
theorem dX6_form_104 : decode cX6_form 104 = .ok (.aload_n 0, 1) := by decide +kernel
theorem dX6_form_105 : decode cX6_form 105 = .ok (.getfield 30, 3) := by decide +kernel
theorem dX6_form_108 : decode cX6_form 108 = .ok (.if_icmp .ge 17, 3) := by decide +kernel
theorem dX6_form_111 : decode cX6_form 111 = .ok (.aload_n 0, 1) := by decide +kernel
theorem dX6_form_112 : decode cX6_form 112 = .ok (.aload_n 0, 1) := by decide +kernel
theorem dX6_form_113 : decode cX6_form 113 = .ok (.invokevirtual 57, 3) := by decide +kernel
theorem dX6_form_116 : decode cX6_form 116 = .ok (.invokevirtual 61, 3) := by decide +kernel
theorem dX6_form_119 : decode cX6_form 119 = .ok (.iinc 6 1, 3) := by decide +kernel
theorem dX6_form_122 : decode cX6_form 122 = .ok (.goto (-20), 3) := by decide +kernel
theorem dX6_form_125 : decode cX6_form 125 = .ok (.return_, 1) := by decide +kernel
theorem dX6_note_0 : decode cX6_note 0 = .ok (.iload 4, 2) := by decide +kernel
theorem dX6_note_2 : decode cX6_note 2 = .ok (.ifCond .lt 10, 3) := by decide +kernel
theorem dX6_note_5 : decode cX6_note 5 = .ok (.iload 4, 2) := by decide +kernel
theorem dX6_note_7 : decode cX6_note 7 = .ok (.bipush 6, 2) := by decide +kernel
theorem dX6_note_9 : decode cX6_note 9 = .ok (.if_icmp .lt 4, 3) := by decide +kernel
theorem dX6_note_12 : decode cX6_note 12 = .ok (.return_, 1) := by decide +kernel
theorem dX6_note_13 : decode cX6_note 13 = .ok (.aload_n 1, 1) := by decide +kernel
theorem dX6_note_14 : decode cX6_note 14 = .ok (.iload_n 2, 1) := by decide +kernel
theorem dX6_note_15 : decode cX6_note 15 = .ok (.invokevirtual 40, 3) := by decide +kernel
theorem dX6_note_18 : decode cX6_note 18 = .ok (.astore 5, 2) := by decide +kernel
theorem dX6_note_20 : decode cX6_note 20 = .ok (.aload 5, 2) := by decide +kernel
theorem dX6_note_22 : decode cX6_note 22 = .ok (.iload_n 3, 1) := by decide +kernel
theorem dX6_note_23 : decode cX6_note 23 = .ok (.iconst 1, 1) := by decide +kernel
theorem dX6_note_24 : decode cX6_note 24 = .ok (.invokevirtual 49, 3) := by decide +kernel
theorem dX6_note_27 : decode cX6_note 27 = .ok (.istore 6, 2) := by decide +kernel
theorem dX6_note_29 : decode cX6_note 29 = .ok (.iload 6, 2) := by decide +kernel
theorem dX6_note_31 : decode cX6_note 31 = .ok (.iload_n 2, 1) := by decide +kernel
theorem dX6_note_32 : decode cX6_note 32 = .ok (.if_icmp .ne 8, 3) := by decide +kernel
theorem dX6_note_35 : decode cX6_note 35 = .ok (.bipush 11, 2) := by decide +kernel
theorem dX6_note_37 : decode cX6_note 37 = .ok (.goto 10, 3) := by decide +kernel
theorem dX6_note_40 : decode cX6_note 40 = .ok (.aload_n 1, 1) := by decide +kernel
theorem dX6_note_41 : decode cX6_note 41 = .ok (.iload_n 2, 1) := by decide +kernel
theorem dX6_note_42 : decode cX6_note 42 = .ok (.iload 6, 2) := by decide +kernel
theorem dX6_note_44 : decode cX6_note 44 = .ok (.invokevirtual 65, 3) := by decide +kernel
theorem dX6_note_47 : decode cX6_note 47 = .ok (.istore 7, 2) := by decide +kernel
theorem dX6_note_49 : decode cX6_note 49 = .ok (.aload_n 1, 1) := by decide +kernel
theorem dX6_note_50 : decode cX6_note 50 = .ok (.iload_n 2, 1) := by decide +kernel
theorem dX6_note_51 : decode cX6_note 51 = .ok (.iload_n 3, 1) := by decide +kernel
theorem dX6_note_52 : decode cX6_note 52 = .ok (.invokevirtual 68, 3) := by decide +kernel
theorem dX6_note_55 : decode cX6_note 55 = .ok (.istore 8, 2) := by decide +kernel
theorem dX6_note_57 : decode cX6_note 57 = .ok (.iload 7, 2) := by decide +kernel
theorem dX6_note_59 : decode cX6_note 59 = .ok (.iconst (-1), 1) := by decide +kernel
theorem dX6_note_60 : decode cX6_note 60 = .ok (.if_icmp .eq 13, 3) := by decide +kernel
theorem dX6_note_63 : decode cX6_note 63 = .ok (.iload 7, 2) := by decide +kernel
theorem dX6_note_65 : decode cX6_note 65 = .ok (.aload_n 1, 1) := by decide +kernel
theorem dX6_note_66 : decode cX6_note 66 = .ok (.iconst 2, 1) := by decide +kernel
theorem dX6_note_67 : decode cX6_note 67 = .ok (.invokevirtual 71, 3) := by decide +kernel
theorem dX6_note_70 : decode cX6_note 70 = .ok (.if_icmp .ge 7, 3) := by decide +kernel
theorem dX6_note_73 : decode cX6_note 73 = .ok (.iconst 1, 1) := by decide +kernel
theorem dX6_note_74 : decode cX6_note 74 = .ok (.goto 4, 3) := by decide +kernel
theorem dX6_note_77 : decode cX6_note 77 = .ok (.iconst 0, 1) := by decide +kernel
theorem dX6_note_78 : decode cX6_note 78 = .ok (.istore 9, 2) := by decide +kernel
theorem dX6_note_80 : decode cX6_note 80 = .ok (.aload_n 0, 1) := by decide +kernel
theorem dX6_note_81 : decode cX6_note 81 = .ok (.getfield 9, 3) := by decide +kernel
theorem dX6_note_84 : decode cX6_note 84 = .ok (.iload 4, 2) := by decide +kernel
theorem dX6_note_86 : decode cX6_note 86 = .ok (.iload_n 3, 1) := by decide +kernel
theorem dX6_note_87 : decode cX6_note 87 = .ok (.iastore, 1) := by decide +kernel
theorem dX6_note_88 : decode cX6_note 88 = .ok (.aload_n 0, 1) := by decide +kernel
theorem dX6_note_89 : decode cX6_note 89 = .ok (.getfield 15, 3) := by decide +kernel
theorem dX6_note_92 : decode cX6_note 92 = .ok (.iload 4, 2) := by decide +kernel
theorem dX6_note_94 : decode cX6_note 94 = .ok (.aload 5, 2) := by decide +kernel
theorem dX6_note_96 : decode cX6_note 96 = .ok (.iload_n 3, 1) := by decide +kernel
theorem dX6_note_97 : decode cX6_note 97 = .ok (.iconst 0, 1) := by decide +kernel
theorem dX6_note_98 : decode cX6_note 98 = .ok (.invokevirtual 49, 3) := by decide +kernel
theorem dX6_note_101 : decode cX6_note 101 = .ok (.iastore, 1) := by decide +kernel
theorem dX6_note_102 : decode cX6_note 102 = .ok (.aload_n 0, 1) := by decide +kernel
theorem dX6_note_103 : decode cX6_note 103 = .ok (.getfield 18, 3) := by decide +kernel
theorem dX6_note_106 : decode cX6_note 106 = .ok (.iload 4, 2) := by decide +kernel
theorem dX6_note_108 : decode cX6_note 108 = .ok (.bipush 10, 2) := by decide +kernel
theorem dX6_note_110 : decode cX6_note 110 = .ok (.iload 7, 2) := by decide +kernel
theorem dX6_note_112 : decode cX6_note 112 = .ok (.isub, 1) := by decide +kernel
theorem dX6_note_113 : decode cX6_note 113 = .ok (.bipush 100, 2) := by decide +kernel
theorem dX6_note_115 : decode cX6_note 115 = .ok (.imul, 1) := by decide +kernel
theorem dX6_note_116 : decode cX6_note 116 = .ok (.aload 5, 2) := by decide +kernel
theorem dX6_note_118 : decode cX6_note 118 = .ok (.iload_n 3, 1) := by decide +kernel
theorem dX6_note_119 : decode cX6_note 119 = .ok (.iconst 2, 1) := by decide +kernel
theorem dX6_note_120 : decode cX6_note 120 = .ok (.invokevirtual 49, 3) := by decide +kernel
theorem dX6_note_123 : decode cX6_note 123 = .ok (.bipush 10, 2) := by decide +kernel
theorem dX6_note_125 : decode cX6_note 125 = .ok (.imul, 1) := by decide +kernel
theorem dX6_note_126 : decode cX6_note 126 = .ok (.iadd, 1) := by decide +kernel
theorem dX6_note_127 : decode cX6_note 127 = .ok (.aload_n 0, 1) := by decide +kernel
theorem dX6_note_128 : decode cX6_note 128 = .ok (.getfield 15, 3) := by decide +kernel
theorem dX6_note_131 : decode cX6_note 131 = .ok (.iload 4, 2) := by decide +kernel
theorem dX6_note_133 : decode cX6_note 133 = .ok (.iaload, 1) := by decide +kernel
theorem dX6_note_134 : decode cX6_note 134 = .ok (.iadd, 1) := by decide +kernel
theorem dX6_note_135 : decode cX6_note 135 = .ok (.iastore, 1) := by decide +kernel
theorem dX6_note_136 : decode cX6_note 136 = .ok (.aload_n 0, 1) := by decide +kernel
theorem dX6_note_137 : decode cX6_note 137 = .ok (.getfield 21, 3) := by decide +kernel
theorem dX6_note_140 : decode cX6_note 140 = .ok (.iload 4, 2) := by decide +kernel
theorem dX6_note_142 : decode cX6_note 142 = .ok (.aload 5, 2) := by decide +kernel
theorem dX6_note_144 : decode cX6_note 144 = .ok (.iload_n 3, 1) := by decide +kernel
theorem dX6_note_145 : decode cX6_note 145 = .ok (.iload 8, 2) := by decide +kernel
theorem dX6_note_147 : decode cX6_note 147 = .ok (.invokevirtual 75, 3) := by decide +kernel
theorem dX6_note_150 : decode cX6_note 150 = .ok (.iastore, 1) := by decide +kernel
theorem dX6_note_151 : decode cX6_note 151 = .ok (.aload_n 0, 1) := by decide +kernel
theorem dX6_note_152 : decode cX6_note 152 = .ok (.getfield 24, 3) := by decide +kernel
theorem dX6_note_155 : decode cX6_note 155 = .ok (.iload 4, 2) := by decide +kernel
theorem dX6_note_157 : decode cX6_note 157 = .ok (.aload 5, 2) := by decide +kernel
theorem dX6_note_159 : decode cX6_note 159 = .ok (.iload_n 3, 1) := by decide +kernel
theorem dX6_note_160 : decode cX6_note 160 = .ok (.iload 8, 2) := by decide +kernel
theorem dX6_note_162 : decode cX6_note 162 = .ok (.invokevirtual 78, 3) := by decide +kernel
theorem dX6_note_165 : decode cX6_note 165 = .ok (.iastore, 1) := by decide +kernel
theorem dX6_note_166 : decode cX6_note 166 = .ok (.aload_n 0, 1) := by decide +kernel
theorem dX6_note_167 : decode cX6_note 167 = .ok (.getfield 27, 3) := by decide +kernel
theorem dX6_note_170 : decode cX6_note 170 = .ok (.iload 4, 2) := by decide +kernel
theorem dX6_note_172 : decode cX6_note 172 = .ok (.iload 9, 2) := by decide +kernel
theorem dX6_note_174 : decode cX6_note 174 = .ok (.ifCond .eq 7, 3) := by decide +kernel
theorem dX6_note_177 : decode cX6_note 177 = .ok (.iconst 2, 1) := by decide +kernel
theorem dX6_note_178 : decode cX6_note 178 = .ok (.goto 4, 3) := by decide +kernel
theorem dX6_note_181 : decode cX6_note 181 = .ok (.iconst 3, 1) := by decide +kernel
theorem dX6_note_182 : decode cX6_note 182 = .ok (.iastore, 1) := by decide +kernel
theorem dX6_note_183 : decode cX6_note 183 = .ok (.return_, 1) := by decide +kernel
theorem dX6_nextToTake_0 : decode cX6_nextToTake 0 = .ok (.iconst (-1), 1) := by decide +kernel
theorem dX6_nextToTake_1 : decode cX6_nextToTake 1 = .ok (.istore_n 1, 1) := by decide +kernel
theorem dX6_nextToTake_2 : decode cX6_nextToTake 2 = .ok (.iconst 0, 1) := by decide +kernel
theorem dX6_nextToTake_3 : decode cX6_nextToTake 3 = .ok (.istore_n 2, 1) := by decide +kernel
theorem dX6_nextToTake_4 : decode cX6_nextToTake 4 = .ok (.iconst 0, 1) := by decide +kernel
theorem dX6_nextToTake_5 : decode cX6_nextToTake 5 = .ok (.istore_n 3, 1) := by decide +kernel
theorem dX6_nextToTake_6 : decode cX6_nextToTake 6 = .ok (.iload_n 3, 1) := by decide +kernel
theorem dX6_nextToTake_7 : decode cX6_nextToTake 7 = .ok (.aload_n 0, 1) := by decide +kernel
theorem dX6_nextToTake_8 : decode cX6_nextToTake 8 = .ok (.getfield 30, 3) := by decide +kernel
theorem dX6_nextToTake_11 : decode cX6_nextToTake 11 = .ok (.if_icmp .ge 49, 3) := by decide +kernel
theorem dX6_nextToTake_14 : decode cX6_nextToTake 14 = .ok (.iload_n 3, 1) := by decide +kernel
theorem dX6_nextToTake_15 : decode cX6_nextToTake 15 = .ok (.bipush 6, 2) := by decide +kernel
theorem dX6_nextToTake_17 : decode cX6_nextToTake 17 = .ok (.if_icmp .ge 43, 3) := by decide +kernel
theorem dX6_nextToTake_20 : decode cX6_nextToTake 20 = .ok (.aload_n 0, 1) := by decide +kernel
theorem dX6_nextToTake_21 : decode cX6_nextToTake 21 = .ok (.getfield 27, 3) := by decide +kernel
theorem dX6_nextToTake_24 : decode cX6_nextToTake 24 = .ok (.iload_n 3, 1) := by decide +kernel
theorem dX6_nextToTake_25 : decode cX6_nextToTake 25 = .ok (.iaload, 1) := by decide +kernel
theorem dX6_nextToTake_26 : decode cX6_nextToTake 26 = .ok (.iconst 3, 1) := by decide +kernel
theorem dX6_nextToTake_27 : decode cX6_nextToTake 27 = .ok (.if_icmp .ne 27, 3) := by decide +kernel
theorem dX6_nextToTake_30 : decode cX6_nextToTake 30 = .ok (.iload_n 1, 1) := by decide +kernel
theorem dX6_nextToTake_31 : decode cX6_nextToTake 31 = .ok (.iconst (-1), 1) := by decide +kernel
theorem dX6_nextToTake_32 : decode cX6_nextToTake 32 = .ok (.if_icmp .eq 13, 3) := by decide +kernel
theorem dX6_nextToTake_35 : decode cX6_nextToTake 35 = .ok (.aload_n 0, 1) := by decide +kernel
theorem dX6_nextToTake_36 : decode cX6_nextToTake 36 = .ok (.getfield 18, 3) := by decide +kernel
theorem dX6_nextToTake_39 : decode cX6_nextToTake 39 = .ok (.iload_n 3, 1) := by decide +kernel
theorem dX6_nextToTake_40 : decode cX6_nextToTake 40 = .ok (.iaload, 1) := by decide +kernel
theorem dX6_nextToTake_41 : decode cX6_nextToTake 41 = .ok (.iload_n 2, 1) := by decide +kernel
theorem dX6_nextToTake_42 : decode cX6_nextToTake 42 = .ok (.if_icmp .ge 12, 3) := by decide +kernel
theorem dX6_nextToTake_45 : decode cX6_nextToTake 45 = .ok (.iload_n 3, 1) := by decide +kernel
theorem dX6_nextToTake_46 : decode cX6_nextToTake 46 = .ok (.istore_n 1, 1) := by decide +kernel
theorem dX6_nextToTake_47 : decode cX6_nextToTake 47 = .ok (.aload_n 0, 1) := by decide +kernel
theorem dX6_nextToTake_48 : decode cX6_nextToTake 48 = .ok (.getfield 18, 3) := by decide +kernel
theorem dX6_nextToTake_51 : decode cX6_nextToTake 51 = .ok (.iload_n 3, 1) := by decide +kernel
theorem dX6_nextToTake_52 : decode cX6_nextToTake 52 = .ok (.iaload, 1) := by decide +kernel
theorem dX6_nextToTake_53 : decode cX6_nextToTake 53 = .ok (.istore_n 2, 1) := by decide +kernel
theorem dX6_nextToTake_54 : decode cX6_nextToTake 54 = .ok (.iinc 3 1, 3) := by decide +kernel
theorem dX6_nextToTake_57 : decode cX6_nextToTake 57 = .ok (.goto (-51), 3) := by decide +kernel
theorem dX6_nextToTake_60 : decode cX6_nextToTake 60 = .ok (.iload_n 1, 1) := by decide +kernel
theorem dX6_nextToTake_61 : decode cX6_nextToTake 61 = .ok (.ireturn, 1) := by decide +kernel
theorem dX6_take_0 : decode cX6_take 0 = .ok (.iload_n 1, 1) := by decide +kernel
theorem dX6_take_1 : decode cX6_take 1 = .ok (.ifCond .lt 9, 3) := by decide +kernel
theorem dX6_take_4 : decode cX6_take 4 = .ok (.iload_n 1, 1) := by decide +kernel
theorem dX6_take_5 : decode cX6_take 5 = .ok (.bipush 6, 2) := by decide +kernel
theorem dX6_take_7 : decode cX6_take 7 = .ok (.if_icmp .lt 4, 3) := by decide +kernel
theorem dX6_take_10 : decode cX6_take 10 = .ok (.return_, 1) := by decide +kernel
theorem dX6_take_11 : decode cX6_take 11 = .ok (.aload_n 0, 1) := by decide +kernel
theorem dX6_take_12 : decode cX6_take 12 = .ok (.getfield 34, 3) := by decide +kernel
theorem dX6_take_15 : decode cX6_take 15 = .ok (.aload_n 0, 1) := by decide +kernel
theorem dX6_take_16 : decode cX6_take 16 = .ok (.getfield 21, 3) := by decide +kernel
theorem dX6_take_19 : decode cX6_take 19 = .ok (.iload_n 1, 1) := by decide +kernel
theorem dX6_take_20 : decode cX6_take 20 = .ok (.iaload, 1) := by decide +kernel
theorem dX6_take_21 : decode cX6_take 21 = .ok (.invokestatic 81, 3) := by decide +kernel
theorem dX6_take_24 : decode cX6_take 24 = .ok (.istore_n 2, 1) := by decide +kernel
theorem dX6_take_25 : decode cX6_take 25 = .ok (.aload_n 0, 1) := by decide +kernel
theorem dX6_take_26 : decode cX6_take 26 = .ok (.getfield 37, 3) := by decide +kernel
theorem dX6_take_29 : decode cX6_take 29 = .ok (.aload_n 0, 1) := by decide +kernel
theorem dX6_take_30 : decode cX6_take 30 = .ok (.getfield 24, 3) := by decide +kernel
theorem dX6_take_33 : decode cX6_take 33 = .ok (.iload_n 1, 1) := by decide +kernel
theorem dX6_take_34 : decode cX6_take 34 = .ok (.iaload, 1) := by decide +kernel
theorem dX6_take_35 : decode cX6_take 35 = .ok (.invokestatic 86, 3) := by decide +kernel
theorem dX6_take_38 : decode cX6_take 38 = .ok (.istore_n 3, 1) := by decide +kernel
theorem dX6_take_39 : decode cX6_take 39 = .ok (.iload_n 2, 1) := by decide +kernel
theorem dX6_take_40 : decode cX6_take 40 = .ok (.iload_n 3, 1) := by decide +kernel
theorem dX6_take_41 : decode cX6_take 41 = .ok (.if_icmp .le 11, 3) := by decide +kernel
theorem dX6_take_44 : decode cX6_take 44 = .ok (.aload_n 0, 1) := by decide +kernel
theorem dX6_take_45 : decode cX6_take 45 = .ok (.getfield 27, 3) := by decide +kernel
theorem dX6_take_48 : decode cX6_take 48 = .ok (.iload_n 1, 1) := by decide +kernel
theorem dX6_take_49 : decode cX6_take 49 = .ok (.iconst 1, 1) := by decide +kernel
theorem dX6_take_50 : decode cX6_take 50 = .ok (.iastore, 1) := by decide +kernel
theorem dX6_take_51 : decode cX6_take 51 = .ok (.return_, 1) := by decide +kernel
theorem dX6_take_52 : decode cX6_take 52 = .ok (.aload_n 0, 1) := by decide +kernel
theorem dX6_take_53 : decode cX6_take 53 = .ok (.getfield 27, 3) := by decide +kernel
theorem dX6_take_56 : decode cX6_take 56 = .ok (.iload_n 1, 1) := by decide +kernel
theorem dX6_take_57 : decode cX6_take 57 = .ok (.iconst 0, 1) := by decide +kernel
theorem dX6_take_58 : decode cX6_take 58 = .ok (.iastore, 1) := by decide +kernel
theorem dX6_take_59 : decode cX6_take 59 = .ok (.aload_n 0, 1) := by decide +kernel
theorem dX6_take_60 : decode cX6_take 60 = .ok (.iload_n 2, 1) := by decide +kernel
theorem dX6_take_61 : decode cX6_take 61 = .ok (.putfield 34, 3) := by decide +kernel
theorem dX6_take_64 : decode cX6_take 64 = .ok (.aload_n 0, 1) := by decide +kernel
theorem dX6_take_65 : decode cX6_take 65 = .ok (.iload_n 3, 1) := by decide +kernel
theorem dX6_take_66 : decode cX6_take 66 = .ok (.putfield 37, 3) := by decide +kernel
theorem dX6_take_69 : decode cX6_take 69 = .ok (.return_, 1) := by decide +kernel
theorem dX6_statusOf_0 : decode cX6_statusOf 0 = .ok (.iconst 0, 1) := by decide +kernel
theorem dX6_statusOf_1 : decode cX6_statusOf 1 = .ok (.istore_n 2, 1) := by decide +kernel
theorem dX6_statusOf_2 : decode cX6_statusOf 2 = .ok (.iload_n 2, 1) := by decide +kernel
theorem dX6_statusOf_3 : decode cX6_statusOf 3 = .ok (.aload_n 0, 1) := by decide +kernel
theorem dX6_statusOf_4 : decode cX6_statusOf 4 = .ok (.getfield 30, 3) := by decide +kernel
theorem dX6_statusOf_7 : decode cX6_statusOf 7 = .ok (.if_icmp .ge 32, 3) := by decide +kernel
theorem dX6_statusOf_10 : decode cX6_statusOf 10 = .ok (.iload_n 2, 1) := by decide +kernel
theorem dX6_statusOf_11 : decode cX6_statusOf 11 = .ok (.bipush 6, 2) := by decide +kernel
theorem dX6_statusOf_13 : decode cX6_statusOf 13 = .ok (.if_icmp .ge 26, 3) := by decide +kernel
theorem dX6_statusOf_16 : decode cX6_statusOf 16 = .ok (.aload_n 0, 1) := by decide +kernel
theorem dX6_statusOf_17 : decode cX6_statusOf 17 = .ok (.getfield 9, 3) := by decide +kernel
theorem dX6_statusOf_20 : decode cX6_statusOf 20 = .ok (.iload_n 2, 1) := by decide +kernel
theorem dX6_statusOf_21 : decode cX6_statusOf 21 = .ok (.iaload, 1) := by decide +kernel
theorem dX6_statusOf_22 : decode cX6_statusOf 22 = .ok (.iload_n 1, 1) := by decide +kernel
theorem dX6_statusOf_23 : decode cX6_statusOf 23 = .ok (.if_icmp .ne 10, 3) := by decide +kernel
theorem dX6_statusOf_26 : decode cX6_statusOf 26 = .ok (.aload_n 0, 1) := by decide +kernel
theorem dX6_statusOf_27 : decode cX6_statusOf 27 = .ok (.getfield 27, 3) := by decide +kernel
theorem dX6_statusOf_30 : decode cX6_statusOf 30 = .ok (.iload_n 2, 1) := by decide +kernel
theorem dX6_statusOf_31 : decode cX6_statusOf 31 = .ok (.iaload, 1) := by decide +kernel
theorem dX6_statusOf_32 : decode cX6_statusOf 32 = .ok (.ireturn, 1) := by decide +kernel
theorem dX6_statusOf_33 : decode cX6_statusOf 33 = .ok (.iinc 2 1, 3) := by decide +kernel
theorem dX6_statusOf_36 : decode cX6_statusOf 36 = .ok (.goto (-34), 3) := by decide +kernel
theorem dX6_statusOf_39 : decode cX6_statusOf 39 = .ok (.iconst 2, 1) := by decide +kernel
theorem dX6_statusOf_40 : decode cX6_statusOf 40 = .ok (.ireturn, 1) := by decide +kernel
theorem dX6_originsWith_0 : decode cX6_originsWith 0 = .ok (.iconst 0, 1) := by decide +kernel
theorem dX6_originsWith_1 : decode cX6_originsWith 1 = .ok (.istore_n 2, 1) := by decide +kernel
theorem dX6_originsWith_2 : decode cX6_originsWith 2 = .ok (.iconst 0, 1) := by decide +kernel
theorem dX6_originsWith_3 : decode cX6_originsWith 3 = .ok (.istore_n 3, 1) := by decide +kernel
theorem dX6_originsWith_4 : decode cX6_originsWith 4 = .ok (.iload_n 3, 1) := by decide +kernel
theorem dX6_originsWith_5 : decode cX6_originsWith 5 = .ok (.aload_n 0, 1) := by decide +kernel
theorem dX6_originsWith_6 : decode cX6_originsWith 6 = .ok (.getfield 30, 3) := by decide +kernel
theorem dX6_originsWith_9 : decode cX6_originsWith 9 = .ok (.if_icmp .ge 36, 3) := by decide +kernel
theorem dX6_originsWith_12 : decode cX6_originsWith 12 = .ok (.iload_n 3, 1) := by decide +kernel
theorem dX6_originsWith_13 : decode cX6_originsWith 13 = .ok (.bipush 6, 2) := by decide +kernel
theorem dX6_originsWith_15 : decode cX6_originsWith 15 = .ok (.if_icmp .ge 30, 3) := by decide +kernel
theorem dX6_originsWith_18 : decode cX6_originsWith 18 = .ok (.aload_n 0, 1) := by decide +kernel
theorem dX6_originsWith_19 : decode cX6_originsWith 19 = .ok (.getfield 27, 3) := by decide +kernel
theorem dX6_originsWith_22 : decode cX6_originsWith 22 = .ok (.iload_n 3, 1) := by decide +kernel
theorem dX6_originsWith_23 : decode cX6_originsWith 23 = .ok (.iaload, 1) := by decide +kernel
theorem dX6_originsWith_24 : decode cX6_originsWith 24 = .ok (.iload_n 1, 1) := by decide +kernel
theorem dX6_originsWith_25 : decode cX6_originsWith 25 = .ok (.if_icmp .ne 14, 3) := by decide +kernel
theorem dX6_originsWith_28 : decode cX6_originsWith 28 = .ok (.iload_n 2, 1) := by decide +kernel
theorem dX6_originsWith_29 : decode cX6_originsWith 29 = .ok (.iconst 1, 1) := by decide +kernel
theorem dX6_originsWith_30 : decode cX6_originsWith 30 = .ok (.aload_n 0, 1) := by decide +kernel
theorem dX6_originsWith_31 : decode cX6_originsWith 31 = .ok (.getfield 15, 3) := by decide +kernel
theorem dX6_originsWith_34 : decode cX6_originsWith 34 = .ok (.iload_n 3, 1) := by decide +kernel
theorem dX6_originsWith_35 : decode cX6_originsWith 35 = .ok (.iaload, 1) := by decide +kernel
theorem dX6_originsWith_36 : decode cX6_originsWith 36 = .ok (.ishl, 1) := by decide +kernel
theorem dX6_originsWith_37 : decode cX6_originsWith 37 = .ok (.ior, 1) := by decide +kernel
theorem dX6_originsWith_38 : decode cX6_originsWith 38 = .ok (.istore_n 2, 1) := by decide +kernel
theorem dX6_originsWith_39 : decode cX6_originsWith 39 = .ok (.iinc 3 1, 3) := by decide +kernel
theorem dX6_originsWith_42 : decode cX6_originsWith 42 = .ok (.goto (-38), 3) := by decide +kernel
theorem dX6_originsWith_45 : decode cX6_originsWith 45 = .ok (.iload_n 2, 1) := by decide +kernel
theorem dX6_originsWith_46 : decode cX6_originsWith 46 = .ok (.ireturn, 1) := by decide +kernel
theorem dX6_largestSet_0 : decode cX6_largestSet 0 = .ok (.iconst 0, 1) := by decide +kernel
theorem dX6_largestSet_1 : decode cX6_largestSet 1 = .ok (.istore_n 1, 1) := by decide +kernel
theorem dX6_largestSet_2 : decode cX6_largestSet 2 = .ok (.iconst 0, 1) := by decide +kernel
theorem dX6_largestSet_3 : decode cX6_largestSet 3 = .ok (.istore_n 2, 1) := by decide +kernel
theorem dX6_largestSet_4 : decode cX6_largestSet 4 = .ok (.iload_n 2, 1) := by decide +kernel
theorem dX6_largestSet_5 : decode cX6_largestSet 5 = .ok (.aload_n 0, 1) := by decide +kernel
theorem dX6_largestSet_6 : decode cX6_largestSet 6 = .ok (.getfield 30, 3) := by decide +kernel
theorem dX6_largestSet_9 : decode cX6_largestSet 9 = .ok (.if_icmp .ge 68, 3) := by decide +kernel
theorem dX6_largestSet_12 : decode cX6_largestSet 12 = .ok (.iload_n 2, 1) := by decide +kernel
theorem dX6_largestSet_13 : decode cX6_largestSet 13 = .ok (.bipush 6, 2) := by decide +kernel
theorem dX6_largestSet_15 : decode cX6_largestSet 15 = .ok (.if_icmp .ge 62, 3) := by decide +kernel
theorem dX6_largestSet_18 : decode cX6_largestSet 18 = .ok (.aload_n 0, 1) := by decide +kernel
theorem dX6_largestSet_19 : decode cX6_largestSet 19 = .ok (.getfield 27, 3) := by decide +kernel
theorem dX6_largestSet_22 : decode cX6_largestSet 22 = .ok (.iload_n 2, 1) := by decide +kernel
theorem dX6_largestSet_23 : decode cX6_largestSet 23 = .ok (.iaload, 1) := by decide +kernel
theorem dX6_largestSet_24 : decode cX6_largestSet 24 = .ok (.iconst 2, 1) := by decide +kernel
theorem dX6_largestSet_25 : decode cX6_largestSet 25 = .ok (.if_icmp .ne 7, 3) := by decide +kernel
theorem dX6_largestSet_28 : decode cX6_largestSet 28 = .ok (.iconst 0, 1) := by decide +kernel
theorem dX6_largestSet_29 : decode cX6_largestSet 29 = .ok (.goto 13, 3) := by decide +kernel
theorem dX6_largestSet_32 : decode cX6_largestSet 32 = .ok (.aload_n 0, 1) := by decide +kernel
theorem dX6_largestSet_33 : decode cX6_largestSet 33 = .ok (.aload_n 0, 1) := by decide +kernel
theorem dX6_largestSet_34 : decode cX6_largestSet 34 = .ok (.getfield 21, 3) := by decide +kernel
theorem dX6_largestSet_37 : decode cX6_largestSet 37 = .ok (.iload_n 2, 1) := by decide +kernel
theorem dX6_largestSet_38 : decode cX6_largestSet 38 = .ok (.iaload, 1) := by decide +kernel
theorem dX6_largestSet_39 : decode cX6_largestSet 39 = .ok (.invokevirtual 89, 3) := by decide +kernel
theorem dX6_largestSet_42 : decode cX6_largestSet 42 = .ok (.istore_n 3, 1) := by decide +kernel
theorem dX6_largestSet_43 : decode cX6_largestSet 43 = .ok (.iload_n 3, 1) := by decide +kernel
theorem dX6_largestSet_44 : decode cX6_largestSet 44 = .ok (.invokestatic 92, 3) := by decide +kernel
theorem dX6_largestSet_47 : decode cX6_largestSet 47 = .ok (.iload_n 1, 1) := by decide +kernel
theorem dX6_largestSet_48 : decode cX6_largestSet 48 = .ok (.invokestatic 92, 3) := by decide +kernel
theorem dX6_largestSet_51 : decode cX6_largestSet 51 = .ok (.isub, 1) := by decide +kernel
theorem dX6_largestSet_52 : decode cX6_largestSet 52 = .ok (.istore 4, 2) := by decide +kernel
theorem dX6_largestSet_54 : decode cX6_largestSet 54 = .ok (.iload 4, 2) := by decide +kernel
theorem dX6_largestSet_56 : decode cX6_largestSet 56 = .ok (.ifCond .gt 13, 3) := by decide +kernel
theorem dX6_largestSet_59 : decode cX6_largestSet 59 = .ok (.iload 4, 2) := by decide +kernel
theorem dX6_largestSet_61 : decode cX6_largestSet 61 = .ok (.ifCond .ne 10, 3) := by decide +kernel
theorem dX6_largestSet_64 : decode cX6_largestSet 64 = .ok (.iload_n 3, 1) := by decide +kernel
theorem dX6_largestSet_65 : decode cX6_largestSet 65 = .ok (.iload_n 1, 1) := by decide +kernel
theorem dX6_largestSet_66 : decode cX6_largestSet 66 = .ok (.if_icmp .ge 5, 3) := by decide +kernel
theorem dX6_largestSet_69 : decode cX6_largestSet 69 = .ok (.iload_n 3, 1) := by decide +kernel
theorem dX6_largestSet_70 : decode cX6_largestSet 70 = .ok (.istore_n 1, 1) := by decide +kernel
theorem dX6_largestSet_71 : decode cX6_largestSet 71 = .ok (.iinc 2 1, 3) := by decide +kernel
theorem dX6_largestSet_74 : decode cX6_largestSet 74 = .ok (.goto (-70), 3) := by decide +kernel
theorem dX6_largestSet_77 : decode cX6_largestSet 77 = .ok (.iload_n 1, 1) := by decide +kernel
theorem dX6_largestSet_78 : decode cX6_largestSet 78 = .ok (.ireturn, 1) := by decide +kernel
theorem dX6_originsAround_0 : decode cX6_originsAround 0 = .ok (.iconst 0, 1) := by decide +kernel
theorem dX6_originsAround_1 : decode cX6_originsAround 1 = .ok (.istore_n 2, 1) := by decide +kernel
theorem dX6_originsAround_2 : decode cX6_originsAround 2 = .ok (.iconst 0, 1) := by decide +kernel
theorem dX6_originsAround_3 : decode cX6_originsAround 3 = .ok (.istore_n 3, 1) := by decide +kernel
theorem dX6_originsAround_4 : decode cX6_originsAround 4 = .ok (.iload_n 3, 1) := by decide +kernel
theorem dX6_originsAround_5 : decode cX6_originsAround 5 = .ok (.aload_n 0, 1) := by decide +kernel
theorem dX6_originsAround_6 : decode cX6_originsAround 6 = .ok (.getfield 30, 3) := by decide +kernel
theorem dX6_originsAround_9 : decode cX6_originsAround 9 = .ok (.if_icmp .ge 56, 3) := by decide +kernel
theorem dX6_originsAround_12 : decode cX6_originsAround 12 = .ok (.iload_n 3, 1) := by decide +kernel
theorem dX6_originsAround_13 : decode cX6_originsAround 13 = .ok (.bipush 6, 2) := by decide +kernel
theorem dX6_originsAround_15 : decode cX6_originsAround 15 = .ok (.if_icmp .ge 50, 3) := by decide +kernel
theorem dX6_originsAround_18 : decode cX6_originsAround 18 = .ok (.aload_n 0, 1) := by decide +kernel
theorem dX6_originsAround_19 : decode cX6_originsAround 19 = .ok (.getfield 27, 3) := by decide +kernel
theorem dX6_originsAround_22 : decode cX6_originsAround 22 = .ok (.iload_n 3, 1) := by decide +kernel
theorem dX6_originsAround_23 : decode cX6_originsAround 23 = .ok (.iaload, 1) := by decide +kernel
theorem dX6_originsAround_24 : decode cX6_originsAround 24 = .ok (.iconst 2, 1) := by decide +kernel
theorem dX6_originsAround_25 : decode cX6_originsAround 25 = .ok (.if_icmp .eq 34, 3) := by decide +kernel
theorem dX6_originsAround_28 : decode cX6_originsAround 28 = .ok (.aload_n 0, 1) := by decide +kernel
theorem dX6_originsAround_29 : decode cX6_originsAround 29 = .ok (.getfield 21, 3) := by decide +kernel
theorem dX6_originsAround_32 : decode cX6_originsAround 32 = .ok (.iload_n 3, 1) := by decide +kernel
theorem dX6_originsAround_33 : decode cX6_originsAround 33 = .ok (.iaload, 1) := by decide +kernel
theorem dX6_originsAround_34 : decode cX6_originsAround 34 = .ok (.iload_n 1, 1) := by decide +kernel
theorem dX6_originsAround_35 : decode cX6_originsAround 35 = .ok (.if_icmp .gt 24, 3) := by decide +kernel
theorem dX6_originsAround_38 : decode cX6_originsAround 38 = .ok (.iload_n 1, 1) := by decide +kernel
theorem dX6_originsAround_39 : decode cX6_originsAround 39 = .ok (.aload_n 0, 1) := by decide +kernel
theorem dX6_originsAround_40 : decode cX6_originsAround 40 = .ok (.getfield 24, 3) := by decide +kernel
theorem dX6_originsAround_43 : decode cX6_originsAround 43 = .ok (.iload_n 3, 1) := by decide +kernel
theorem dX6_originsAround_44 : decode cX6_originsAround 44 = .ok (.iaload, 1) := by decide +kernel
theorem dX6_originsAround_45 : decode cX6_originsAround 45 = .ok (.if_icmp .gt 14, 3) := by decide +kernel
theorem dX6_originsAround_48 : decode cX6_originsAround 48 = .ok (.iload_n 2, 1) := by decide +kernel
theorem dX6_originsAround_49 : decode cX6_originsAround 49 = .ok (.iconst 1, 1) := by decide +kernel
theorem dX6_originsAround_50 : decode cX6_originsAround 50 = .ok (.aload_n 0, 1) := by decide +kernel
theorem dX6_originsAround_51 : decode cX6_originsAround 51 = .ok (.getfield 15, 3) := by decide +kernel
theorem dX6_originsAround_54 : decode cX6_originsAround 54 = .ok (.iload_n 3, 1) := by decide +kernel
theorem dX6_originsAround_55 : decode cX6_originsAround 55 = .ok (.iaload, 1) := by decide +kernel
theorem dX6_originsAround_56 : decode cX6_originsAround 56 = .ok (.ishl, 1) := by decide +kernel
theorem dX6_originsAround_57 : decode cX6_originsAround 57 = .ok (.ior, 1) := by decide +kernel
theorem dX6_originsAround_58 : decode cX6_originsAround 58 = .ok (.istore_n 2, 1) := by decide +kernel
theorem dX6_originsAround_59 : decode cX6_originsAround 59 = .ok (.iinc 3 1, 3) := by decide +kernel
theorem dX6_originsAround_62 : decode cX6_originsAround 62 = .ok (.goto (-58), 3) := by decide +kernel
theorem dX6_originsAround_65 : decode cX6_originsAround 65 = .ok (.iload_n 2, 1) := by decide +kernel
theorem dX6_originsAround_66 : decode cX6_originsAround 66 = .ok (.ireturn, 1) := by decide +kernel
theorem dX6_lowOf_0 : decode cX6_lowOf 0 = .ok (.iconst 0, 1) := by decide +kernel
theorem dX6_lowOf_1 : decode cX6_lowOf 1 = .ok (.istore_n 2, 1) := by decide +kernel
theorem dX6_lowOf_2 : decode cX6_lowOf 2 = .ok (.iconst 0, 1) := by decide +kernel
theorem dX6_lowOf_3 : decode cX6_lowOf 3 = .ok (.istore_n 3, 1) := by decide +kernel
theorem dX6_lowOf_4 : decode cX6_lowOf 4 = .ok (.iload_n 3, 1) := by decide +kernel
theorem dX6_lowOf_5 : decode cX6_lowOf 5 = .ok (.aload_n 0, 1) := by decide +kernel
theorem dX6_lowOf_6 : decode cX6_lowOf 6 = .ok (.getfield 30, 3) := by decide +kernel
theorem dX6_lowOf_9 : decode cX6_lowOf 9 = .ok (.if_icmp .ge 39, 3) := by decide +kernel
theorem dX6_lowOf_12 : decode cX6_lowOf 12 = .ok (.iload_n 3, 1) := by decide +kernel
theorem dX6_lowOf_13 : decode cX6_lowOf 13 = .ok (.bipush 6, 2) := by decide +kernel
theorem dX6_lowOf_15 : decode cX6_lowOf 15 = .ok (.if_icmp .ge 33, 3) := by decide +kernel
theorem dX6_lowOf_18 : decode cX6_lowOf 18 = .ok (.iload_n 1, 1) := by decide +kernel
theorem dX6_lowOf_19 : decode cX6_lowOf 19 = .ok (.aload_n 0, 1) := by decide +kernel
theorem dX6_lowOf_20 : decode cX6_lowOf 20 = .ok (.getfield 15, 3) := by decide +kernel
theorem dX6_lowOf_23 : decode cX6_lowOf 23 = .ok (.iload_n 3, 1) := by decide +kernel
theorem dX6_lowOf_24 : decode cX6_lowOf 24 = .ok (.iaload, 1) := by decide +kernel
theorem dX6_lowOf_25 : decode cX6_lowOf 25 = .ok (.invokestatic 97, 3) := by decide +kernel
theorem dX6_lowOf_28 : decode cX6_lowOf 28 = .ok (.ifCond .eq 14, 3) := by decide +kernel
theorem dX6_lowOf_31 : decode cX6_lowOf 31 = .ok (.iload_n 2, 1) := by decide +kernel
theorem dX6_lowOf_32 : decode cX6_lowOf 32 = .ok (.aload_n 0, 1) := by decide +kernel
theorem dX6_lowOf_33 : decode cX6_lowOf 33 = .ok (.getfield 21, 3) := by decide +kernel
theorem dX6_lowOf_36 : decode cX6_lowOf 36 = .ok (.iload_n 3, 1) := by decide +kernel
theorem dX6_lowOf_37 : decode cX6_lowOf 37 = .ok (.iaload, 1) := by decide +kernel
theorem dX6_lowOf_38 : decode cX6_lowOf 38 = .ok (.invokestatic 81, 3) := by decide +kernel
theorem dX6_lowOf_41 : decode cX6_lowOf 41 = .ok (.istore_n 2, 1) := by decide +kernel
theorem dX6_lowOf_42 : decode cX6_lowOf 42 = .ok (.iinc 3 1, 3) := by decide +kernel
theorem dX6_lowOf_45 : decode cX6_lowOf 45 = .ok (.goto (-41), 3) := by decide +kernel
theorem dX6_lowOf_48 : decode cX6_lowOf 48 = .ok (.iload_n 2, 1) := by decide +kernel
theorem dX6_lowOf_49 : decode cX6_lowOf 49 = .ok (.ireturn, 1) := by decide +kernel
theorem dX6_highOf_0 : decode cX6_highOf 0 = .ok (.sipush 999, 3) := by decide +kernel
theorem dX6_highOf_3 : decode cX6_highOf 3 = .ok (.istore_n 2, 1) := by decide +kernel
theorem dX6_highOf_4 : decode cX6_highOf 4 = .ok (.iconst 0, 1) := by decide +kernel
theorem dX6_highOf_5 : decode cX6_highOf 5 = .ok (.istore_n 3, 1) := by decide +kernel
theorem dX6_highOf_6 : decode cX6_highOf 6 = .ok (.iload_n 3, 1) := by decide +kernel
theorem dX6_highOf_7 : decode cX6_highOf 7 = .ok (.aload_n 0, 1) := by decide +kernel
theorem dX6_highOf_8 : decode cX6_highOf 8 = .ok (.getfield 30, 3) := by decide +kernel
theorem dX6_highOf_11 : decode cX6_highOf 11 = .ok (.if_icmp .ge 39, 3) := by decide +kernel
theorem dX6_highOf_14 : decode cX6_highOf 14 = .ok (.iload_n 3, 1) := by decide +kernel
theorem dX6_highOf_15 : decode cX6_highOf 15 = .ok (.bipush 6, 2) := by decide +kernel
theorem dX6_highOf_17 : decode cX6_highOf 17 = .ok (.if_icmp .ge 33, 3) := by decide +kernel
theorem dX6_highOf_20 : decode cX6_highOf 20 = .ok (.iload_n 1, 1) := by decide +kernel
theorem dX6_highOf_21 : decode cX6_highOf 21 = .ok (.aload_n 0, 1) := by decide +kernel
theorem dX6_highOf_22 : decode cX6_highOf 22 = .ok (.getfield 15, 3) := by decide +kernel
theorem dX6_highOf_25 : decode cX6_highOf 25 = .ok (.iload_n 3, 1) := by decide +kernel
theorem dX6_highOf_26 : decode cX6_highOf 26 = .ok (.iaload, 1) := by decide +kernel
theorem dX6_highOf_27 : decode cX6_highOf 27 = .ok (.invokestatic 97, 3) := by decide +kernel
theorem dX6_highOf_30 : decode cX6_highOf 30 = .ok (.ifCond .eq 14, 3) := by decide +kernel
theorem dX6_highOf_33 : decode cX6_highOf 33 = .ok (.iload_n 2, 1) := by decide +kernel
theorem dX6_highOf_34 : decode cX6_highOf 34 = .ok (.aload_n 0, 1) := by decide +kernel
theorem dX6_highOf_35 : decode cX6_highOf 35 = .ok (.getfield 24, 3) := by decide +kernel
theorem dX6_highOf_38 : decode cX6_highOf 38 = .ok (.iload_n 3, 1) := by decide +kernel
theorem dX6_highOf_39 : decode cX6_highOf 39 = .ok (.iaload, 1) := by decide +kernel
theorem dX6_highOf_40 : decode cX6_highOf 40 = .ok (.invokestatic 86, 3) := by decide +kernel
theorem dX6_highOf_43 : decode cX6_highOf 43 = .ok (.istore_n 2, 1) := by decide +kernel
theorem dX6_highOf_44 : decode cX6_highOf 44 = .ok (.iinc 3 1, 3) := by decide +kernel
theorem dX6_highOf_47 : decode cX6_highOf 47 = .ok (.goto (-41), 3) := by decide +kernel
theorem dX6_highOf_50 : decode cX6_highOf 50 = .ok (.iload_n 2, 1) := by decide +kernel
theorem dX6_highOf_51 : decode cX6_highOf 51 = .ok (.ireturn, 1) := by decide +kernel
theorem dX7_init_0 : decode cX7_init 0 = .ok (.aload_n 0, 1) := by decide +kernel
theorem dX7_init_1 : decode cX7_init 1 = .ok (.invokespecial 1, 3) := by decide +kernel
theorem dX7_init_4 : decode cX7_init 4 = .ok (.aload_n 0, 1) := by decide +kernel
theorem dX7_init_5 : decode cX7_init 5 = .ok (.new 7, 3) := by decide +kernel
theorem dX7_init_8 : decode cX7_init 8 = .ok (.dup, 1) := by decide +kernel
theorem dX7_init_9 : decode cX7_init 9 = .ok (.sipush 600, 3) := by decide +kernel
theorem dX7_init_12 : decode cX7_init 12 = .ok (.invokespecial 11, 3) := by decide +kernel
theorem dX7_init_15 : decode cX7_init 15 = .ok (.putfield 14, 3) := by decide +kernel
theorem dX7_init_18 : decode cX7_init 18 = .ok (.aload_n 0, 1) := by decide +kernel
theorem dX7_init_19 : decode cX7_init 19 = .ok (.new 7, 3) := by decide +kernel
theorem dX7_init_22 : decode cX7_init 22 = .ok (.dup, 1) := by decide +kernel
theorem dX7_init_23 : decode cX7_init 23 = .ok (.sipush 1224, 3) := by decide +kernel
theorem dX7_init_26 : decode cX7_init 26 = .ok (.invokespecial 11, 3) := by decide +kernel
theorem dX7_init_29 : decode cX7_init 29 = .ok (.putfield 18, 3) := by decide +kernel
theorem dX7_init_32 : decode cX7_init 32 = .ok (.aload_n 0, 1) := by decide +kernel
theorem dX7_init_33 : decode cX7_init 33 = .ok (.new 21, 3) := by decide +kernel
theorem dX7_init_36 : decode cX7_init 36 = .ok (.dup, 1) := by decide +kernel
theorem dX7_init_37 : decode cX7_init 37 = .ok (.invokespecial 23, 3) := by decide +kernel
theorem dX7_init_40 : decode cX7_init 40 = .ok (.putfield 24, 3) := by decide +kernel
theorem dX7_init_43 : decode cX7_init 43 = .ok (.aload_n 0, 1) := by decide +kernel
theorem dX7_init_44 : decode cX7_init 44 = .ok (.new 28, 3) := by decide +kernel
theorem dX7_init_47 : decode cX7_init 47 = .ok (.dup, 1) := by decide +kernel
theorem dX7_init_48 : decode cX7_init 48 = .ok (.invokespecial 30, 3) := by decide +kernel
theorem dX7_init_51 : decode cX7_init 51 = .ok (.putfield 31, 3) := by decide +kernel
theorem dX7_init_54 : decode cX7_init 54 = .ok (.aload_n 0, 1) := by decide +kernel
theorem dX7_init_55 : decode cX7_init 55 = .ok (.new 28, 3) := by decide +kernel
theorem dX7_init_58 : decode cX7_init 58 = .ok (.dup, 1) := by decide +kernel
theorem dX7_init_59 : decode cX7_init 59 = .ok (.invokespecial 30, 3) := by decide +kernel
theorem dX7_init_62 : decode cX7_init 62 = .ok (.putfield 35, 3) := by decide +kernel
theorem dX7_init_65 : decode cX7_init 65 = .ok (.aload_n 0, 1) := by decide +kernel
theorem dX7_init_66 : decode cX7_init 66 = .ok (.new 38, 3) := by decide +kernel
theorem dX7_init_69 : decode cX7_init 69 = .ok (.dup, 1) := by decide +kernel
theorem dX7_init_70 : decode cX7_init 70 = .ok (.aload_n 0, 1) := by decide +kernel
theorem dX7_init_71 : decode cX7_init 71 = .ok (.getfield 14, 3) := by decide +kernel
theorem dX7_init_74 : decode cX7_init 74 = .ok (.aload_n 0, 1) := by decide +kernel
theorem dX7_init_75 : decode cX7_init 75 = .ok (.getfield 35, 3) := by decide +kernel
theorem dX7_init_78 : decode cX7_init 78 = .ok (.invokespecial 40, 3) := by decide +kernel
theorem dX7_init_81 : decode cX7_init 81 = .ok (.putfield 43, 3) := by decide +kernel
theorem dX7_init_84 : decode cX7_init 84 = .ok (.aload_n 0, 1) := by decide +kernel
theorem dX7_init_85 : decode cX7_init 85 = .ok (.new 47, 3) := by decide +kernel
theorem dX7_init_88 : decode cX7_init 88 = .ok (.dup, 1) := by decide +kernel
theorem dX7_init_89 : decode cX7_init 89 = .ok (.invokespecial 49, 3) := by decide +kernel
theorem dX7_init_92 : decode cX7_init 92 = .ok (.putfield 50, 3) := by decide +kernel
theorem dX7_init_95 : decode cX7_init 95 = .ok (.aload_n 0, 1) := by decide +kernel
theorem dX7_init_96 : decode cX7_init 96 = .ok (.iconst 2, 1) := by decide +kernel
theorem dX7_init_97 : decode cX7_init 97 = .ok (.anewarray 28, 3) := by decide +kernel
theorem dX7_init_100 : decode cX7_init 100 = .ok (.putfield 54, 3) := by decide +kernel
theorem dX7_init_103 : decode cX7_init 103 = .ok (.return_, 1) := by decide +kernel
theorem dX7_append_0 : decode cX7_append 0 = .ok (.aload_n 0, 1) := by decide +kernel
theorem dX7_append_1 : decode cX7_append 1 = .ok (.getfield 14, 3) := by decide +kernel
theorem dX7_append_4 : decode cX7_append 4 = .ok (.getfield 58, 3) := by decide +kernel
theorem dX7_append_7 : decode cX7_append 7 = .ok (.bipush 20, 2) := by decide +kernel
theorem dX7_append_9 : decode cX7_append 9 = .ok (.iadd, 1) := by decide +kernel
theorem dX7_append_10 : decode cX7_append 10 = .ok (.sipush 600, 3) := by decide +kernel
theorem dX7_append_13 : decode cX7_append 13 = .ok (.if_icmp .le 13, 3) := by decide +kernel
theorem dX7_append_16 : decode cX7_append 16 = .ok (.new 62, 3) := by decide +kernel
theorem dX7_append_19 : decode cX7_append 19 = .ok (.dup, 1) := by decide +kernel
theorem dX7_append_20 : decode cX7_append 20 = .ok (.ldc 64, 2) := by decide +kernel
theorem dX7_append_22 : decode cX7_append 22 = .ok (.invokespecial 66, 3) := by decide +kernel
theorem dX7_append_25 : decode cX7_append 25 = .ok (.athrow, 1) := by decide +kernel
theorem dX7_append_26 : decode cX7_append 26 = .ok (.aload_n 0, 1) := by decide +kernel
theorem dX7_append_27 : decode cX7_append 27 = .ok (.getfield 14, 3) := by decide +kernel
theorem dX7_append_30 : decode cX7_append 30 = .ok (.iload_n 1, 1) := by decide +kernel
theorem dX7_append_31 : decode cX7_append 31 = .ok (.invokevirtual 69, 3) := by decide +kernel
theorem dX7_append_34 : decode cX7_append 34 = .ok (.aload_n 0, 1) := by decide +kernel
theorem dX7_append_35 : decode cX7_append 35 = .ok (.getfield 14, 3) := by decide +kernel
theorem dX7_append_38 : decode cX7_append 38 = .ok (.iload_n 2, 1) := by decide +kernel
theorem dX7_append_39 : decode cX7_append 39 = .ok (.invokevirtual 69, 3) := by decide +kernel
theorem dX7_append_42 : decode cX7_append 42 = .ok (.aload_n 0, 1) := by decide +kernel
theorem dX7_append_43 : decode cX7_append 43 = .ok (.getfield 14, 3) := by decide +kernel
theorem dX7_append_46 : decode cX7_append 46 = .ok (.iload_n 3, 1) := by decide +kernel
theorem dX7_append_47 : decode cX7_append 47 = .ok (.invokevirtual 69, 3) := by decide +kernel
theorem dX7_append_50 : decode cX7_append 50 = .ok (.aload_n 0, 1) := by decide +kernel
theorem dX7_append_51 : decode cX7_append 51 = .ok (.getfield 14, 3) := by decide +kernel
theorem dX7_append_54 : decode cX7_append 54 = .ok (.iload 4, 2) := by decide +kernel
theorem dX7_append_56 : decode cX7_append 56 = .ok (.invokevirtual 69, 3) := by decide +kernel
theorem dX7_append_59 : decode cX7_append 59 = .ok (.aload_n 0, 1) := by decide +kernel
theorem dX7_append_60 : decode cX7_append 60 = .ok (.getfield 14, 3) := by decide +kernel
theorem dX7_append_63 : decode cX7_append 63 = .ok (.iload 5, 2) := by decide +kernel
theorem dX7_append_65 : decode cX7_append 65 = .ok (.invokevirtual 69, 3) := by decide +kernel
theorem dX7_append_68 : decode cX7_append 68 = .ok (.aload_n 0, 1) := by decide +kernel
theorem dX7_append_69 : decode cX7_append 69 = .ok (.getfield 14, 3) := by decide +kernel
theorem dX7_append_72 : decode cX7_append 72 = .ok (.getfield 58, 3) := by decide +kernel
theorem dX7_append_75 : decode cX7_append 75 = .ok (.ireturn, 1) := by decide +kernel
theorem dX7_truncate_0 : decode cX7_truncate 0 = .ok (.iload_n 1, 1) := by decide +kernel
theorem dX7_truncate_1 : decode cX7_truncate 1 = .ok (.iconst 0, 1) := by decide +kernel
theorem dX7_truncate_2 : decode cX7_truncate 2 = .ok (.aload_n 0, 1) := by decide +kernel
theorem dX7_truncate_3 : decode cX7_truncate 3 = .ok (.getfield 14, 3) := by decide +kernel
theorem dX7_truncate_6 : decode cX7_truncate 6 = .ok (.getfield 58, 3) := by decide +kernel
theorem dX7_truncate_9 : decode cX7_truncate 9 = .ok (.invokestatic 72, 3) := by decide +kernel
theorem dX7_truncate_12 : decode cX7_truncate 12 = .ok (.aload_n 0, 1) := by decide +kernel
theorem dX7_truncate_13 : decode cX7_truncate 13 = .ok (.getfield 14, 3) := by decide +kernel
theorem dX7_truncate_16 : decode cX7_truncate 16 = .ok (.iload_n 1, 1) := by decide +kernel
theorem dX7_truncate_17 : decode cX7_truncate 17 = .ok (.putfield 58, 3) := by decide +kernel
theorem dX7_truncate_20 : decode cX7_truncate 20 = .ok (.return_, 1) := by decide +kernel
theorem dX7_load_0 : decode cX7_load 0 = .ok (.aload_n 0, 1) := by decide +kernel
theorem dX7_load_1 : decode cX7_load 1 = .ok (.getfield 43, 3) := by decide +kernel
theorem dX7_load_4 : decode cX7_load 4 = .ok (.invokevirtual 76, 3) := by decide +kernel
theorem dX7_load_7 : decode cX7_load 7 = .ok (.istore_n 1, 1) := by decide +kernel
theorem dX7_load_8 : decode cX7_load 8 = .ok (.aload_n 0, 1) := by decide +kernel
theorem dX7_load_9 : decode cX7_load 9 = .ok (.getfield 14, 3) := by decide +kernel
theorem dX7_load_12 : decode cX7_load 12 = .ok (.iconst 0, 1) := by decide +kernel
theorem dX7_load_13 : decode cX7_load 13 = .ok (.putfield 58, 3) := by decide +kernel
theorem dX7_load_16 : decode cX7_load 16 = .ok (.iload_n 1, 1) := by decide +kernel
theorem dX7_load_17 : decode cX7_load 17 = .ok (.ifCond .ne 6, 3) := by decide +kernel
theorem dX7_load_20 : decode cX7_load 20 = .ok (.bipush (-4), 2) := by decide +kernel
theorem dX7_load_22 : decode cX7_load 22 = .ok (.ireturn, 1) := by decide +kernel
theorem dX7_load_23 : decode cX7_load 23 = .ok (.aload_n 0, 1) := by decide +kernel
theorem dX7_load_24 : decode cX7_load 24 = .ok (.getfield 50, 3) := by decide +kernel
theorem dX7_load_27 : decode cX7_load 27 = .ok (.aload_n 0, 1) := by decide +kernel
theorem dX7_load_28 : decode cX7_load 28 = .ok (.getfield 31, 3) := by decide +kernel
theorem dX7_load_31 : decode cX7_load 31 = .ok (.invokevirtual 80, 3) := by decide +kernel
theorem dX7_load_34 : decode cX7_load 34 = .ok (.aload_n 0, 1) := by decide +kernel
theorem dX7_load_35 : decode cX7_load 35 = .ok (.getfield 31, 3) := by decide +kernel
theorem dX7_load_38 : decode cX7_load 38 = .ok (.aload_n 0, 1) := by decide +kernel
theorem dX7_load_39 : decode cX7_load 39 = .ok (.getfield 35, 3) := by decide +kernel
theorem dX7_load_42 : decode cX7_load 42 = .ok (.invokevirtual 84, 3) := by decide +kernel
theorem dX7_load_45 : decode cX7_load 45 = .ok (.aload_n 0, 1) := by decide +kernel
theorem dX7_load_46 : decode cX7_load 46 = .ok (.getfield 31, 3) := by decide +kernel
theorem dX7_load_49 : decode cX7_load 49 = .ok (.getfield 87, 3) := by decide +kernel
theorem dX7_load_52 : decode cX7_load 52 = .ok (.getfield 91, 3) := by decide +kernel
theorem dX7_load_55 : decode cX7_load 55 = .ok (.ireturn, 1) := by decide +kernel
theorem dX7_errorCode_0 : decode cX7_errorCode 0 = .ok (.aload_n 0, 1) := by decide +kernel
theorem dX7_errorCode_1 : decode cX7_errorCode 1 = .ok (.getfield 43, 3) := by decide +kernel
theorem dX7_errorCode_4 : decode cX7_errorCode 4 = .ok (.getfield 96, 3) := by decide +kernel
theorem dX7_errorCode_7 : decode cX7_errorCode 7 = .ok (.ireturn, 1) := by decide +kernel
theorem dX7_errorPosition_0 : decode cX7_errorPosition 0 = .ok (.aload_n 0, 1) := by decide +kernel
theorem dX7_errorPosition_1 : decode cX7_errorPosition 1 = .ok (.getfield 43, 3) := by decide +kernel
theorem dX7_errorPosition_4 : decode cX7_errorPosition 4 = .ok (.getfield 99, 3) := by decide +kernel
theorem dX7_errorPosition_7 : decode cX7_errorPosition 7 = .ok (.ireturn, 1) := by decide +kernel
theorem dX7_property_0 : decode cX7_property 0 = .ok (.iload_n 1, 1) := by decide +kernel
theorem dX7_property_1 : decode cX7_property 1 = .ok (.iconst 0, 1) := by decide +kernel
theorem dX7_property_2 : decode cX7_property 2 = .ok (.bipush 9, 2) := by decide +kernel
theorem dX7_property_4 : decode cX7_property 4 = .ok (.invokestatic 72, 3) := by decide +kernel
theorem dX7_property_7 : decode cX7_property 7 = .ok (.iload_n 1, 1) := by decide +kernel
theorem dX7_property_8 : decode cX7_property 8 = .ok (.tableswitch 105 0 9 #[56, 67, 78, 105, 105, 105, 105, 105, 86, 97], 56) := by decide +kernel
theorem dX7_property_64 : decode cX7_property 64 = .ok (.aload_n 0, 1) := by decide +kernel
theorem dX7_property_65 : decode cX7_property 65 = .ok (.getfield 31, 3) := by decide +kernel
theorem dX7_property_68 : decode cX7_property 68 = .ok (.getfield 87, 3) := by decide +kernel
theorem dX7_property_71 : decode cX7_property 71 = .ok (.getfield 91, 3) := by decide +kernel
theorem dX7_property_74 : decode cX7_property 74 = .ok (.ireturn, 1) := by decide +kernel
theorem dX7_property_75 : decode cX7_property 75 = .ok (.aload_n 0, 1) := by decide +kernel
theorem dX7_property_76 : decode cX7_property 76 = .ok (.getfield 31, 3) := by decide +kernel
theorem dX7_property_79 : decode cX7_property 79 = .ok (.getfield 106, 3) := by decide +kernel
theorem dX7_property_82 : decode cX7_property 82 = .ok (.getfield 91, 3) := by decide +kernel
theorem dX7_property_85 : decode cX7_property 85 = .ok (.ireturn, 1) := by decide +kernel
theorem dX7_property_86 : decode cX7_property 86 = .ok (.aload_n 0, 1) := by decide +kernel
theorem dX7_property_87 : decode cX7_property 87 = .ok (.getfield 31, 3) := by decide +kernel
theorem dX7_property_90 : decode cX7_property 90 = .ok (.getfield 109, 3) := by decide +kernel
theorem dX7_property_93 : decode cX7_property 93 = .ok (.ireturn, 1) := by decide +kernel
theorem dX7_property_94 : decode cX7_property 94 = .ok (.aload_n 0, 1) := by decide +kernel
theorem dX7_property_95 : decode cX7_property 95 = .ok (.getfield 31, 3) := by decide +kernel
theorem dX7_property_98 : decode cX7_property 98 = .ok (.getfield 112, 3) := by decide +kernel
theorem dX7_property_101 : decode cX7_property 101 = .ok (.getfield 116, 3) := by decide +kernel
theorem dX7_property_104 : decode cX7_property 104 = .ok (.ireturn, 1) := by decide +kernel
theorem dX7_property_105 : decode cX7_property 105 = .ok (.aload_n 0, 1) := by decide +kernel
theorem dX7_property_106 : decode cX7_property 106 = .ok (.getfield 31, 3) := by decide +kernel
theorem dX7_property_109 : decode cX7_property 109 = .ok (.invokevirtual 119, 3) := by decide +kernel
theorem dX7_property_112 : decode cX7_property 112 = .ok (.ireturn, 1) := by decide +kernel
theorem dX7_property_113 : decode cX7_property 113 = .ok (.aload_n 0, 1) := by decide +kernel
theorem dX7_property_114 : decode cX7_property 114 = .ok (.getfield 31, 3) := by decide +kernel
theorem dX7_property_117 : decode cX7_property 117 = .ok (.iload_n 1, 1) := by decide +kernel
theorem dX7_property_118 : decode cX7_property 118 = .ok (.iconst 3, 1) := by decide +kernel
theorem dX7_property_119 : decode cX7_property 119 = .ok (.isub, 1) := by decide +kernel
theorem dX7_property_120 : decode cX7_property 120 = .ok (.invokevirtual 123, 3) := by decide +kernel
theorem dX7_property_123 : decode cX7_property 123 = .ok (.ireturn, 1) := by decide +kernel
theorem dX7_trust_0 : decode cX7_trust 0 = .ok (.aload_n 0, 1) := by decide +kernel
theorem dX7_trust_1 : decode cX7_trust 1 = .ok (.iload_n 1, 1) := by decide +kernel
theorem dX7_trust_2 : decode cX7_trust 2 = .ok (.invokevirtual 127, 3) := by decide +kernel
theorem dX7_trust_5 : decode cX7_trust 5 = .ok (.aload_n 0, 1) := by decide +kernel
theorem dX7_trust_6 : decode cX7_trust 6 = .ok (.iload_n 2, 1) := by decide +kernel
theorem dX7_trust_7 : decode cX7_trust 7 = .ok (.invokevirtual 127, 3) := by decide +kernel
theorem dX7_trust_10 : decode cX7_trust 10 = .ok (.aload_n 0, 1) := by decide +kernel
theorem dX7_trust_11 : decode cX7_trust 11 = .ok (.getfield 31, 3) := by decide +kernel
theorem dX7_trust_14 : decode cX7_trust 14 = .ok (.iload_n 1, 1) := by decide +kernel
theorem dX7_trust_15 : decode cX7_trust 15 = .ok (.iload_n 2, 1) := by decide +kernel
theorem dX7_trust_16 : decode cX7_trust 16 = .ok (.invokevirtual 130, 3) := by decide +kernel
theorem dX7_trust_19 : decode cX7_trust 19 = .ok (.ireturn, 1) := by decide +kernel
theorem dX7_reports_0 : decode cX7_reports 0 = .ok (.aload_n 0, 1) := by decide +kernel
theorem dX7_reports_1 : decode cX7_reports 1 = .ok (.iload_n 1, 1) := by decide +kernel
theorem dX7_reports_2 : decode cX7_reports 2 = .ok (.invokevirtual 127, 3) := by decide +kernel
theorem dX7_reports_5 : decode cX7_reports 5 = .ok (.aload_n 0, 1) := by decide +kernel
theorem dX7_reports_6 : decode cX7_reports 6 = .ok (.getfield 31, 3) := by decide +kernel
theorem dX7_reports_9 : decode cX7_reports 9 = .ok (.iload_n 1, 1) := by decide +kernel
theorem dX7_reports_10 : decode cX7_reports 10 = .ok (.invokevirtual 144, 3) := by decide +kernel
theorem dX7_reports_13 : decode cX7_reports 13 = .ok (.getfield 116, 3) := by decide +kernel
theorem dX7_reports_16 : decode cX7_reports 16 = .ok (.ireturn, 1) := by decide +kernel
theorem dX7_report_0 : decode cX7_report 0 = .ok (.aload_n 0, 1) := by decide +kernel
theorem dX7_report_1 : decode cX7_report 1 = .ok (.iload_n 1, 1) := by decide +kernel
theorem dX7_report_2 : decode cX7_report 2 = .ok (.iload_n 2, 1) := by decide +kernel
theorem dX7_report_3 : decode cX7_report 3 = .ok (.invokevirtual 148, 3) := by decide +kernel
theorem dX7_report_6 : decode cX7_report 6 = .ok (.iload_n 3, 1) := by decide +kernel
theorem dX7_report_7 : decode cX7_report 7 = .ok (.iconst 0, 1) := by decide +kernel
theorem dX7_report_8 : decode cX7_report 8 = .ok (.bipush 6, 2) := by decide +kernel
theorem dX7_report_10 : decode cX7_report 10 = .ok (.invokestatic 72, 3) := by decide +kernel
theorem dX7_report_13 : decode cX7_report 13 = .ok (.aload_n 0, 1) := by decide +kernel
theorem dX7_report_14 : decode cX7_report 14 = .ok (.getfield 31, 3) := by decide +kernel
theorem dX7_report_17 : decode cX7_report 17 = .ok (.iload_n 1, 1) := by decide +kernel
theorem dX7_report_18 : decode cX7_report 18 = .ok (.invokevirtual 144, 3) := by decide +kernel
theorem dX7_report_21 : decode cX7_report 21 = .ok (.iload_n 2, 1) := by decide +kernel
theorem dX7_report_22 : decode cX7_report 22 = .ok (.iload_n 3, 1) := by decide +kernel
theorem dX7_report_23 : decode cX7_report 23 = .ok (.invokevirtual 152, 3) := by decide +kernel
theorem dX7_report_26 : decode cX7_report 26 = .ok (.ireturn, 1) := by decide +kernel
theorem dX7_status_0 : decode cX7_status 0 = .ok (.aload_n 0, 1) := by decide +kernel
theorem dX7_status_1 : decode cX7_status 1 = .ok (.iload_n 1, 1) := by decide +kernel
theorem dX7_status_2 : decode cX7_status 2 = .ok (.iload_n 2, 1) := by decide +kernel
theorem dX7_status_3 : decode cX7_status 3 = .ok (.invokevirtual 148, 3) := by decide +kernel
theorem dX7_status_6 : decode cX7_status 6 = .ok (.aload_n 0, 1) := by decide +kernel
theorem dX7_status_7 : decode cX7_status 7 = .ok (.iload_n 1, 1) := by decide +kernel
theorem dX7_status_8 : decode cX7_status 8 = .ok (.iload_n 2, 1) := by decide +kernel
theorem dX7_status_9 : decode cX7_status 9 = .ok (.invokevirtual 155, 3) := by decide +kernel
theorem dX7_status_12 : decode cX7_status 12 = .ok (.ireturn, 1) := by decide +kernel
theorem dX7_moved_0 : decode cX7_moved 0 = .ok (.aload_n 0, 1) := by decide +kernel
theorem dX7_moved_1 : decode cX7_moved 1 = .ok (.iload_n 1, 1) := by decide +kernel
theorem dX7_moved_2 : decode cX7_moved 2 = .ok (.iload_n 2, 1) := by decide +kernel
theorem dX7_moved_3 : decode cX7_moved 3 = .ok (.invokevirtual 148, 3) := by decide +kernel
theorem dX7_moved_6 : decode cX7_moved 6 = .ok (.iload_n 3, 1) := by decide +kernel
theorem dX7_moved_7 : decode cX7_moved 7 = .ok (.iconst 0, 1) := by decide +kernel
theorem dX7_moved_8 : decode cX7_moved 8 = .ok (.iconst 1, 1) := by decide +kernel
theorem dX7_moved_9 : decode cX7_moved 9 = .ok (.invokestatic 72, 3) := by decide +kernel
theorem dX7_moved_12 : decode cX7_moved 12 = .ok (.aload_n 0, 1) := by decide +kernel
theorem dX7_moved_13 : decode cX7_moved 13 = .ok (.getfield 31, 3) := by decide +kernel
theorem dX7_moved_16 : decode cX7_moved 16 = .ok (.iload_n 1, 1) := by decide +kernel
theorem dX7_moved_17 : decode cX7_moved 17 = .ok (.invokevirtual 144, 3) := by decide +kernel
theorem dX7_moved_20 : decode cX7_moved 20 = .ok (.astore 4, 2) := by decide +kernel
theorem dX7_moved_22 : decode cX7_moved 22 = .ok (.aload 4, 2) := by decide +kernel
theorem dX7_moved_24 : decode cX7_moved 24 = .ok (.iload_n 2, 1) := by decide +kernel
theorem dX7_moved_25 : decode cX7_moved 25 = .ok (.iconst 1, 1) := by decide +kernel
theorem dX7_moved_26 : decode cX7_moved 26 = .ok (.invokevirtual 152, 3) := by decide +kernel
theorem dX7_moved_29 : decode cX7_moved 29 = .ok (.istore 5, 2) := by decide +kernel
theorem dX7_moved_31 : decode cX7_moved 31 = .ok (.iload 5, 2) := by decide +kernel
theorem dX7_moved_33 : decode cX7_moved 33 = .ok (.iload_n 1, 1) := by decide +kernel
theorem dX7_moved_34 : decode cX7_moved 34 = .ok (.if_icmp .eq 18, 3) := by decide +kernel
theorem dX7_moved_37 : decode cX7_moved 37 = .ok (.aload_n 0, 1) := by decide +kernel
theorem dX7_moved_38 : decode cX7_moved 38 = .ok (.getfield 31, 3) := by decide +kernel
theorem dX7_moved_41 : decode cX7_moved 41 = .ok (.iload_n 1, 1) := by decide +kernel
theorem dX7_moved_42 : decode cX7_moved 42 = .ok (.iload 5, 2) := by decide +kernel
theorem dX7_moved_44 : decode cX7_moved 44 = .ok (.invokevirtual 134, 3) := by decide +kernel
theorem dX7_moved_47 : decode cX7_moved 47 = .ok (.ifCond .ne 5, 3) := by decide +kernel
theorem dX7_moved_50 : decode cX7_moved 50 = .ok (.iconst (-1), 1) := by decide +kernel
theorem dX7_moved_51 : decode cX7_moved 51 = .ok (.ireturn, 1) := by decide +kernel
theorem dX7_moved_52 : decode cX7_moved 52 = .ok (.aload_n 0, 1) := by decide +kernel
theorem dX7_moved_53 : decode cX7_moved 53 = .ok (.getfield 31, 3) := by decide +kernel
theorem dX7_moved_56 : decode cX7_moved 56 = .ok (.iload_n 1, 1) := by decide +kernel
theorem dX7_moved_57 : decode cX7_moved 57 = .ok (.iload_n 2, 1) := by decide +kernel
theorem dX7_moved_58 : decode cX7_moved 58 = .ok (.invokevirtual 158, 3) := by decide +kernel
theorem dX7_moved_61 : decode cX7_moved 61 = .ok (.istore 6, 2) := by decide +kernel
theorem dX7_moved_63 : decode cX7_moved 63 = .ok (.iload_n 3, 1) := by decide +kernel
theorem dX7_moved_64 : decode cX7_moved 64 = .ok (.ifCond .ne 14, 3) := by decide +kernel
theorem dX7_moved_67 : decode cX7_moved 67 = .ok (.aload 4, 2) := by decide +kernel
theorem dX7_moved_69 : decode cX7_moved 69 = .ok (.iload_n 2, 1) := by decide +kernel
theorem dX7_moved_70 : decode cX7_moved 70 = .ok (.iload 6, 2) := by decide +kernel
theorem dX7_moved_72 : decode cX7_moved 72 = .ok (.invokevirtual 161, 3) := by decide +kernel
theorem dX7_moved_75 : decode cX7_moved 75 = .ok (.goto 11, 3) := by decide +kernel
theorem dX7_moved_78 : decode cX7_moved 78 = .ok (.aload 4, 2) := by decide +kernel
theorem dX7_moved_80 : decode cX7_moved 80 = .ok (.iload_n 2, 1) := by decide +kernel
theorem dX7_moved_81 : decode cX7_moved 81 = .ok (.iload 6, 2) := by decide +kernel
theorem dX7_moved_83 : decode cX7_moved 83 = .ok (.invokevirtual 164, 3) := by decide +kernel
theorem dX7_moved_86 : decode cX7_moved 86 = .ok (.ireturn, 1) := by decide +kernel
theorem dX7_own_0 : decode cX7_own 0 = .ok (.aload_n 0, 1) := by decide +kernel
theorem dX7_own_1 : decode cX7_own 1 = .ok (.iload_n 1, 1) := by decide +kernel
theorem dX7_own_2 : decode cX7_own 2 = .ok (.invokevirtual 127, 3) := by decide +kernel
theorem dX7_own_5 : decode cX7_own 5 = .ok (.aload_n 0, 1) := by decide +kernel
theorem dX7_own_6 : decode cX7_own 6 = .ok (.iload_n 2, 1) := by decide +kernel
theorem dX7_own_7 : decode cX7_own 7 = .ok (.invokevirtual 167, 3) := by decide +kernel
theorem dX7_own_10 : decode cX7_own 10 = .ok (.aload_n 0, 1) := by decide +kernel
theorem dX7_own_11 : decode cX7_own 11 = .ok (.getfield 31, 3) := by decide +kernel
theorem dX7_own_14 : decode cX7_own 14 = .ok (.iload_n 1, 1) := by decide +kernel
theorem dX7_own_15 : decode cX7_own 15 = .ok (.invokevirtual 144, 3) := by decide +kernel
theorem dX7_own_18 : decode cX7_own 18 = .ok (.iload_n 1, 1) := by decide +kernel
theorem dX7_own_19 : decode cX7_own 19 = .ok (.iload_n 2, 1) := by decide +kernel
theorem dX7_own_20 : decode cX7_own 20 = .ok (.invokevirtual 170, 3) := by decide +kernel
theorem dX7_own_23 : decode cX7_own 23 = .ok (.ireturn, 1) := by decide +kernel
theorem dX7_belief_0 : decode cX7_belief 0 = .ok (.aload_n 0, 1) := by decide +kernel
theorem dX7_belief_1 : decode cX7_belief 1 = .ok (.iload_n 1, 1) := by decide +kernel
theorem dX7_belief_2 : decode cX7_belief 2 = .ok (.invokevirtual 127, 3) := by decide +kernel
theorem dX7_belief_5 : decode cX7_belief 5 = .ok (.aload_n 0, 1) := by decide +kernel
theorem dX7_belief_6 : decode cX7_belief 6 = .ok (.iload_n 2, 1) := by decide +kernel
theorem dX7_belief_7 : decode cX7_belief 7 = .ok (.invokevirtual 167, 3) := by decide +kernel
theorem dX7_belief_10 : decode cX7_belief 10 = .ok (.iload_n 3, 1) := by decide +kernel
theorem dX7_belief_11 : decode cX7_belief 11 = .ok (.iconst 0, 1) := by decide +kernel
theorem dX7_belief_12 : decode cX7_belief 12 = .ok (.iconst 1, 1) := by decide +kernel
theorem dX7_belief_13 : decode cX7_belief 13 = .ok (.invokestatic 72, 3) := by decide +kernel
theorem dX7_belief_16 : decode cX7_belief 16 = .ok (.aload_n 0, 1) := by decide +kernel
theorem dX7_belief_17 : decode cX7_belief 17 = .ok (.aload_n 0, 1) := by decide +kernel
theorem dX7_belief_18 : decode cX7_belief 18 = .ok (.getfield 31, 3) := by decide +kernel
theorem dX7_belief_21 : decode cX7_belief 21 = .ok (.iload_n 1, 1) := by decide +kernel
theorem dX7_belief_22 : decode cX7_belief 22 = .ok (.iload_n 2, 1) := by decide +kernel
theorem dX7_belief_23 : decode cX7_belief 23 = .ok (.iload_n 3, 1) := by decide +kernel
theorem dX7_belief_24 : decode cX7_belief 24 = .ok (.invokevirtual 173, 3) := by decide +kernel
theorem dX7_belief_27 : decode cX7_belief 27 = .ok (.ireturn, 1) := by decide +kernel
theorem dX7_sources_0 : decode cX7_sources 0 = .ok (.aload_n 0, 1) := by decide +kernel
theorem dX7_sources_1 : decode cX7_sources 1 = .ok (.iload_n 1, 1) := by decide +kernel
theorem dX7_sources_2 : decode cX7_sources 2 = .ok (.invokevirtual 127, 3) := by decide +kernel
theorem dX7_sources_5 : decode cX7_sources 5 = .ok (.aload_n 0, 1) := by decide +kernel
theorem dX7_sources_6 : decode cX7_sources 6 = .ok (.iload_n 2, 1) := by decide +kernel
theorem dX7_sources_7 : decode cX7_sources 7 = .ok (.invokevirtual 167, 3) := by decide +kernel
theorem dX7_sources_10 : decode cX7_sources 10 = .ok (.aload_n 0, 1) := by decide +kernel
theorem dX7_sources_11 : decode cX7_sources 11 = .ok (.iload_n 1, 1) := by decide +kernel
theorem dX7_sources_12 : decode cX7_sources 12 = .ok (.iload_n 2, 1) := by decide +kernel
theorem dX7_sources_13 : decode cX7_sources 13 = .ok (.iconst 0, 1) := by decide +kernel
theorem dX7_sources_14 : decode cX7_sources 14 = .ok (.invokevirtual 177, 3) := by decide +kernel
theorem dX7_sources_17 : decode cX7_sources 17 = .ok (.ireturn, 1) := by decide +kernel
theorem dX7_contradicted_0 : decode cX7_contradicted 0 = .ok (.aload_n 0, 1) := by decide +kernel
theorem dX7_contradicted_1 : decode cX7_contradicted 1 = .ok (.iload_n 1, 1) := by decide +kernel
theorem dX7_contradicted_2 : decode cX7_contradicted 2 = .ok (.invokevirtual 127, 3) := by decide +kernel
theorem dX7_contradicted_5 : decode cX7_contradicted 5 = .ok (.aload_n 0, 1) := by decide +kernel
theorem dX7_contradicted_6 : decode cX7_contradicted 6 = .ok (.iload_n 2, 1) := by decide +kernel
theorem dX7_contradicted_7 : decode cX7_contradicted 7 = .ok (.invokevirtual 167, 3) := by decide +kernel
theorem dX7_contradicted_10 : decode cX7_contradicted 10 = .ok (.aload_n 0, 1) := by decide +kernel
theorem dX7_contradicted_11 : decode cX7_contradicted 11 = .ok (.iload_n 1, 1) := by decide +kernel
theorem dX7_contradicted_12 : decode cX7_contradicted 12 = .ok (.iload_n 2, 1) := by decide +kernel
theorem dX7_contradicted_13 : decode cX7_contradicted 13 = .ok (.iconst 1, 1) := by decide +kernel
theorem dX7_contradicted_14 : decode cX7_contradicted 14 = .ok (.invokevirtual 177, 3) := by decide +kernel
theorem dX7_contradicted_17 : decode cX7_contradicted 17 = .ok (.ireturn, 1) := by decide +kernel
theorem dX7_majority_0 : decode cX7_majority 0 = .ok (.aload_n 0, 1) := by decide +kernel
theorem dX7_majority_1 : decode cX7_majority 1 = .ok (.iload_n 1, 1) := by decide +kernel
theorem dX7_majority_2 : decode cX7_majority 2 = .ok (.invokevirtual 127, 3) := by decide +kernel
theorem dX7_majority_5 : decode cX7_majority 5 = .ok (.aload_n 0, 1) := by decide +kernel
theorem dX7_majority_6 : decode cX7_majority 6 = .ok (.iload_n 2, 1) := by decide +kernel
theorem dX7_majority_7 : decode cX7_majority 7 = .ok (.invokevirtual 167, 3) := by decide +kernel
theorem dX7_majority_10 : decode cX7_majority 10 = .ok (.aload_n 0, 1) := by decide +kernel
theorem dX7_majority_11 : decode cX7_majority 11 = .ok (.getfield 24, 3) := by decide +kernel
theorem dX7_majority_14 : decode cX7_majority 14 = .ok (.aload_n 0, 1) := by decide +kernel
theorem dX7_majority_15 : decode cX7_majority 15 = .ok (.getfield 31, 3) := by decide +kernel
theorem dX7_majority_18 : decode cX7_majority 18 = .ok (.iload_n 1, 1) := by decide +kernel
theorem dX7_majority_19 : decode cX7_majority 19 = .ok (.iload_n 2, 1) := by decide +kernel
theorem dX7_majority_20 : decode cX7_majority 20 = .ok (.iconst (-1), 1) := by decide +kernel
theorem dX7_majority_21 : decode cX7_majority 21 = .ok (.invokevirtual 181, 3) := by decide +kernel
theorem dX7_majority_24 : decode cX7_majority 24 = .ok (.aload_n 0, 1) := by decide +kernel
theorem dX7_majority_25 : decode cX7_majority 25 = .ok (.getfield 24, 3) := by decide +kernel
theorem dX7_majority_28 : decode cX7_majority 28 = .ok (.invokevirtual 185, 3) := by decide +kernel
theorem dX7_majority_31 : decode cX7_majority 31 = .ok (.ireturn, 1) := by decide +kernel
theorem dX7_majorityBound_0 : decode cX7_majorityBound 0 = .ok (.aload_n 0, 1) := by decide +kernel
theorem dX7_majorityBound_1 : decode cX7_majorityBound 1 = .ok (.iload_n 1, 1) := by decide +kernel
theorem dX7_majorityBound_2 : decode cX7_majorityBound 2 = .ok (.invokevirtual 127, 3) := by decide +kernel
theorem dX7_majorityBound_5 : decode cX7_majorityBound 5 = .ok (.aload_n 0, 1) := by decide +kernel
theorem dX7_majorityBound_6 : decode cX7_majorityBound 6 = .ok (.iload_n 2, 1) := by decide +kernel
theorem dX7_majorityBound_7 : decode cX7_majorityBound 7 = .ok (.invokevirtual 167, 3) := by decide +kernel
theorem dX7_majorityBound_10 : decode cX7_majorityBound 10 = .ok (.iload_n 3, 1) := by decide +kernel
theorem dX7_majorityBound_11 : decode cX7_majorityBound 11 = .ok (.iconst 0, 1) := by decide +kernel
theorem dX7_majorityBound_12 : decode cX7_majorityBound 12 = .ok (.iconst 1, 1) := by decide +kernel
theorem dX7_majorityBound_13 : decode cX7_majorityBound 13 = .ok (.invokestatic 72, 3) := by decide +kernel
theorem dX7_majorityBound_16 : decode cX7_majorityBound 16 = .ok (.aload_n 0, 1) := by decide +kernel
theorem dX7_majorityBound_17 : decode cX7_majorityBound 17 = .ok (.getfield 24, 3) := by decide +kernel
theorem dX7_majorityBound_20 : decode cX7_majorityBound 20 = .ok (.aload_n 0, 1) := by decide +kernel
theorem dX7_majorityBound_21 : decode cX7_majorityBound 21 = .ok (.getfield 31, 3) := by decide +kernel
theorem dX7_majorityBound_24 : decode cX7_majorityBound 24 = .ok (.iload_n 1, 1) := by decide +kernel
theorem dX7_majorityBound_25 : decode cX7_majorityBound 25 = .ok (.iload_n 2, 1) := by decide +kernel
theorem dX7_majorityBound_26 : decode cX7_majorityBound 26 = .ok (.iconst (-1), 1) := by decide +kernel
theorem dX7_majorityBound_27 : decode cX7_majorityBound 27 = .ok (.invokevirtual 181, 3) := by decide +kernel
theorem dX7_majorityBound_30 : decode cX7_majorityBound 30 = .ok (.aload_n 0, 1) := by decide +kernel
theorem dX7_majorityBound_31 : decode cX7_majorityBound 31 = .ok (.getfield 24, 3) := by decide +kernel
theorem dX7_majorityBound_34 : decode cX7_majorityBound 34 = .ok (.invokevirtual 185, 3) := by decide +kernel
theorem dX7_majorityBound_37 : decode cX7_majorityBound 37 = .ok (.istore 4, 2) := by decide +kernel
theorem dX7_majorityBound_39 : decode cX7_majorityBound 39 = .ok (.iload 4, 2) := by decide +kernel
theorem dX7_majorityBound_41 : decode cX7_majorityBound 41 = .ok (.ifCond .ne 5, 3) := by decide +kernel
theorem dX7_majorityBound_44 : decode cX7_majorityBound 44 = .ok (.iconst (-1), 1) := by decide +kernel
theorem dX7_majorityBound_45 : decode cX7_majorityBound 45 = .ok (.ireturn, 1) := by decide +kernel
theorem dX7_majorityBound_46 : decode cX7_majorityBound 46 = .ok (.iload_n 3, 1) := by decide +kernel
theorem dX7_majorityBound_47 : decode cX7_majorityBound 47 = .ok (.ifCond .ne 15, 3) := by decide +kernel
theorem dX7_majorityBound_50 : decode cX7_majorityBound 50 = .ok (.aload_n 0, 1) := by decide +kernel
theorem dX7_majorityBound_51 : decode cX7_majorityBound 51 = .ok (.getfield 24, 3) := by decide +kernel
theorem dX7_majorityBound_54 : decode cX7_majorityBound 54 = .ok (.iload 4, 2) := by decide +kernel
theorem dX7_majorityBound_56 : decode cX7_majorityBound 56 = .ok (.invokevirtual 188, 3) := by decide +kernel
theorem dX7_majorityBound_59 : decode cX7_majorityBound 59 = .ok (.goto 12, 3) := by decide +kernel
theorem dX7_majorityBound_62 : decode cX7_majorityBound 62 = .ok (.aload_n 0, 1) := by decide +kernel
theorem dX7_majorityBound_63 : decode cX7_majorityBound 63 = .ok (.getfield 24, 3) := by decide +kernel
theorem dX7_majorityBound_66 : decode cX7_majorityBound 66 = .ok (.iload 4, 2) := by decide +kernel
theorem dX7_majorityBound_68 : decode cX7_majorityBound 68 = .ok (.invokevirtual 191, 3) := by decide +kernel
theorem dX7_majorityBound_71 : decode cX7_majorityBound 71 = .ok (.ireturn, 1) := by decide +kernel
theorem dX7_best_0 : decode cX7_best 0 = .ok (.aload_n 0, 1) := by decide +kernel
theorem dX7_best_1 : decode cX7_best 1 = .ok (.iload_n 1, 1) := by decide +kernel
theorem dX7_best_2 : decode cX7_best 2 = .ok (.invokevirtual 127, 3) := by decide +kernel
theorem dX7_best_5 : decode cX7_best 5 = .ok (.iload_n 2, 1) := by decide +kernel
theorem dX7_best_6 : decode cX7_best 6 = .ok (.iconst 0, 1) := by decide +kernel
theorem dX7_best_7 : decode cX7_best 7 = .ok (.iconst 2, 1) := by decide +kernel
theorem dX7_best_8 : decode cX7_best 8 = .ok (.invokestatic 72, 3) := by decide +kernel
theorem dX7_best_11 : decode cX7_best 11 = .ok (.aload_n 0, 1) := by decide +kernel
theorem dX7_best_12 : decode cX7_best 12 = .ok (.aload_n 0, 1) := by decide +kernel
theorem dX7_best_13 : decode cX7_best 13 = .ok (.getfield 31, 3) := by decide +kernel
theorem dX7_best_16 : decode cX7_best 16 = .ok (.iload_n 1, 1) := by decide +kernel
theorem dX7_best_17 : decode cX7_best 17 = .ok (.iload_n 2, 1) := by decide +kernel
theorem dX7_best_18 : decode cX7_best 18 = .ok (.invokevirtual 194, 3) := by decide +kernel
theorem dX7_best_21 : decode cX7_best 21 = .ok (.ireturn, 1) := by decide +kernel
theorem dX7_rivals_0 : decode cX7_rivals 0 = .ok (.aload_n 0, 1) := by decide +kernel
theorem dX7_rivals_1 : decode cX7_rivals 1 = .ok (.iload_n 1, 1) := by decide +kernel
theorem dX7_rivals_2 : decode cX7_rivals 2 = .ok (.invokevirtual 127, 3) := by decide +kernel
theorem dX7_rivals_5 : decode cX7_rivals 5 = .ok (.aload_n 0, 1) := by decide +kernel
theorem dX7_rivals_6 : decode cX7_rivals 6 = .ok (.iload_n 1, 1) := by decide +kernel
theorem dX7_rivals_7 : decode cX7_rivals 7 = .ok (.aload_n 0, 1) := by decide +kernel
theorem dX7_rivals_8 : decode cX7_rivals 8 = .ok (.aload_n 0, 1) := by decide +kernel
theorem dX7_rivals_9 : decode cX7_rivals 9 = .ok (.getfield 31, 3) := by decide +kernel
theorem dX7_rivals_12 : decode cX7_rivals 12 = .ok (.iload_n 1, 1) := by decide +kernel
theorem dX7_rivals_13 : decode cX7_rivals 13 = .ok (.iconst 0, 1) := by decide +kernel
theorem dX7_rivals_14 : decode cX7_rivals 14 = .ok (.invokevirtual 194, 3) := by decide +kernel
theorem dX7_rivals_17 : decode cX7_rivals 17 = .ok (.invokevirtual 198, 3) := by decide +kernel
theorem dX7_rivals_20 : decode cX7_rivals 20 = .ok (.ireturn, 1) := by decide +kernel
theorem dX7_nextProbe_0 : decode cX7_nextProbe 0 = .ok (.aload_n 0, 1) := by decide +kernel
theorem dX7_nextProbe_1 : decode cX7_nextProbe 1 = .ok (.iload_n 1, 1) := by decide +kernel
theorem dX7_nextProbe_2 : decode cX7_nextProbe 2 = .ok (.invokevirtual 127, 3) := by decide +kernel
theorem dX7_nextProbe_5 : decode cX7_nextProbe 5 = .ok (.aload_n 0, 1) := by decide +kernel
theorem dX7_nextProbe_6 : decode cX7_nextProbe 6 = .ok (.aload_n 0, 1) := by decide +kernel
theorem dX7_nextProbe_7 : decode cX7_nextProbe 7 = .ok (.getfield 31, 3) := by decide +kernel
theorem dX7_nextProbe_10 : decode cX7_nextProbe 10 = .ok (.iload_n 1, 1) := by decide +kernel
theorem dX7_nextProbe_11 : decode cX7_nextProbe 11 = .ok (.iconst 0, 1) := by decide +kernel
theorem dX7_nextProbe_12 : decode cX7_nextProbe 12 = .ok (.invokevirtual 194, 3) := by decide +kernel
theorem dX7_nextProbe_15 : decode cX7_nextProbe 15 = .ok (.istore_n 2, 1) := by decide +kernel
theorem dX7_nextProbe_16 : decode cX7_nextProbe 16 = .ok (.aload_n 0, 1) := by decide +kernel
theorem dX7_nextProbe_17 : decode cX7_nextProbe 17 = .ok (.iload_n 1, 1) := by decide +kernel
theorem dX7_nextProbe_18 : decode cX7_nextProbe 18 = .ok (.iload_n 2, 1) := by decide +kernel
theorem dX7_nextProbe_19 : decode cX7_nextProbe 19 = .ok (.invokevirtual 198, 3) := by decide +kernel
theorem dX7_nextProbe_22 : decode cX7_nextProbe 22 = .ok (.istore_n 3, 1) := by decide +kernel
theorem dX7_nextProbe_23 : decode cX7_nextProbe 23 = .ok (.iload_n 3, 1) := by decide +kernel
theorem dX7_nextProbe_24 : decode cX7_nextProbe 24 = .ok (.ifCond .ne 5, 3) := by decide +kernel
theorem dX7_nextProbe_27 : decode cX7_nextProbe 27 = .ok (.iconst (-1), 1) := by decide +kernel
theorem dX7_nextProbe_28 : decode cX7_nextProbe 28 = .ok (.ireturn, 1) := by decide +kernel
theorem dX7_nextProbe_29 : decode cX7_nextProbe 29 = .ok (.iconst (-1), 1) := by decide +kernel
theorem dX7_nextProbe_30 : decode cX7_nextProbe 30 = .ok (.istore 4, 2) := by decide +kernel
theorem dX7_nextProbe_32 : decode cX7_nextProbe 32 = .ok (.iconst (-1), 1) := by decide +kernel
theorem dX7_nextProbe_33 : decode cX7_nextProbe 33 = .ok (.istore 5, 2) := by decide +kernel
theorem dX7_nextProbe_35 : decode cX7_nextProbe 35 = .ok (.iconst 0, 1) := by decide +kernel
theorem dX7_nextProbe_36 : decode cX7_nextProbe 36 = .ok (.istore 6, 2) := by decide +kernel
theorem dX7_nextProbe_38 : decode cX7_nextProbe 38 = .ok (.iload 6, 2) := by decide +kernel
theorem dX7_nextProbe_40 : decode cX7_nextProbe 40 = .ok (.aload_n 0, 1) := by decide +kernel
theorem dX7_nextProbe_41 : decode cX7_nextProbe 41 = .ok (.getfield 31, 3) := by decide +kernel
theorem dX7_nextProbe_44 : decode cX7_nextProbe 44 = .ok (.getfield 106, 3) := by decide +kernel
theorem dX7_nextProbe_47 : decode cX7_nextProbe 47 = .ok (.getfield 91, 3) := by decide +kernel
theorem dX7_nextProbe_50 : decode cX7_nextProbe 50 = .ok (.if_icmp .ge 53, 3) := by decide +kernel
theorem dX7_nextProbe_53 : decode cX7_nextProbe 53 = .ok (.aload_n 0, 1) := by decide +kernel
theorem dX7_nextProbe_54 : decode cX7_nextProbe 54 = .ok (.aload_n 0, 1) := by decide +kernel
theorem dX7_nextProbe_55 : decode cX7_nextProbe 55 = .ok (.getfield 31, 3) := by decide +kernel
theorem dX7_nextProbe_58 : decode cX7_nextProbe 58 = .ok (.iload_n 1, 1) := by decide +kernel
theorem dX7_nextProbe_59 : decode cX7_nextProbe 59 = .ok (.iload 6, 2) := by decide +kernel
theorem dX7_nextProbe_61 : decode cX7_nextProbe 61 = .ok (.iconst (-1), 1) := by decide +kernel
theorem dX7_nextProbe_62 : decode cX7_nextProbe 62 = .ok (.invokevirtual 201, 3) := by decide +kernel
theorem dX7_nextProbe_65 : decode cX7_nextProbe 65 = .ok (.istore 7, 2) := by decide +kernel
theorem dX7_nextProbe_67 : decode cX7_nextProbe 67 = .ok (.iload 6, 2) := by decide +kernel
theorem dX7_nextProbe_69 : decode cX7_nextProbe 69 = .ok (.iload_n 2, 1) := by decide +kernel
theorem dX7_nextProbe_70 : decode cX7_nextProbe 70 = .ok (.if_icmp .eq 12, 3) := by decide +kernel
theorem dX7_nextProbe_73 : decode cX7_nextProbe 73 = .ok (.iload_n 3, 1) := by decide +kernel
theorem dX7_nextProbe_74 : decode cX7_nextProbe 74 = .ok (.iload 6, 2) := by decide +kernel
theorem dX7_nextProbe_76 : decode cX7_nextProbe 76 = .ok (.invokestatic 138, 3) := by decide +kernel
theorem dX7_nextProbe_79 : decode cX7_nextProbe 79 = .ok (.ifCond .eq 18, 3) := by decide +kernel
theorem dX7_nextProbe_82 : decode cX7_nextProbe 82 = .ok (.iload 7, 2) := by decide +kernel
theorem dX7_nextProbe_84 : decode cX7_nextProbe 84 = .ok (.iload 5, 2) := by decide +kernel
theorem dX7_nextProbe_86 : decode cX7_nextProbe 86 = .ok (.if_icmp .le 11, 3) := by decide +kernel
theorem dX7_nextProbe_89 : decode cX7_nextProbe 89 = .ok (.iload 6, 2) := by decide +kernel
theorem dX7_nextProbe_91 : decode cX7_nextProbe 91 = .ok (.istore 4, 2) := by decide +kernel
theorem dX7_nextProbe_93 : decode cX7_nextProbe 93 = .ok (.iload 7, 2) := by decide +kernel
theorem dX7_nextProbe_95 : decode cX7_nextProbe 95 = .ok (.istore 5, 2) := by decide +kernel
theorem dX7_nextProbe_97 : decode cX7_nextProbe 97 = .ok (.iinc 6 1, 3) := by decide +kernel
theorem dX7_nextProbe_100 : decode cX7_nextProbe 100 = .ok (.goto (-62), 3) := by decide +kernel
theorem dX7_nextProbe_103 : decode cX7_nextProbe 103 = .ok (.iload 4, 2) := by decide +kernel
theorem dX7_nextProbe_105 : decode cX7_nextProbe 105 = .ok (.ireturn, 1) := by decide +kernel
theorem dX7_regret_0 : decode cX7_regret 0 = .ok (.aload_n 0, 1) := by decide +kernel
theorem dX7_regret_1 : decode cX7_regret 1 = .ok (.iload_n 1, 1) := by decide +kernel
theorem dX7_regret_2 : decode cX7_regret 2 = .ok (.invokevirtual 127, 3) := by decide +kernel
theorem dX7_regret_5 : decode cX7_regret 5 = .ok (.aload_n 0, 1) := by decide +kernel
theorem dX7_regret_6 : decode cX7_regret 6 = .ok (.getfield 31, 3) := by decide +kernel
theorem dX7_regret_9 : decode cX7_regret 9 = .ok (.getfield 106, 3) := by decide +kernel
theorem dX7_regret_12 : decode cX7_regret 12 = .ok (.getfield 91, 3) := by decide +kernel
theorem dX7_regret_15 : decode cX7_regret 15 = .ok (.ifCond .ne 5, 3) := by decide +kernel
theorem dX7_regret_18 : decode cX7_regret 18 = .ok (.iconst (-1), 1) := by decide +kernel
theorem dX7_regret_19 : decode cX7_regret 19 = .ok (.ireturn, 1) := by decide +kernel
theorem dX7_regret_20 : decode cX7_regret 20 = .ok (.aload_n 0, 1) := by decide +kernel
theorem dX7_regret_21 : decode cX7_regret 21 = .ok (.aload_n 0, 1) := by decide +kernel
theorem dX7_regret_22 : decode cX7_regret 22 = .ok (.getfield 31, 3) := by decide +kernel
theorem dX7_regret_25 : decode cX7_regret 25 = .ok (.iload_n 1, 1) := by decide +kernel
theorem dX7_regret_26 : decode cX7_regret 26 = .ok (.aload_n 0, 1) := by decide +kernel
theorem dX7_regret_27 : decode cX7_regret 27 = .ok (.aload_n 0, 1) := by decide +kernel
theorem dX7_regret_28 : decode cX7_regret 28 = .ok (.getfield 31, 3) := by decide +kernel
theorem dX7_regret_31 : decode cX7_regret 31 = .ok (.iload_n 1, 1) := by decide +kernel
theorem dX7_regret_32 : decode cX7_regret 32 = .ok (.iconst 0, 1) := by decide +kernel
theorem dX7_regret_33 : decode cX7_regret 33 = .ok (.invokevirtual 194, 3) := by decide +kernel
theorem dX7_regret_36 : decode cX7_regret 36 = .ok (.iconst 1, 1) := by decide +kernel
theorem dX7_regret_37 : decode cX7_regret 37 = .ok (.invokevirtual 173, 3) := by decide +kernel
theorem dX7_regret_40 : decode cX7_regret 40 = .ok (.istore_n 2, 1) := by decide +kernel
theorem dX7_regret_41 : decode cX7_regret 41 = .ok (.aload_n 0, 1) := by decide +kernel
theorem dX7_regret_42 : decode cX7_regret 42 = .ok (.aload_n 0, 1) := by decide +kernel
theorem dX7_regret_43 : decode cX7_regret 43 = .ok (.getfield 31, 3) := by decide +kernel
theorem dX7_regret_46 : decode cX7_regret 46 = .ok (.iload_n 1, 1) := by decide +kernel
theorem dX7_regret_47 : decode cX7_regret 47 = .ok (.aload_n 0, 1) := by decide +kernel
theorem dX7_regret_48 : decode cX7_regret 48 = .ok (.aload_n 0, 1) := by decide +kernel
theorem dX7_regret_49 : decode cX7_regret 49 = .ok (.getfield 31, 3) := by decide +kernel
theorem dX7_regret_52 : decode cX7_regret 52 = .ok (.iload_n 1, 1) := by decide +kernel
theorem dX7_regret_53 : decode cX7_regret 53 = .ok (.iconst 1, 1) := by decide +kernel
theorem dX7_regret_54 : decode cX7_regret 54 = .ok (.invokevirtual 194, 3) := by decide +kernel
theorem dX7_regret_57 : decode cX7_regret 57 = .ok (.iconst 0, 1) := by decide +kernel
theorem dX7_regret_58 : decode cX7_regret 58 = .ok (.invokevirtual 173, 3) := by decide +kernel
theorem dX7_regret_61 : decode cX7_regret 61 = .ok (.istore_n 3, 1) := by decide +kernel
theorem dX7_regret_62 : decode cX7_regret 62 = .ok (.iload_n 2, 1) := by decide +kernel
theorem dX7_regret_63 : decode cX7_regret 63 = .ok (.iload_n 3, 1) := by decide +kernel
theorem dX7_regret_64 : decode cX7_regret 64 = .ok (.isub, 1) := by decide +kernel
theorem dX7_regret_65 : decode cX7_regret 65 = .ok (.ireturn, 1) := by decide +kernel
theorem dX7_saved_0 : decode cX7_saved 0 = .ok (.aload_n 0, 1) := by decide +kernel
theorem dX7_saved_1 : decode cX7_saved 1 = .ok (.iload_n 1, 1) := by decide +kernel
theorem dX7_saved_2 : decode cX7_saved 2 = .ok (.invokevirtual 127, 3) := by decide +kernel
theorem dX7_saved_5 : decode cX7_saved 5 = .ok (.iconst 0, 1) := by decide +kernel
theorem dX7_saved_6 : decode cX7_saved 6 = .ok (.istore_n 2, 1) := by decide +kernel
theorem dX7_saved_7 : decode cX7_saved 7 = .ok (.iconst 0, 1) := by decide +kernel
theorem dX7_saved_8 : decode cX7_saved 8 = .ok (.istore_n 3, 1) := by decide +kernel
theorem dX7_saved_9 : decode cX7_saved 9 = .ok (.iload_n 3, 1) := by decide +kernel
theorem dX7_saved_10 : decode cX7_saved 10 = .ok (.aload_n 0, 1) := by decide +kernel
theorem dX7_saved_11 : decode cX7_saved 11 = .ok (.getfield 31, 3) := by decide +kernel
theorem dX7_saved_14 : decode cX7_saved 14 = .ok (.getfield 106, 3) := by decide +kernel
theorem dX7_saved_17 : decode cX7_saved 17 = .ok (.getfield 91, 3) := by decide +kernel
theorem dX7_saved_20 : decode cX7_saved 20 = .ok (.if_icmp .ge 46, 3) := by decide +kernel
theorem dX7_saved_23 : decode cX7_saved 23 = .ok (.aload_n 0, 1) := by decide +kernel
theorem dX7_saved_24 : decode cX7_saved 24 = .ok (.getfield 31, 3) := by decide +kernel
theorem dX7_saved_27 : decode cX7_saved 27 = .ok (.iload_n 1, 1) := by decide +kernel
theorem dX7_saved_28 : decode cX7_saved 28 = .ok (.invokevirtual 144, 3) := by decide +kernel
theorem dX7_saved_31 : decode cX7_saved 31 = .ok (.iload_n 1, 1) := by decide +kernel
theorem dX7_saved_32 : decode cX7_saved 32 = .ok (.iload_n 3, 1) := by decide +kernel
theorem dX7_saved_33 : decode cX7_saved 33 = .ok (.invokevirtual 170, 3) := by decide +kernel
theorem dX7_saved_36 : decode cX7_saved 36 = .ok (.iconst (-1), 1) := by decide +kernel
theorem dX7_saved_37 : decode cX7_saved 37 = .ok (.if_icmp .ne 23, 3) := by decide +kernel
theorem dX7_saved_40 : decode cX7_saved 40 = .ok (.aload_n 0, 1) := by decide +kernel
theorem dX7_saved_41 : decode cX7_saved 41 = .ok (.aload_n 0, 1) := by decide +kernel
theorem dX7_saved_42 : decode cX7_saved 42 = .ok (.getfield 31, 3) := by decide +kernel
theorem dX7_saved_45 : decode cX7_saved 45 = .ok (.iload_n 1, 1) := by decide +kernel
theorem dX7_saved_46 : decode cX7_saved 46 = .ok (.iload_n 3, 1) := by decide +kernel
theorem dX7_saved_47 : decode cX7_saved 47 = .ok (.iconst (-1), 1) := by decide +kernel
theorem dX7_saved_48 : decode cX7_saved 48 = .ok (.invokevirtual 201, 3) := by decide +kernel
theorem dX7_saved_51 : decode cX7_saved 51 = .ok (.sipush 999, 3) := by decide +kernel
theorem dX7_saved_54 : decode cX7_saved 54 = .ok (.if_icmp .eq 6, 3) := by decide +kernel
theorem dX7_saved_57 : decode cX7_saved 57 = .ok (.iinc 2 1, 3) := by decide +kernel
theorem dX7_saved_60 : decode cX7_saved 60 = .ok (.iinc 3 1, 3) := by decide +kernel
theorem dX7_saved_63 : decode cX7_saved 63 = .ok (.goto (-54), 3) := by decide +kernel
theorem dX7_saved_66 : decode cX7_saved 66 = .ok (.iload_n 2, 1) := by decide +kernel
theorem dX7_saved_67 : decode cX7_saved 67 = .ok (.ireturn, 1) := by decide +kernel
theorem dX7_agreeing_0 : decode cX7_agreeing 0 = .ok (.aload_n 0, 1) := by decide +kernel
theorem dX7_agreeing_1 : decode cX7_agreeing 1 = .ok (.iload_n 1, 1) := by decide +kernel
theorem dX7_agreeing_2 : decode cX7_agreeing 2 = .ok (.invokevirtual 127, 3) := by decide +kernel
theorem dX7_agreeing_5 : decode cX7_agreeing 5 = .ok (.aload_n 0, 1) := by decide +kernel
theorem dX7_agreeing_6 : decode cX7_agreeing 6 = .ok (.iload_n 2, 1) := by decide +kernel
theorem dX7_agreeing_7 : decode cX7_agreeing 7 = .ok (.invokevirtual 127, 3) := by decide +kernel
theorem dX7_agreeing_10 : decode cX7_agreeing 10 = .ok (.iconst 0, 1) := by decide +kernel
theorem dX7_agreeing_11 : decode cX7_agreeing 11 = .ok (.istore_n 3, 1) := by decide +kernel
theorem dX7_agreeing_12 : decode cX7_agreeing 12 = .ok (.iconst 0, 1) := by decide +kernel
theorem dX7_agreeing_13 : decode cX7_agreeing 13 = .ok (.istore 4, 2) := by decide +kernel
theorem dX7_agreeing_15 : decode cX7_agreeing 15 = .ok (.iload 4, 2) := by decide +kernel
theorem dX7_agreeing_17 : decode cX7_agreeing 17 = .ok (.aload_n 0, 1) := by decide +kernel
theorem dX7_agreeing_18 : decode cX7_agreeing 18 = .ok (.getfield 31, 3) := by decide +kernel
theorem dX7_agreeing_21 : decode cX7_agreeing 21 = .ok (.getfield 106, 3) := by decide +kernel
theorem dX7_agreeing_24 : decode cX7_agreeing 24 = .ok (.getfield 91, 3) := by decide +kernel
theorem dX7_agreeing_27 : decode cX7_agreeing 27 = .ok (.if_icmp .ge 77, 3) := by decide +kernel
theorem dX7_agreeing_30 : decode cX7_agreeing 30 = .ok (.aload_n 0, 1) := by decide +kernel
theorem dX7_agreeing_31 : decode cX7_agreeing 31 = .ok (.aload_n 0, 1) := by decide +kernel
theorem dX7_agreeing_32 : decode cX7_agreeing 32 = .ok (.getfield 31, 3) := by decide +kernel
theorem dX7_agreeing_35 : decode cX7_agreeing 35 = .ok (.iload_n 1, 1) := by decide +kernel
theorem dX7_agreeing_36 : decode cX7_agreeing 36 = .ok (.iload 4, 2) := by decide +kernel
theorem dX7_agreeing_38 : decode cX7_agreeing 38 = .ok (.iconst 0, 1) := by decide +kernel
theorem dX7_agreeing_39 : decode cX7_agreeing 39 = .ok (.invokevirtual 173, 3) := by decide +kernel
theorem dX7_agreeing_42 : decode cX7_agreeing 42 = .ok (.aload_n 0, 1) := by decide +kernel
theorem dX7_agreeing_43 : decode cX7_agreeing 43 = .ok (.aload_n 0, 1) := by decide +kernel
theorem dX7_agreeing_44 : decode cX7_agreeing 44 = .ok (.getfield 31, 3) := by decide +kernel
theorem dX7_agreeing_47 : decode cX7_agreeing 47 = .ok (.iload_n 2, 1) := by decide +kernel
theorem dX7_agreeing_48 : decode cX7_agreeing 48 = .ok (.iload 4, 2) := by decide +kernel
theorem dX7_agreeing_50 : decode cX7_agreeing 50 = .ok (.iconst 0, 1) := by decide +kernel
theorem dX7_agreeing_51 : decode cX7_agreeing 51 = .ok (.invokevirtual 173, 3) := by decide +kernel
theorem dX7_agreeing_54 : decode cX7_agreeing 54 = .ok (.invokestatic 204, 3) := by decide +kernel
theorem dX7_agreeing_57 : decode cX7_agreeing 57 = .ok (.istore 5, 2) := by decide +kernel
theorem dX7_agreeing_59 : decode cX7_agreeing 59 = .ok (.aload_n 0, 1) := by decide +kernel
theorem dX7_agreeing_60 : decode cX7_agreeing 60 = .ok (.aload_n 0, 1) := by decide +kernel
theorem dX7_agreeing_61 : decode cX7_agreeing 61 = .ok (.getfield 31, 3) := by decide +kernel
theorem dX7_agreeing_64 : decode cX7_agreeing 64 = .ok (.iload_n 1, 1) := by decide +kernel
theorem dX7_agreeing_65 : decode cX7_agreeing 65 = .ok (.iload 4, 2) := by decide +kernel
theorem dX7_agreeing_67 : decode cX7_agreeing 67 = .ok (.iconst 1, 1) := by decide +kernel
theorem dX7_agreeing_68 : decode cX7_agreeing 68 = .ok (.invokevirtual 173, 3) := by decide +kernel
theorem dX7_agreeing_71 : decode cX7_agreeing 71 = .ok (.aload_n 0, 1) := by decide +kernel
theorem dX7_agreeing_72 : decode cX7_agreeing 72 = .ok (.aload_n 0, 1) := by decide +kernel
theorem dX7_agreeing_73 : decode cX7_agreeing 73 = .ok (.getfield 31, 3) := by decide +kernel
theorem dX7_agreeing_76 : decode cX7_agreeing 76 = .ok (.iload_n 2, 1) := by decide +kernel
theorem dX7_agreeing_77 : decode cX7_agreeing 77 = .ok (.iload 4, 2) := by decide +kernel
theorem dX7_agreeing_79 : decode cX7_agreeing 79 = .ok (.iconst 1, 1) := by decide +kernel
theorem dX7_agreeing_80 : decode cX7_agreeing 80 = .ok (.invokevirtual 173, 3) := by decide +kernel
theorem dX7_agreeing_83 : decode cX7_agreeing 83 = .ok (.invokestatic 209, 3) := by decide +kernel
theorem dX7_agreeing_86 : decode cX7_agreeing 86 = .ok (.istore 6, 2) := by decide +kernel
theorem dX7_agreeing_88 : decode cX7_agreeing 88 = .ok (.iload 5, 2) := by decide +kernel
theorem dX7_agreeing_90 : decode cX7_agreeing 90 = .ok (.iload 6, 2) := by decide +kernel
theorem dX7_agreeing_92 : decode cX7_agreeing 92 = .ok (.if_icmp .gt 6, 3) := by decide +kernel
theorem dX7_agreeing_95 : decode cX7_agreeing 95 = .ok (.iinc 3 1, 3) := by decide +kernel
theorem dX7_agreeing_98 : decode cX7_agreeing 98 = .ok (.iinc 4 1, 3) := by decide +kernel
theorem dX7_agreeing_101 : decode cX7_agreeing 101 = .ok (.goto (-86), 3) := by decide +kernel
theorem dX7_agreeing_104 : decode cX7_agreeing 104 = .ok (.iload_n 3, 1) := by decide +kernel
theorem dX7_agreeing_105 : decode cX7_agreeing 105 = .ok (.ireturn, 1) := by decide +kernel
theorem dX7_common_0 : decode cX7_common 0 = .ok (.aload_n 0, 1) := by decide +kernel
theorem dX7_common_1 : decode cX7_common 1 = .ok (.iload_n 1, 1) := by decide +kernel
theorem dX7_common_2 : decode cX7_common 2 = .ok (.invokevirtual 167, 3) := by decide +kernel
theorem dX7_common_5 : decode cX7_common 5 = .ok (.iload_n 2, 1) := by decide +kernel
theorem dX7_common_6 : decode cX7_common 6 = .ok (.iconst 0, 1) := by decide +kernel
theorem dX7_common_7 : decode cX7_common 7 = .ok (.iconst 1, 1) := by decide +kernel
theorem dX7_common_8 : decode cX7_common 8 = .ok (.invokestatic 72, 3) := by decide +kernel
theorem dX7_common_11 : decode cX7_common 11 = .ok (.iconst 0, 1) := by decide +kernel
theorem dX7_common_12 : decode cX7_common 12 = .ok (.istore_n 3, 1) := by decide +kernel
theorem dX7_common_13 : decode cX7_common 13 = .ok (.iconst 0, 1) := by decide +kernel
theorem dX7_common_14 : decode cX7_common 14 = .ok (.istore 4, 2) := by decide +kernel
theorem dX7_common_16 : decode cX7_common 16 = .ok (.sipush 999, 3) := by decide +kernel
theorem dX7_common_19 : decode cX7_common 19 = .ok (.istore 5, 2) := by decide +kernel
theorem dX7_common_21 : decode cX7_common 21 = .ok (.iconst 0, 1) := by decide +kernel
theorem dX7_common_22 : decode cX7_common 22 = .ok (.istore 6, 2) := by decide +kernel
theorem dX7_common_24 : decode cX7_common 24 = .ok (.iload 6, 2) := by decide +kernel
theorem dX7_common_26 : decode cX7_common 26 = .ok (.aload_n 0, 1) := by decide +kernel
theorem dX7_common_27 : decode cX7_common 27 = .ok (.getfield 31, 3) := by decide +kernel
theorem dX7_common_30 : decode cX7_common 30 = .ok (.getfield 87, 3) := by decide +kernel
theorem dX7_common_33 : decode cX7_common 33 = .ok (.getfield 91, 3) := by decide +kernel
theorem dX7_common_36 : decode cX7_common 36 = .ok (.if_icmp .ge 83, 3) := by decide +kernel
theorem dX7_common_39 : decode cX7_common 39 = .ok (.aload_n 0, 1) := by decide +kernel
theorem dX7_common_40 : decode cX7_common 40 = .ok (.getfield 31, 3) := by decide +kernel
theorem dX7_common_43 : decode cX7_common 43 = .ok (.iload 6, 2) := by decide +kernel
theorem dX7_common_45 : decode cX7_common 45 = .ok (.invokevirtual 144, 3) := by decide +kernel
theorem dX7_common_48 : decode cX7_common 48 = .ok (.astore 7, 2) := by decide +kernel
theorem dX7_common_50 : decode cX7_common 50 = .ok (.aload 7, 2) := by decide +kernel
theorem dX7_common_52 : decode cX7_common 52 = .ok (.iload 6, 2) := by decide +kernel
theorem dX7_common_54 : decode cX7_common 54 = .ok (.iload_n 1, 1) := by decide +kernel
theorem dX7_common_55 : decode cX7_common 55 = .ok (.invokevirtual 170, 3) := by decide +kernel
theorem dX7_common_58 : decode cX7_common 58 = .ok (.istore 8, 2) := by decide +kernel
theorem dX7_common_60 : decode cX7_common 60 = .ok (.iload 8, 2) := by decide +kernel
theorem dX7_common_62 : decode cX7_common 62 = .ok (.iconst (-1), 1) := by decide +kernel
theorem dX7_common_63 : decode cX7_common 63 = .ok (.if_icmp .eq 50, 3) := by decide +kernel
theorem dX7_common_66 : decode cX7_common 66 = .ok (.aload_n 0, 1) := by decide +kernel
theorem dX7_common_67 : decode cX7_common 67 = .ok (.getfield 31, 3) := by decide +kernel
theorem dX7_common_70 : decode cX7_common 70 = .ok (.aload 7, 2) := by decide +kernel
theorem dX7_common_72 : decode cX7_common 72 = .ok (.iload 8, 2) := by decide +kernel
theorem dX7_common_74 : decode cX7_common 74 = .ok (.invokevirtual 212, 3) := by decide +kernel
theorem dX7_common_77 : decode cX7_common 77 = .ok (.istore 9, 2) := by decide +kernel
theorem dX7_common_79 : decode cX7_common 79 = .ok (.iconst 1, 1) := by decide +kernel
theorem dX7_common_80 : decode cX7_common 80 = .ok (.istore_n 3, 1) := by decide +kernel
theorem dX7_common_81 : decode cX7_common 81 = .ok (.iload 4, 2) := by decide +kernel
theorem dX7_common_83 : decode cX7_common 83 = .ok (.aload 7, 2) := by decide +kernel
theorem dX7_common_85 : decode cX7_common 85 = .ok (.iload 8, 2) := by decide +kernel
theorem dX7_common_87 : decode cX7_common 87 = .ok (.iload 9, 2) := by decide +kernel
theorem dX7_common_89 : decode cX7_common 89 = .ok (.invokevirtual 161, 3) := by decide +kernel
theorem dX7_common_92 : decode cX7_common 92 = .ok (.invokestatic 204, 3) := by decide +kernel
theorem dX7_common_95 : decode cX7_common 95 = .ok (.istore 4, 2) := by decide +kernel
theorem dX7_common_97 : decode cX7_common 97 = .ok (.iload 5, 2) := by decide +kernel
theorem dX7_common_99 : decode cX7_common 99 = .ok (.aload 7, 2) := by decide +kernel
theorem dX7_common_101 : decode cX7_common 101 = .ok (.iload 8, 2) := by decide +kernel
theorem dX7_common_103 : decode cX7_common 103 = .ok (.iload 9, 2) := by decide +kernel
theorem dX7_common_105 : decode cX7_common 105 = .ok (.invokevirtual 164, 3) := by decide +kernel
theorem dX7_common_108 : decode cX7_common 108 = .ok (.invokestatic 209, 3) := by decide +kernel
theorem dX7_common_111 : decode cX7_common 111 = .ok (.istore 5, 2) := by decide +kernel
theorem dX7_common_113 : decode cX7_common 113 = .ok (.iinc 6 1, 3) := by decide +kernel
theorem dX7_common_116 : decode cX7_common 116 = .ok (.goto (-92), 3) := by decide +kernel
theorem dX7_common_119 : decode cX7_common 119 = .ok (.iload_n 3, 1) := by decide +kernel
theorem dX7_common_120 : decode cX7_common 120 = .ok (.ifCond .eq 10, 3) := by decide +kernel
theorem dX7_common_123 : decode cX7_common 123 = .ok (.iload 4, 2) := by decide +kernel
theorem dX7_common_125 : decode cX7_common 125 = .ok (.iload 5, 2) := by decide +kernel
theorem dX7_common_127 : decode cX7_common 127 = .ok (.if_icmp .le 5, 3) := by decide +kernel
theorem dX7_common_130 : decode cX7_common 130 = .ok (.iconst (-1), 1) := by decide +kernel
theorem dX7_common_131 : decode cX7_common 131 = .ok (.ireturn, 1) := by decide +kernel
theorem dX7_common_132 : decode cX7_common 132 = .ok (.iload_n 2, 1) := by decide +kernel
theorem dX7_common_133 : decode cX7_common 133 = .ok (.ifCond .ne 8, 3) := by decide +kernel
theorem dX7_common_136 : decode cX7_common 136 = .ok (.iload 4, 2) := by decide +kernel
theorem dX7_common_138 : decode cX7_common 138 = .ok (.goto 5, 3) := by decide +kernel
theorem dX7_common_141 : decode cX7_common 141 = .ok (.iload 5, 2) := by decide +kernel
theorem dX7_common_143 : decode cX7_common 143 = .ok (.ireturn, 1) := by decide +kernel
theorem dX7_probe_0 : decode cX7_probe 0 = .ok (.aload_n 0, 1) := by decide +kernel
theorem dX7_probe_1 : decode cX7_probe 1 = .ok (.iload_n 1, 1) := by decide +kernel
theorem dX7_probe_2 : decode cX7_probe 2 = .ok (.invokevirtual 127, 3) := by decide +kernel
theorem dX7_probe_5 : decode cX7_probe 5 = .ok (.aload_n 0, 1) := by decide +kernel
theorem dX7_probe_6 : decode cX7_probe 6 = .ok (.iload_n 2, 1) := by decide +kernel
theorem dX7_probe_7 : decode cX7_probe 7 = .ok (.invokevirtual 167, 3) := by decide +kernel
theorem dX7_probe_10 : decode cX7_probe 10 = .ok (.iload_n 3, 1) := by decide +kernel
theorem dX7_probe_11 : decode cX7_probe 11 = .ok (.iload 4, 2) := by decide +kernel
theorem dX7_probe_13 : decode cX7_probe 13 = .ok (.invokestatic 227, 3) := by decide +kernel
theorem dX7_probe_16 : decode cX7_probe 16 = .ok (.aload_n 0, 1) := by decide +kernel
theorem dX7_probe_17 : decode cX7_probe 17 = .ok (.getfield 50, 3) := by decide +kernel
theorem dX7_probe_20 : decode cX7_probe 20 = .ok (.aload_n 0, 1) := by decide +kernel
theorem dX7_probe_21 : decode cX7_probe 21 = .ok (.getfield 31, 3) := by decide +kernel
theorem dX7_probe_24 : decode cX7_probe 24 = .ok (.invokevirtual 80, 3) := by decide +kernel
theorem dX7_probe_27 : decode cX7_probe 27 = .ok (.aload_n 0, 1) := by decide +kernel
theorem dX7_probe_28 : decode cX7_probe 28 = .ok (.getfield 31, 3) := by decide +kernel
theorem dX7_probe_31 : decode cX7_probe 31 = .ok (.iload_n 1, 1) := by decide +kernel
theorem dX7_probe_32 : decode cX7_probe 32 = .ok (.iload_n 2, 1) := by decide +kernel
theorem dX7_probe_33 : decode cX7_probe 33 = .ok (.iload_n 3, 1) := by decide +kernel
theorem dX7_probe_34 : decode cX7_probe 34 = .ok (.iload 4, 2) := by decide +kernel
theorem dX7_probe_36 : decode cX7_probe 36 = .ok (.invokevirtual 230, 3) := by decide +kernel
theorem dX7_probe_39 : decode cX7_probe 39 = .ok (.ireturn, 1) := by decide +kernel
theorem dX7_share_0 : decode cX7_share 0 = .ok (.aload_n 0, 1) := by decide +kernel
theorem dX7_share_1 : decode cX7_share 1 = .ok (.iload_n 1, 1) := by decide +kernel
theorem dX7_share_2 : decode cX7_share 2 = .ok (.invokevirtual 127, 3) := by decide +kernel
theorem dX7_share_5 : decode cX7_share 5 = .ok (.aload_n 0, 1) := by decide +kernel
theorem dX7_share_6 : decode cX7_share 6 = .ok (.getfield 50, 3) := by decide +kernel
theorem dX7_share_9 : decode cX7_share 9 = .ok (.aload_n 0, 1) := by decide +kernel
theorem dX7_share_10 : decode cX7_share 10 = .ok (.getfield 31, 3) := by decide +kernel
theorem dX7_share_13 : decode cX7_share 13 = .ok (.invokevirtual 80, 3) := by decide +kernel
theorem dX7_share_16 : decode cX7_share 16 = .ok (.aload_n 0, 1) := by decide +kernel
theorem dX7_share_17 : decode cX7_share 17 = .ok (.getfield 31, 3) := by decide +kernel
theorem dX7_share_20 : decode cX7_share 20 = .ok (.iload_n 1, 1) := by decide +kernel
theorem dX7_share_21 : decode cX7_share 21 = .ok (.iconst 1, 1) := by decide +kernel
theorem dX7_share_22 : decode cX7_share 22 = .ok (.invokevirtual 246, 3) := by decide +kernel
theorem dX7_share_25 : decode cX7_share 25 = .ok (.ireturn, 1) := by decide +kernel
theorem dX7_relay_0 : decode cX7_relay 0 = .ok (.aload_n 0, 1) := by decide +kernel
theorem dX7_relay_1 : decode cX7_relay 1 = .ok (.iload_n 1, 1) := by decide +kernel
theorem dX7_relay_2 : decode cX7_relay 2 = .ok (.invokevirtual 127, 3) := by decide +kernel
theorem dX7_relay_5 : decode cX7_relay 5 = .ok (.aload_n 0, 1) := by decide +kernel
theorem dX7_relay_6 : decode cX7_relay 6 = .ok (.getfield 50, 3) := by decide +kernel
theorem dX7_relay_9 : decode cX7_relay 9 = .ok (.aload_n 0, 1) := by decide +kernel
theorem dX7_relay_10 : decode cX7_relay 10 = .ok (.getfield 31, 3) := by decide +kernel
theorem dX7_relay_13 : decode cX7_relay 13 = .ok (.invokevirtual 80, 3) := by decide +kernel
theorem dX7_relay_16 : decode cX7_relay 16 = .ok (.aload_n 0, 1) := by decide +kernel
theorem dX7_relay_17 : decode cX7_relay 17 = .ok (.getfield 31, 3) := by decide +kernel
theorem dX7_relay_20 : decode cX7_relay 20 = .ok (.iload_n 1, 1) := by decide +kernel
theorem dX7_relay_21 : decode cX7_relay 21 = .ok (.aload_n 0, 1) := by decide +kernel
theorem dX7_relay_22 : decode cX7_relay 22 = .ok (.getfield 31, 3) := by decide +kernel
theorem dX7_relay_25 : decode cX7_relay 25 = .ok (.iconst 4, 1) := by decide +kernel
theorem dX7_relay_26 : decode cX7_relay 26 = .ok (.invokevirtual 123, 3) := by decide +kernel
theorem dX7_relay_29 : decode cX7_relay 29 = .ok (.invokevirtual 246, 3) := by decide +kernel
theorem dX7_relay_32 : decode cX7_relay 32 = .ok (.ireturn, 1) := by decide +kernel
theorem dX7_deliver_0 : decode cX7_deliver 0 = .ok (.iload_n 1, 1) := by decide +kernel
theorem dX7_deliver_1 : decode cX7_deliver 1 = .ok (.iconst 1, 1) := by decide +kernel
theorem dX7_deliver_2 : decode cX7_deliver 2 = .ok (.bipush 100, 2) := by decide +kernel
theorem dX7_deliver_4 : decode cX7_deliver 4 = .ok (.invokestatic 72, 3) := by decide +kernel
theorem dX7_deliver_7 : decode cX7_deliver 7 = .ok (.aload_n 0, 1) := by decide +kernel
theorem dX7_deliver_8 : decode cX7_deliver 8 = .ok (.getfield 50, 3) := by decide +kernel
theorem dX7_deliver_11 : decode cX7_deliver 11 = .ok (.aload_n 0, 1) := by decide +kernel
theorem dX7_deliver_12 : decode cX7_deliver 12 = .ok (.getfield 31, 3) := by decide +kernel
theorem dX7_deliver_15 : decode cX7_deliver 15 = .ok (.invokevirtual 80, 3) := by decide +kernel
theorem dX7_deliver_18 : decode cX7_deliver 18 = .ok (.aload_n 0, 1) := by decide +kernel
theorem dX7_deliver_19 : decode cX7_deliver 19 = .ok (.getfield 31, 3) := by decide +kernel
theorem dX7_deliver_22 : decode cX7_deliver 22 = .ok (.iload_n 1, 1) := by decide +kernel
theorem dX7_deliver_23 : decode cX7_deliver 23 = .ok (.invokevirtual 243, 3) := by decide +kernel
theorem dX7_deliver_26 : decode cX7_deliver 26 = .ok (.ireturn, 1) := by decide +kernel
theorem dX7_exchange_0 : decode cX7_exchange 0 = .ok (.iload_n 1, 1) := by decide +kernel
theorem dX7_exchange_1 : decode cX7_exchange 1 = .ok (.iconst 1, 1) := by decide +kernel
theorem dX7_exchange_2 : decode cX7_exchange 2 = .ok (.bipush 6, 2) := by decide +kernel
theorem dX7_exchange_4 : decode cX7_exchange 4 = .ok (.invokestatic 72, 3) := by decide +kernel
theorem dX7_exchange_7 : decode cX7_exchange 7 = .ok (.aload_n 0, 1) := by decide +kernel
theorem dX7_exchange_8 : decode cX7_exchange 8 = .ok (.getfield 50, 3) := by decide +kernel
theorem dX7_exchange_11 : decode cX7_exchange 11 = .ok (.aload_n 0, 1) := by decide +kernel
theorem dX7_exchange_12 : decode cX7_exchange 12 = .ok (.getfield 31, 3) := by decide +kernel
theorem dX7_exchange_15 : decode cX7_exchange 15 = .ok (.invokevirtual 80, 3) := by decide +kernel
theorem dX7_exchange_18 : decode cX7_exchange 18 = .ok (.aload_n 0, 1) := by decide +kernel
theorem dX7_exchange_19 : decode cX7_exchange 19 = .ok (.getfield 31, 3) := by decide +kernel
theorem dX7_exchange_22 : decode cX7_exchange 22 = .ok (.iload_n 1, 1) := by decide +kernel
theorem dX7_exchange_23 : decode cX7_exchange 23 = .ok (.invokevirtual 234, 3) := by decide +kernel
theorem dX7_exchange_26 : decode cX7_exchange 26 = .ok (.ireturn, 1) := by decide +kernel
theorem dX7_pass_0 : decode cX7_pass 0 = .ok (.iload_n 1, 1) := by decide +kernel
theorem dX7_pass_1 : decode cX7_pass 1 = .ok (.iconst 1, 1) := by decide +kernel
theorem dX7_pass_2 : decode cX7_pass 2 = .ok (.bipush 99, 2) := by decide +kernel
theorem dX7_pass_4 : decode cX7_pass 4 = .ok (.invokestatic 72, 3) := by decide +kernel
theorem dX7_pass_7 : decode cX7_pass 7 = .ok (.aload_n 0, 1) := by decide +kernel
theorem dX7_pass_8 : decode cX7_pass 8 = .ok (.getfield 50, 3) := by decide +kernel
theorem dX7_pass_11 : decode cX7_pass 11 = .ok (.aload_n 0, 1) := by decide +kernel
theorem dX7_pass_12 : decode cX7_pass 12 = .ok (.getfield 31, 3) := by decide +kernel
theorem dX7_pass_15 : decode cX7_pass 15 = .ok (.invokevirtual 80, 3) := by decide +kernel
theorem dX7_pass_18 : decode cX7_pass 18 = .ok (.aload_n 0, 1) := by decide +kernel
theorem dX7_pass_19 : decode cX7_pass 19 = .ok (.getfield 31, 3) := by decide +kernel
theorem dX7_pass_22 : decode cX7_pass 22 = .ok (.iload_n 1, 1) := by decide +kernel
theorem dX7_pass_23 : decode cX7_pass 23 = .ok (.invokevirtual 237, 3) := by decide +kernel
theorem dX7_pass_26 : decode cX7_pass 26 = .ok (.ireturn, 1) := by decide +kernel
theorem dX7_link_0 : decode cX7_link 0 = .ok (.aload_n 0, 1) := by decide +kernel
theorem dX7_link_1 : decode cX7_link 1 = .ok (.iload_n 1, 1) := by decide +kernel
theorem dX7_link_2 : decode cX7_link 2 = .ok (.invokevirtual 127, 3) := by decide +kernel
theorem dX7_link_5 : decode cX7_link 5 = .ok (.aload_n 0, 1) := by decide +kernel
theorem dX7_link_6 : decode cX7_link 6 = .ok (.iload_n 2, 1) := by decide +kernel
theorem dX7_link_7 : decode cX7_link 7 = .ok (.invokevirtual 127, 3) := by decide +kernel
theorem dX7_link_10 : decode cX7_link 10 = .ok (.iload_n 1, 1) := by decide +kernel
theorem dX7_link_11 : decode cX7_link 11 = .ok (.iload_n 2, 1) := by decide +kernel
theorem dX7_link_12 : decode cX7_link 12 = .ok (.if_icmp .ne 14, 3) := by decide +kernel
theorem dX7_link_15 : decode cX7_link 15 = .ok (.new 254, 3) := by decide +kernel
theorem dX7_link_18 : decode cX7_link 18 = .ok (.dup, 1) := by decide +kernel
theorem dX7_link_19 : decode cX7_link 19 = .ok (.ldc_w 256, 3) := by decide +kernel
theorem dX7_link_22 : decode cX7_link 22 = .ok (.invokespecial 258, 3) := by decide +kernel
theorem dX7_link_25 : decode cX7_link 25 = .ok (.athrow, 1) := by decide +kernel
theorem dX7_link_26 : decode cX7_link 26 = .ok (.aload_n 0, 1) := by decide +kernel
theorem dX7_link_27 : decode cX7_link 27 = .ok (.getfield 50, 3) := by decide +kernel
theorem dX7_link_30 : decode cX7_link 30 = .ok (.aload_n 0, 1) := by decide +kernel
theorem dX7_link_31 : decode cX7_link 31 = .ok (.getfield 31, 3) := by decide +kernel
theorem dX7_link_34 : decode cX7_link 34 = .ok (.invokevirtual 80, 3) := by decide +kernel
theorem dX7_link_37 : decode cX7_link 37 = .ok (.aload_n 0, 1) := by decide +kernel
theorem dX7_link_38 : decode cX7_link 38 = .ok (.getfield 31, 3) := by decide +kernel
theorem dX7_link_41 : decode cX7_link 41 = .ok (.iload_n 1, 1) := by decide +kernel
theorem dX7_link_42 : decode cX7_link 42 = .ok (.iload_n 2, 1) := by decide +kernel
theorem dX7_link_43 : decode cX7_link 43 = .ok (.invokevirtual 134, 3) := by decide +kernel
theorem dX7_link_46 : decode cX7_link 46 = .ok (.istore 4, 2) := by decide +kernel
theorem dX7_link_48 : decode cX7_link 48 = .ok (.iload 4, 2) := by decide +kernel
theorem dX7_link_50 : decode cX7_link 50 = .ok (.iload_n 3, 1) := by decide +kernel
theorem dX7_link_51 : decode cX7_link 51 = .ok (.if_icmp .eq 36, 3) := by decide +kernel
theorem dX7_link_54 : decode cX7_link 54 = .ok (.iload_n 3, 1) := by decide +kernel
theorem dX7_link_55 : decode cX7_link 55 = .ok (.ifCond .eq 7, 3) := by decide +kernel
theorem dX7_link_58 : decode cX7_link 58 = .ok (.iconst 5, 1) := by decide +kernel
theorem dX7_link_59 : decode cX7_link 59 = .ok (.goto 4, 3) := by decide +kernel
theorem dX7_link_62 : decode cX7_link 62 = .ok (.iconst (-1), 1) := by decide +kernel
theorem dX7_link_63 : decode cX7_link 63 = .ok (.istore 5, 2) := by decide +kernel
theorem dX7_link_65 : decode cX7_link 65 = .ok (.aload_n 0, 1) := by decide +kernel
theorem dX7_link_66 : decode cX7_link 66 = .ok (.getfield 31, 3) := by decide +kernel
theorem dX7_link_69 : decode cX7_link 69 = .ok (.iload_n 1, 1) := by decide +kernel
theorem dX7_link_70 : decode cX7_link 70 = .ok (.iload_n 2, 1) := by decide +kernel
theorem dX7_link_71 : decode cX7_link 71 = .ok (.iload 5, 2) := by decide +kernel
theorem dX7_link_73 : decode cX7_link 73 = .ok (.invokevirtual 259, 3) := by decide +kernel
theorem dX7_link_76 : decode cX7_link 76 = .ok (.aload_n 0, 1) := by decide +kernel
theorem dX7_link_77 : decode cX7_link 77 = .ok (.getfield 31, 3) := by decide +kernel
theorem dX7_link_80 : decode cX7_link 80 = .ok (.iload_n 2, 1) := by decide +kernel
theorem dX7_link_81 : decode cX7_link 81 = .ok (.iload_n 1, 1) := by decide +kernel
theorem dX7_link_82 : decode cX7_link 82 = .ok (.iload 5, 2) := by decide +kernel
theorem dX7_link_84 : decode cX7_link 84 = .ok (.invokevirtual 259, 3) := by decide +kernel
theorem dX7_link_87 : decode cX7_link 87 = .ok (.iload 4, 2) := by decide +kernel
theorem dX7_link_89 : decode cX7_link 89 = .ok (.ireturn, 1) := by decide +kernel
theorem dX7_setRule_0 : decode cX7_setRule 0 = .ok (.iload_n 1, 1) := by decide +kernel
theorem dX7_setRule_1 : decode cX7_setRule 1 = .ok (.iload_n 2, 1) := by decide +kernel
theorem dX7_setRule_2 : decode cX7_setRule 2 = .ok (.invokestatic 264, 3) := by decide +kernel
theorem dX7_setRule_5 : decode cX7_setRule 5 = .ok (.ifCond .ne 14, 3) := by decide +kernel
theorem dX7_setRule_8 : decode cX7_setRule 8 = .ok (.new 254, 3) := by decide +kernel
theorem dX7_setRule_11 : decode cX7_setRule 11 = .ok (.dup, 1) := by decide +kernel
theorem dX7_setRule_12 : decode cX7_setRule 12 = .ok (.ldc_w 267, 3) := by decide +kernel
theorem dX7_setRule_15 : decode cX7_setRule 15 = .ok (.invokespecial 258, 3) := by decide +kernel
theorem dX7_setRule_18 : decode cX7_setRule 18 = .ok (.athrow, 1) := by decide +kernel
theorem dX7_setRule_19 : decode cX7_setRule 19 = .ok (.aload_n 0, 1) := by decide +kernel
theorem dX7_setRule_20 : decode cX7_setRule 20 = .ok (.getfield 50, 3) := by decide +kernel
theorem dX7_setRule_23 : decode cX7_setRule 23 = .ok (.aload_n 0, 1) := by decide +kernel
theorem dX7_setRule_24 : decode cX7_setRule 24 = .ok (.getfield 31, 3) := by decide +kernel
theorem dX7_setRule_27 : decode cX7_setRule 27 = .ok (.invokevirtual 80, 3) := by decide +kernel
theorem dX7_setRule_30 : decode cX7_setRule 30 = .ok (.aload_n 0, 1) := by decide +kernel
theorem dX7_setRule_31 : decode cX7_setRule 31 = .ok (.getfield 31, 3) := by decide +kernel
theorem dX7_setRule_34 : decode cX7_setRule 34 = .ok (.iload_n 1, 1) := by decide +kernel
theorem dX7_setRule_35 : decode cX7_setRule 35 = .ok (.invokevirtual 123, 3) := by decide +kernel
theorem dX7_setRule_38 : decode cX7_setRule 38 = .ok (.istore_n 3, 1) := by decide +kernel
theorem dX7_setRule_39 : decode cX7_setRule 39 = .ok (.aload_n 0, 1) := by decide +kernel
theorem dX7_setRule_40 : decode cX7_setRule 40 = .ok (.getfield 31, 3) := by decide +kernel
theorem dX7_setRule_43 : decode cX7_setRule 43 = .ok (.iload_n 1, 1) := by decide +kernel
theorem dX7_setRule_44 : decode cX7_setRule 44 = .ok (.iload_n 2, 1) := by decide +kernel
theorem dX7_setRule_45 : decode cX7_setRule 45 = .ok (.invokevirtual 269, 3) := by decide +kernel
theorem dX7_setRule_48 : decode cX7_setRule 48 = .ok (.iload_n 3, 1) := by decide +kernel
theorem dX7_setRule_49 : decode cX7_setRule 49 = .ok (.ireturn, 1) := by decide +kernel
theorem dX7_forget_0 : decode cX7_forget 0 = .ok (.aload_n 0, 1) := by decide +kernel
theorem dX7_forget_1 : decode cX7_forget 1 = .ok (.iload_n 1, 1) := by decide +kernel
theorem dX7_forget_2 : decode cX7_forget 2 = .ok (.invokevirtual 127, 3) := by decide +kernel
theorem dX7_forget_5 : decode cX7_forget 5 = .ok (.aload_n 0, 1) := by decide +kernel
theorem dX7_forget_6 : decode cX7_forget 6 = .ok (.iload_n 2, 1) := by decide +kernel
theorem dX7_forget_7 : decode cX7_forget 7 = .ok (.invokevirtual 167, 3) := by decide +kernel
theorem dX7_forget_10 : decode cX7_forget 10 = .ok (.aload_n 0, 1) := by decide +kernel
theorem dX7_forget_11 : decode cX7_forget 11 = .ok (.getfield 50, 3) := by decide +kernel
theorem dX7_forget_14 : decode cX7_forget 14 = .ok (.aload_n 0, 1) := by decide +kernel
theorem dX7_forget_15 : decode cX7_forget 15 = .ok (.getfield 31, 3) := by decide +kernel
theorem dX7_forget_18 : decode cX7_forget 18 = .ok (.invokevirtual 80, 3) := by decide +kernel
theorem dX7_forget_21 : decode cX7_forget 21 = .ok (.aload_n 0, 1) := by decide +kernel
theorem dX7_forget_22 : decode cX7_forget 22 = .ok (.getfield 31, 3) := by decide +kernel
theorem dX7_forget_25 : decode cX7_forget 25 = .ok (.iload_n 1, 1) := by decide +kernel
theorem dX7_forget_26 : decode cX7_forget 26 = .ok (.invokevirtual 144, 3) := by decide +kernel
theorem dX7_forget_29 : decode cX7_forget 29 = .ok (.iload_n 2, 1) := by decide +kernel
theorem dX7_forget_30 : decode cX7_forget 30 = .ok (.iconst (-1), 1) := by decide +kernel
theorem dX7_forget_31 : decode cX7_forget 31 = .ok (.invokevirtual 272, 3) := by decide +kernel
theorem dX7_forget_34 : decode cX7_forget 34 = .ok (.ireturn, 1) := by decide +kernel
theorem dX7_cleanse_0 : decode cX7_cleanse 0 = .ok (.aload_n 0, 1) := by decide +kernel
theorem dX7_cleanse_1 : decode cX7_cleanse 1 = .ok (.iload_n 1, 1) := by decide +kernel
theorem dX7_cleanse_2 : decode cX7_cleanse 2 = .ok (.invokevirtual 127, 3) := by decide +kernel
theorem dX7_cleanse_5 : decode cX7_cleanse 5 = .ok (.aload_n 0, 1) := by decide +kernel
theorem dX7_cleanse_6 : decode cX7_cleanse 6 = .ok (.getfield 50, 3) := by decide +kernel
theorem dX7_cleanse_9 : decode cX7_cleanse 9 = .ok (.aload_n 0, 1) := by decide +kernel
theorem dX7_cleanse_10 : decode cX7_cleanse 10 = .ok (.getfield 31, 3) := by decide +kernel
theorem dX7_cleanse_13 : decode cX7_cleanse 13 = .ok (.invokevirtual 80, 3) := by decide +kernel
theorem dX7_cleanse_16 : decode cX7_cleanse 16 = .ok (.iconst 0, 1) := by decide +kernel
theorem dX7_cleanse_17 : decode cX7_cleanse 17 = .ok (.istore_n 2, 1) := by decide +kernel
theorem dX7_cleanse_18 : decode cX7_cleanse 18 = .ok (.iconst 0, 1) := by decide +kernel
theorem dX7_cleanse_19 : decode cX7_cleanse 19 = .ok (.istore_n 3, 1) := by decide +kernel
theorem dX7_cleanse_20 : decode cX7_cleanse 20 = .ok (.iload_n 3, 1) := by decide +kernel
theorem dX7_cleanse_21 : decode cX7_cleanse 21 = .ok (.aload_n 0, 1) := by decide +kernel
theorem dX7_cleanse_22 : decode cX7_cleanse 22 = .ok (.getfield 31, 3) := by decide +kernel
theorem dX7_cleanse_25 : decode cX7_cleanse 25 = .ok (.getfield 106, 3) := by decide +kernel
theorem dX7_cleanse_28 : decode cX7_cleanse 28 = .ok (.getfield 91, 3) := by decide +kernel
theorem dX7_cleanse_31 : decode cX7_cleanse 31 = .ok (.if_icmp .ge 31, 3) := by decide +kernel
theorem dX7_cleanse_34 : decode cX7_cleanse 34 = .ok (.iload_n 2, 1) := by decide +kernel
theorem dX7_cleanse_35 : decode cX7_cleanse 35 = .ok (.aload_n 0, 1) := by decide +kernel
theorem dX7_cleanse_36 : decode cX7_cleanse 36 = .ok (.getfield 31, 3) := by decide +kernel
theorem dX7_cleanse_39 : decode cX7_cleanse 39 = .ok (.iload_n 1, 1) := by decide +kernel
theorem dX7_cleanse_40 : decode cX7_cleanse 40 = .ok (.invokevirtual 144, 3) := by decide +kernel
theorem dX7_cleanse_43 : decode cX7_cleanse 43 = .ok (.iload_n 3, 1) := by decide +kernel
theorem dX7_cleanse_44 : decode cX7_cleanse 44 = .ok (.aload_n 0, 1) := by decide +kernel
theorem dX7_cleanse_45 : decode cX7_cleanse 45 = .ok (.iload_n 1, 1) := by decide +kernel
theorem dX7_cleanse_46 : decode cX7_cleanse 46 = .ok (.iload_n 3, 1) := by decide +kernel
theorem dX7_cleanse_47 : decode cX7_cleanse 47 = .ok (.iconst 1, 1) := by decide +kernel
theorem dX7_cleanse_48 : decode cX7_cleanse 48 = .ok (.invokevirtual 177, 3) := by decide +kernel
theorem dX7_cleanse_51 : decode cX7_cleanse 51 = .ok (.invokevirtual 272, 3) := by decide +kernel
theorem dX7_cleanse_54 : decode cX7_cleanse 54 = .ok (.iadd, 1) := by decide +kernel
theorem dX7_cleanse_55 : decode cX7_cleanse 55 = .ok (.istore_n 2, 1) := by decide +kernel
theorem dX7_cleanse_56 : decode cX7_cleanse 56 = .ok (.iinc 3 1, 3) := by decide +kernel
theorem dX7_cleanse_59 : decode cX7_cleanse 59 = .ok (.goto (-39), 3) := by decide +kernel
theorem dX7_cleanse_62 : decode cX7_cleanse 62 = .ok (.iload_n 2, 1) := by decide +kernel
theorem dX7_cleanse_63 : decode cX7_cleanse 63 = .ok (.ireturn, 1) := by decide +kernel
theorem dX7_checkAgent_0 : decode cX7_checkAgent 0 = .ok (.iload_n 1, 1) := by decide +kernel
theorem dX7_checkAgent_1 : decode cX7_checkAgent 1 = .ok (.ifCond .lt 17, 3) := by decide +kernel
theorem dX7_checkAgent_4 : decode cX7_checkAgent 4 = .ok (.iload_n 1, 1) := by decide +kernel
theorem dX7_checkAgent_5 : decode cX7_checkAgent 5 = .ok (.aload_n 0, 1) := by decide +kernel
theorem dX7_checkAgent_6 : decode cX7_checkAgent 6 = .ok (.getfield 31, 3) := by decide +kernel
theorem dX7_checkAgent_9 : decode cX7_checkAgent 9 = .ok (.getfield 87, 3) := by decide +kernel
theorem dX7_checkAgent_12 : decode cX7_checkAgent 12 = .ok (.getfield 91, 3) := by decide +kernel
theorem dX7_checkAgent_15 : decode cX7_checkAgent 15 = .ok (.if_icmp .lt 14, 3) := by decide +kernel
theorem dX7_checkAgent_18 : decode cX7_checkAgent 18 = .ok (.new 309, 3) := by decide +kernel
theorem dX7_checkAgent_21 : decode cX7_checkAgent 21 = .ok (.dup, 1) := by decide +kernel
theorem dX7_checkAgent_22 : decode cX7_checkAgent 22 = .ok (.ldc_w 317, 3) := by decide +kernel
theorem dX7_checkAgent_25 : decode cX7_checkAgent 25 = .ok (.invokespecial 313, 3) := by decide +kernel
theorem dX7_checkAgent_28 : decode cX7_checkAgent 28 = .ok (.athrow, 1) := by decide +kernel
theorem dX7_checkAgent_29 : decode cX7_checkAgent 29 = .ok (.return_, 1) := by decide +kernel
theorem dX7_checkWay_0 : decode cX7_checkWay 0 = .ok (.iload_n 1, 1) := by decide +kernel
theorem dX7_checkWay_1 : decode cX7_checkWay 1 = .ok (.ifCond .lt 17, 3) := by decide +kernel
theorem dX7_checkWay_4 : decode cX7_checkWay 4 = .ok (.iload_n 1, 1) := by decide +kernel
theorem dX7_checkWay_5 : decode cX7_checkWay 5 = .ok (.aload_n 0, 1) := by decide +kernel
theorem dX7_checkWay_6 : decode cX7_checkWay 6 = .ok (.getfield 31, 3) := by decide +kernel
theorem dX7_checkWay_9 : decode cX7_checkWay 9 = .ok (.getfield 106, 3) := by decide +kernel
theorem dX7_checkWay_12 : decode cX7_checkWay 12 = .ok (.getfield 91, 3) := by decide +kernel
theorem dX7_checkWay_15 : decode cX7_checkWay 15 = .ok (.if_icmp .lt 14, 3) := by decide +kernel
theorem dX7_checkWay_18 : decode cX7_checkWay 18 = .ok (.new 309, 3) := by decide +kernel
theorem dX7_checkWay_21 : decode cX7_checkWay 21 = .ok (.dup, 1) := by decide +kernel
theorem dX7_checkWay_22 : decode cX7_checkWay 22 = .ok (.ldc_w 319, 3) := by decide +kernel
theorem dX7_checkWay_25 : decode cX7_checkWay 25 = .ok (.invokespecial 313, 3) := by decide +kernel
theorem dX7_checkWay_28 : decode cX7_checkWay 28 = .ok (.athrow, 1) := by decide +kernel
theorem dX7_checkWay_29 : decode cX7_checkWay 29 = .ok (.return_, 1) := by decide +kernel
theorem dX7_checkReport_0 : decode cX7_checkReport 0 = .ok (.aload_n 0, 1) := by decide +kernel
theorem dX7_checkReport_1 : decode cX7_checkReport 1 = .ok (.iload_n 1, 1) := by decide +kernel
theorem dX7_checkReport_2 : decode cX7_checkReport 2 = .ok (.invokevirtual 127, 3) := by decide +kernel
theorem dX7_checkReport_5 : decode cX7_checkReport 5 = .ok (.iload_n 2, 1) := by decide +kernel
theorem dX7_checkReport_6 : decode cX7_checkReport 6 = .ok (.ifCond .lt 18, 3) := by decide +kernel
theorem dX7_checkReport_9 : decode cX7_checkReport 9 = .ok (.iload_n 2, 1) := by decide +kernel
theorem dX7_checkReport_10 : decode cX7_checkReport 10 = .ok (.aload_n 0, 1) := by decide +kernel
theorem dX7_checkReport_11 : decode cX7_checkReport 11 = .ok (.getfield 31, 3) := by decide +kernel
theorem dX7_checkReport_14 : decode cX7_checkReport 14 = .ok (.iload_n 1, 1) := by decide +kernel
theorem dX7_checkReport_15 : decode cX7_checkReport 15 = .ok (.invokevirtual 144, 3) := by decide +kernel
theorem dX7_checkReport_18 : decode cX7_checkReport 18 = .ok (.getfield 116, 3) := by decide +kernel
theorem dX7_checkReport_21 : decode cX7_checkReport 21 = .ok (.if_icmp .lt 14, 3) := by decide +kernel
theorem dX7_checkReport_24 : decode cX7_checkReport 24 = .ok (.new 309, 3) := by decide +kernel
theorem dX7_checkReport_27 : decode cX7_checkReport 27 = .ok (.dup, 1) := by decide +kernel
theorem dX7_checkReport_28 : decode cX7_checkReport 28 = .ok (.ldc_w 321, 3) := by decide +kernel
theorem dX7_checkReport_31 : decode cX7_checkReport 31 = .ok (.invokespecial 313, 3) := by decide +kernel
theorem dX7_checkReport_34 : decode cX7_checkReport 34 = .ok (.athrow, 1) := by decide +kernel
theorem dX7_checkReport_35 : decode cX7_checkReport 35 = .ok (.return_, 1) := by decide +kernel
theorem dX7_checkRange_0 : decode cX7_checkRange 0 = .ok (.iload_n 0, 1) := by decide +kernel
theorem dX7_checkRange_1 : decode cX7_checkRange 1 = .ok (.iload_n 1, 1) := by decide +kernel
theorem dX7_checkRange_2 : decode cX7_checkRange 2 = .ok (.if_icmp .lt 8, 3) := by decide +kernel
theorem dX7_checkRange_5 : decode cX7_checkRange 5 = .ok (.iload_n 0, 1) := by decide +kernel
theorem dX7_checkRange_6 : decode cX7_checkRange 6 = .ok (.iload_n 2, 1) := by decide +kernel
theorem dX7_checkRange_7 : decode cX7_checkRange 7 = .ok (.if_icmp .le 14, 3) := by decide +kernel
theorem dX7_checkRange_10 : decode cX7_checkRange 10 = .ok (.new 254, 3) := by decide +kernel
theorem dX7_checkRange_13 : decode cX7_checkRange 13 = .ok (.dup, 1) := by decide +kernel
theorem dX7_checkRange_14 : decode cX7_checkRange 14 = .ok (.ldc_w 325, 3) := by decide +kernel
theorem dX7_checkRange_17 : decode cX7_checkRange 17 = .ok (.invokespecial 258, 3) := by decide +kernel
theorem dX7_checkRange_20 : decode cX7_checkRange 20 = .ok (.athrow, 1) := by decide +kernel
theorem dX7_checkRange_21 : decode cX7_checkRange 21 = .ok (.return_, 1) := by decide +kernel
theorem dX7_checkBounds_0 : decode cX7_checkBounds 0 = .ok (.iload_n 0, 1) := by decide +kernel
theorem dX7_checkBounds_1 : decode cX7_checkBounds 1 = .ok (.iconst 0, 1) := by decide +kernel
theorem dX7_checkBounds_2 : decode cX7_checkBounds 2 = .ok (.sipush 999, 3) := by decide +kernel
theorem dX7_checkBounds_5 : decode cX7_checkBounds 5 = .ok (.invokestatic 72, 3) := by decide +kernel
theorem dX7_checkBounds_8 : decode cX7_checkBounds 8 = .ok (.iload_n 1, 1) := by decide +kernel
theorem dX7_checkBounds_9 : decode cX7_checkBounds 9 = .ok (.iload_n 0, 1) := by decide +kernel
theorem dX7_checkBounds_10 : decode cX7_checkBounds 10 = .ok (.sipush 999, 3) := by decide +kernel
theorem dX7_checkBounds_13 : decode cX7_checkBounds 13 = .ok (.invokestatic 72, 3) := by decide +kernel
theorem dX7_checkBounds_16 : decode cX7_checkBounds 16 = .ok (.return_, 1) := by decide +kernel
theorem dX7_isRuleValue_0 : decode cX7_isRuleValue 0 = .ok (.iload_n 0, 1) := by decide +kernel
theorem dX7_isRuleValue_1 : decode cX7_isRuleValue 1 = .ok (.ifCond .lt 30, 3) := by decide +kernel
theorem dX7_isRuleValue_4 : decode cX7_isRuleValue 4 = .ok (.iload_n 0, 1) := by decide +kernel
theorem dX7_isRuleValue_5 : decode cX7_isRuleValue 5 = .ok (.iconst 5, 1) := by decide +kernel
theorem dX7_isRuleValue_6 : decode cX7_isRuleValue 6 = .ok (.if_icmp .ge 25, 3) := by decide +kernel
theorem dX7_isRuleValue_9 : decode cX7_isRuleValue 9 = .ok (.iload_n 1, 1) := by decide +kernel
theorem dX7_isRuleValue_10 : decode cX7_isRuleValue 10 = .ok (.getstatic 327, 3) := by decide +kernel
theorem dX7_isRuleValue_13 : decode cX7_isRuleValue 13 = .ok (.iload_n 0, 1) := by decide +kernel
theorem dX7_isRuleValue_14 : decode cX7_isRuleValue 14 = .ok (.iaload, 1) := by decide +kernel
theorem dX7_isRuleValue_15 : decode cX7_isRuleValue 15 = .ok (.if_icmp .lt 16, 3) := by decide +kernel
theorem dX7_isRuleValue_18 : decode cX7_isRuleValue 18 = .ok (.iload_n 1, 1) := by decide +kernel
theorem dX7_isRuleValue_19 : decode cX7_isRuleValue 19 = .ok (.getstatic 331, 3) := by decide +kernel
theorem dX7_isRuleValue_22 : decode cX7_isRuleValue 22 = .ok (.iload_n 0, 1) := by decide +kernel
theorem dX7_isRuleValue_23 : decode cX7_isRuleValue 23 = .ok (.iaload, 1) := by decide +kernel
theorem dX7_isRuleValue_24 : decode cX7_isRuleValue 24 = .ok (.if_icmp .gt 7, 3) := by decide +kernel
theorem dX7_isRuleValue_27 : decode cX7_isRuleValue 27 = .ok (.iconst 1, 1) := by decide +kernel
theorem dX7_isRuleValue_28 : decode cX7_isRuleValue 28 = .ok (.goto 4, 3) := by decide +kernel
theorem dX7_isRuleValue_31 : decode cX7_isRuleValue 31 = .ok (.iconst 0, 1) := by decide +kernel
theorem dX7_isRuleValue_32 : decode cX7_isRuleValue 32 = .ok (.ireturn, 1) := by decide +kernel
theorem dX7_contains_0 : decode cX7_contains 0 = .ok (.iload_n 0, 1) := by decide +kernel
theorem dX7_contains_1 : decode cX7_contains 1 = .ok (.iload_n 1, 1) := by decide +kernel
theorem dX7_contains_2 : decode cX7_contains 2 = .ok (.ishr, 1) := by decide +kernel
theorem dX7_contains_3 : decode cX7_contains 3 = .ok (.iconst 1, 1) := by decide +kernel
theorem dX7_contains_4 : decode cX7_contains 4 = .ok (.iand, 1) := by decide +kernel
theorem dX7_contains_5 : decode cX7_contains 5 = .ok (.iconst 1, 1) := by decide +kernel
theorem dX7_contains_6 : decode cX7_contains 6 = .ok (.if_icmp .ne 7, 3) := by decide +kernel
theorem dX7_contains_9 : decode cX7_contains 9 = .ok (.iconst 1, 1) := by decide +kernel
theorem dX7_contains_10 : decode cX7_contains 10 = .ok (.goto 4, 3) := by decide +kernel
theorem dX7_contains_13 : decode cX7_contains 13 = .ok (.iconst 0, 1) := by decide +kernel
theorem dX7_contains_14 : decode cX7_contains 14 = .ok (.ireturn, 1) := by decide +kernel
theorem dX7_statusIn_0 : decode cX7_statusIn 0 = .ok (.aload_n 0, 1) := by decide +kernel
theorem dX7_statusIn_1 : decode cX7_statusIn 1 = .ok (.getfield 24, 3) := by decide +kernel
theorem dX7_statusIn_4 : decode cX7_statusIn 4 = .ok (.aload_n 0, 1) := by decide +kernel
theorem dX7_statusIn_5 : decode cX7_statusIn 5 = .ok (.getfield 31, 3) := by decide +kernel
theorem dX7_statusIn_8 : decode cX7_statusIn 8 = .ok (.iload_n 1, 1) := by decide +kernel
theorem dX7_statusIn_9 : decode cX7_statusIn 9 = .ok (.aload_n 0, 1) := by decide +kernel
theorem dX7_statusIn_10 : decode cX7_statusIn 10 = .ok (.getfield 31, 3) := by decide +kernel
theorem dX7_statusIn_13 : decode cX7_statusIn 13 = .ok (.iload_n 1, 1) := by decide +kernel
theorem dX7_statusIn_14 : decode cX7_statusIn 14 = .ok (.invokevirtual 144, 3) := by decide +kernel
theorem dX7_statusIn_17 : decode cX7_statusIn 17 = .ok (.iload_n 2, 1) := by decide +kernel
theorem dX7_statusIn_18 : decode cX7_statusIn 18 = .ok (.iconst 3, 1) := by decide +kernel
theorem dX7_statusIn_19 : decode cX7_statusIn 19 = .ok (.invokevirtual 152, 3) := by decide +kernel
theorem dX7_statusIn_22 : decode cX7_statusIn 22 = .ok (.iconst (-1), 1) := by decide +kernel
theorem dX7_statusIn_23 : decode cX7_statusIn 23 = .ok (.invokevirtual 181, 3) := by decide +kernel
theorem dX7_statusIn_26 : decode cX7_statusIn 26 = .ok (.aload_n 0, 1) := by decide +kernel
theorem dX7_statusIn_27 : decode cX7_statusIn 27 = .ok (.getfield 24, 3) := by decide +kernel
theorem dX7_statusIn_30 : decode cX7_statusIn 30 = .ok (.iload_n 2, 1) := by decide +kernel
theorem dX7_statusIn_31 : decode cX7_statusIn 31 = .ok (.invokevirtual 340, 3) := by decide +kernel
theorem dX7_statusIn_34 : decode cX7_statusIn 34 = .ok (.ireturn, 1) := by decide +kernel
theorem dX7_originsOf_0 : decode cX7_originsOf 0 = .ok (.aload_n 0, 1) := by decide +kernel
theorem dX7_originsOf_1 : decode cX7_originsOf 1 = .ok (.getfield 24, 3) := by decide +kernel
theorem dX7_originsOf_4 : decode cX7_originsOf 4 = .ok (.aload_n 0, 1) := by decide +kernel
theorem dX7_originsOf_5 : decode cX7_originsOf 5 = .ok (.getfield 31, 3) := by decide +kernel
theorem dX7_originsOf_8 : decode cX7_originsOf 8 = .ok (.iload_n 1, 1) := by decide +kernel
theorem dX7_originsOf_9 : decode cX7_originsOf 9 = .ok (.iload_n 2, 1) := by decide +kernel
theorem dX7_originsOf_10 : decode cX7_originsOf 10 = .ok (.iconst (-1), 1) := by decide +kernel
theorem dX7_originsOf_11 : decode cX7_originsOf 11 = .ok (.invokevirtual 181, 3) := by decide +kernel
theorem dX7_originsOf_14 : decode cX7_originsOf 14 = .ok (.aload_n 0, 1) := by decide +kernel
theorem dX7_originsOf_15 : decode cX7_originsOf 15 = .ok (.getfield 24, 3) := by decide +kernel
theorem dX7_originsOf_18 : decode cX7_originsOf 18 = .ok (.iload_n 3, 1) := by decide +kernel
theorem dX7_originsOf_19 : decode cX7_originsOf 19 = .ok (.invokevirtual 343, 3) := by decide +kernel
theorem dX7_originsOf_22 : decode cX7_originsOf 22 = .ok (.ireturn, 1) := by decide +kernel
theorem dX7_believed_0 : decode cX7_believed 0 = .ok (.aload_n 0, 1) := by decide +kernel
theorem dX7_believed_1 : decode cX7_believed 1 = .ok (.getfield 24, 3) := by decide +kernel
theorem dX7_believed_4 : decode cX7_believed 4 = .ok (.aload_n 1, 1) := by decide +kernel
theorem dX7_believed_5 : decode cX7_believed 5 = .ok (.iload_n 2, 1) := by decide +kernel
theorem dX7_believed_6 : decode cX7_believed 6 = .ok (.iload_n 3, 1) := by decide +kernel
theorem dX7_believed_7 : decode cX7_believed 7 = .ok (.iconst (-1), 1) := by decide +kernel
theorem dX7_believed_8 : decode cX7_believed 8 = .ok (.invokevirtual 181, 3) := by decide +kernel
theorem dX7_believed_11 : decode cX7_believed 11 = .ok (.iload 4, 2) := by decide +kernel
theorem dX7_believed_13 : decode cX7_believed 13 = .ok (.ifCond .ne 13, 3) := by decide +kernel
theorem dX7_believed_16 : decode cX7_believed 16 = .ok (.aload_n 0, 1) := by decide +kernel
theorem dX7_believed_17 : decode cX7_believed 17 = .ok (.getfield 24, 3) := by decide +kernel
theorem dX7_believed_20 : decode cX7_believed 20 = .ok (.getfield 294, 3) := by decide +kernel
theorem dX7_believed_23 : decode cX7_believed 23 = .ok (.goto 10, 3) := by decide +kernel
theorem dX7_believed_26 : decode cX7_believed 26 = .ok (.aload_n 0, 1) := by decide +kernel
theorem dX7_believed_27 : decode cX7_believed 27 = .ok (.getfield 24, 3) := by decide +kernel
theorem dX7_believed_30 : decode cX7_believed 30 = .ok (.getfield 297, 3) := by decide +kernel
theorem dX7_believed_33 : decode cX7_believed 33 = .ok (.ireturn, 1) := by decide +kernel
theorem dX7_widthOf_0 : decode cX7_widthOf 0 = .ok (.aload_n 0, 1) := by decide +kernel
theorem dX7_widthOf_1 : decode cX7_widthOf 1 = .ok (.getfield 24, 3) := by decide +kernel
theorem dX7_widthOf_4 : decode cX7_widthOf 4 = .ok (.aload_n 1, 1) := by decide +kernel
theorem dX7_widthOf_5 : decode cX7_widthOf 5 = .ok (.iload_n 2, 1) := by decide +kernel
theorem dX7_widthOf_6 : decode cX7_widthOf 6 = .ok (.iload_n 3, 1) := by decide +kernel
theorem dX7_widthOf_7 : decode cX7_widthOf 7 = .ok (.iload 4, 2) := by decide +kernel
theorem dX7_widthOf_9 : decode cX7_widthOf 9 = .ok (.invokevirtual 181, 3) := by decide +kernel
theorem dX7_widthOf_12 : decode cX7_widthOf 12 = .ok (.aload_n 0, 1) := by decide +kernel
theorem dX7_widthOf_13 : decode cX7_widthOf 13 = .ok (.getfield 24, 3) := by decide +kernel
theorem dX7_widthOf_16 : decode cX7_widthOf 16 = .ok (.getfield 297, 3) := by decide +kernel
theorem dX7_widthOf_19 : decode cX7_widthOf 19 = .ok (.aload_n 0, 1) := by decide +kernel
theorem dX7_widthOf_20 : decode cX7_widthOf 20 = .ok (.getfield 24, 3) := by decide +kernel
theorem dX7_widthOf_23 : decode cX7_widthOf 23 = .ok (.getfield 294, 3) := by decide +kernel
theorem dX7_widthOf_26 : decode cX7_widthOf 26 = .ok (.isub, 1) := by decide +kernel
theorem dX7_widthOf_27 : decode cX7_widthOf 27 = .ok (.ireturn, 1) := by decide +kernel
theorem dX7_bestWay_0 : decode cX7_bestWay 0 = .ok (.iconst (-1), 1) := by decide +kernel
theorem dX7_bestWay_1 : decode cX7_bestWay 1 = .ok (.istore 4, 2) := by decide +kernel
theorem dX7_bestWay_3 : decode cX7_bestWay 3 = .ok (.iconst 0, 1) := by decide +kernel
theorem dX7_bestWay_4 : decode cX7_bestWay 4 = .ok (.istore 5, 2) := by decide +kernel
theorem dX7_bestWay_6 : decode cX7_bestWay 6 = .ok (.iconst 0, 1) := by decide +kernel
theorem dX7_bestWay_7 : decode cX7_bestWay 7 = .ok (.istore 6, 2) := by decide +kernel
theorem dX7_bestWay_9 : decode cX7_bestWay 9 = .ok (.iload 6, 2) := by decide +kernel
theorem dX7_bestWay_11 : decode cX7_bestWay 11 = .ok (.aload_n 1, 1) := by decide +kernel
theorem dX7_bestWay_12 : decode cX7_bestWay 12 = .ok (.getfield 106, 3) := by decide +kernel
theorem dX7_bestWay_15 : decode cX7_bestWay 15 = .ok (.getfield 91, 3) := by decide +kernel
theorem dX7_bestWay_18 : decode cX7_bestWay 18 = .ok (.if_icmp .ge 88, 3) := by decide +kernel
theorem dX7_bestWay_21 : decode cX7_bestWay 21 = .ok (.aload_n 0, 1) := by decide +kernel
theorem dX7_bestWay_22 : decode cX7_bestWay 22 = .ok (.getfield 24, 3) := by decide +kernel
theorem dX7_bestWay_25 : decode cX7_bestWay 25 = .ok (.aload_n 1, 1) := by decide +kernel
theorem dX7_bestWay_26 : decode cX7_bestWay 26 = .ok (.iload_n 2, 1) := by decide +kernel
theorem dX7_bestWay_27 : decode cX7_bestWay 27 = .ok (.iload 6, 2) := by decide +kernel
theorem dX7_bestWay_29 : decode cX7_bestWay 29 = .ok (.iconst (-1), 1) := by decide +kernel
theorem dX7_bestWay_30 : decode cX7_bestWay 30 = .ok (.invokevirtual 181, 3) := by decide +kernel
theorem dX7_bestWay_33 : decode cX7_bestWay 33 = .ok (.iload_n 3, 1) := by decide +kernel
theorem dX7_bestWay_34 : decode cX7_bestWay 34 = .ok (.ifCond .ne 13, 3) := by decide +kernel
theorem dX7_bestWay_37 : decode cX7_bestWay 37 = .ok (.aload_n 0, 1) := by decide +kernel
theorem dX7_bestWay_38 : decode cX7_bestWay 38 = .ok (.getfield 24, 3) := by decide +kernel
theorem dX7_bestWay_41 : decode cX7_bestWay 41 = .ok (.getfield 297, 3) := by decide +kernel
theorem dX7_bestWay_44 : decode cX7_bestWay 44 = .ok (.goto 33, 3) := by decide +kernel
theorem dX7_bestWay_47 : decode cX7_bestWay 47 = .ok (.iload_n 3, 1) := by decide +kernel
theorem dX7_bestWay_48 : decode cX7_bestWay 48 = .ok (.iconst 1, 1) := by decide +kernel
theorem dX7_bestWay_49 : decode cX7_bestWay 49 = .ok (.if_icmp .ne 13, 3) := by decide +kernel
theorem dX7_bestWay_52 : decode cX7_bestWay 52 = .ok (.aload_n 0, 1) := by decide +kernel
theorem dX7_bestWay_53 : decode cX7_bestWay 53 = .ok (.getfield 24, 3) := by decide +kernel
theorem dX7_bestWay_56 : decode cX7_bestWay 56 = .ok (.getfield 294, 3) := by decide +kernel
theorem dX7_bestWay_59 : decode cX7_bestWay 59 = .ok (.goto 18, 3) := by decide +kernel
theorem dX7_bestWay_62 : decode cX7_bestWay 62 = .ok (.aload_n 0, 1) := by decide +kernel
theorem dX7_bestWay_63 : decode cX7_bestWay 63 = .ok (.getfield 24, 3) := by decide +kernel
theorem dX7_bestWay_66 : decode cX7_bestWay 66 = .ok (.getfield 294, 3) := by decide +kernel
theorem dX7_bestWay_69 : decode cX7_bestWay 69 = .ok (.aload_n 0, 1) := by decide +kernel
theorem dX7_bestWay_70 : decode cX7_bestWay 70 = .ok (.getfield 24, 3) := by decide +kernel
theorem dX7_bestWay_73 : decode cX7_bestWay 73 = .ok (.getfield 297, 3) := by decide +kernel
theorem dX7_bestWay_76 : decode cX7_bestWay 76 = .ok (.iadd, 1) := by decide +kernel
theorem dX7_bestWay_77 : decode cX7_bestWay 77 = .ok (.istore 7, 2) := by decide +kernel
theorem dX7_bestWay_79 : decode cX7_bestWay 79 = .ok (.iload 4, 2) := by decide +kernel
theorem dX7_bestWay_81 : decode cX7_bestWay 81 = .ok (.iconst (-1), 1) := by decide +kernel
theorem dX7_bestWay_82 : decode cX7_bestWay 82 = .ok (.if_icmp .eq 10, 3) := by decide +kernel
theorem dX7_bestWay_85 : decode cX7_bestWay 85 = .ok (.iload 7, 2) := by decide +kernel
theorem dX7_bestWay_87 : decode cX7_bestWay 87 = .ok (.iload 5, 2) := by decide +kernel
theorem dX7_bestWay_89 : decode cX7_bestWay 89 = .ok (.if_icmp .ge 11, 3) := by decide +kernel
theorem dX7_bestWay_92 : decode cX7_bestWay 92 = .ok (.iload 6, 2) := by decide +kernel
theorem dX7_bestWay_94 : decode cX7_bestWay 94 = .ok (.istore 4, 2) := by decide +kernel
theorem dX7_bestWay_96 : decode cX7_bestWay 96 = .ok (.iload 7, 2) := by decide +kernel
theorem dX7_bestWay_98 : decode cX7_bestWay 98 = .ok (.istore 5, 2) := by decide +kernel
theorem dX7_bestWay_100 : decode cX7_bestWay 100 = .ok (.iinc 6 1, 3) := by decide +kernel
theorem dX7_bestWay_103 : decode cX7_bestWay 103 = .ok (.goto (-94), 3) := by decide +kernel
theorem dX7_bestWay_106 : decode cX7_bestWay 106 = .ok (.iload 4, 2) := by decide +kernel
theorem dX7_bestWay_108 : decode cX7_bestWay 108 = .ok (.ireturn, 1) := by decide +kernel
theorem dX7_rivalsOf_0 : decode cX7_rivalsOf 0 = .ok (.iload_n 2, 1) := by decide +kernel
theorem dX7_rivalsOf_1 : decode cX7_rivalsOf 1 = .ok (.iconst (-1), 1) := by decide +kernel
theorem dX7_rivalsOf_2 : decode cX7_rivalsOf 2 = .ok (.if_icmp .ne 5, 3) := by decide +kernel
theorem dX7_rivalsOf_5 : decode cX7_rivalsOf 5 = .ok (.iconst 0, 1) := by decide +kernel
theorem dX7_rivalsOf_6 : decode cX7_rivalsOf 6 = .ok (.ireturn, 1) := by decide +kernel
theorem dX7_rivalsOf_7 : decode cX7_rivalsOf 7 = .ok (.aload_n 0, 1) := by decide +kernel
theorem dX7_rivalsOf_8 : decode cX7_rivalsOf 8 = .ok (.getfield 24, 3) := by decide +kernel
theorem dX7_rivalsOf_11 : decode cX7_rivalsOf 11 = .ok (.aload_n 0, 1) := by decide +kernel
theorem dX7_rivalsOf_12 : decode cX7_rivalsOf 12 = .ok (.getfield 31, 3) := by decide +kernel
theorem dX7_rivalsOf_15 : decode cX7_rivalsOf 15 = .ok (.iload_n 1, 1) := by decide +kernel
theorem dX7_rivalsOf_16 : decode cX7_rivalsOf 16 = .ok (.iload_n 2, 1) := by decide +kernel
theorem dX7_rivalsOf_17 : decode cX7_rivalsOf 17 = .ok (.iconst (-1), 1) := by decide +kernel
theorem dX7_rivalsOf_18 : decode cX7_rivalsOf 18 = .ok (.invokevirtual 181, 3) := by decide +kernel
theorem dX7_rivalsOf_21 : decode cX7_rivalsOf 21 = .ok (.aload_n 0, 1) := by decide +kernel
theorem dX7_rivalsOf_22 : decode cX7_rivalsOf 22 = .ok (.getfield 24, 3) := by decide +kernel
theorem dX7_rivalsOf_25 : decode cX7_rivalsOf 25 = .ok (.getfield 297, 3) := by decide +kernel
theorem dX7_rivalsOf_28 : decode cX7_rivalsOf 28 = .ok (.istore_n 3, 1) := by decide +kernel
theorem dX7_rivalsOf_29 : decode cX7_rivalsOf 29 = .ok (.iconst 0, 1) := by decide +kernel
theorem dX7_rivalsOf_30 : decode cX7_rivalsOf 30 = .ok (.istore 4, 2) := by decide +kernel
theorem dX7_rivalsOf_32 : decode cX7_rivalsOf 32 = .ok (.iconst 0, 1) := by decide +kernel
theorem dX7_rivalsOf_33 : decode cX7_rivalsOf 33 = .ok (.istore 5, 2) := by decide +kernel
theorem dX7_rivalsOf_35 : decode cX7_rivalsOf 35 = .ok (.iload 5, 2) := by decide +kernel
theorem dX7_rivalsOf_37 : decode cX7_rivalsOf 37 = .ok (.aload_n 0, 1) := by decide +kernel
theorem dX7_rivalsOf_38 : decode cX7_rivalsOf 38 = .ok (.getfield 31, 3) := by decide +kernel
theorem dX7_rivalsOf_41 : decode cX7_rivalsOf 41 = .ok (.getfield 106, 3) := by decide +kernel
theorem dX7_rivalsOf_44 : decode cX7_rivalsOf 44 = .ok (.getfield 91, 3) := by decide +kernel
theorem dX7_rivalsOf_47 : decode cX7_rivalsOf 47 = .ok (.if_icmp .ge 50, 3) := by decide +kernel
theorem dX7_rivalsOf_50 : decode cX7_rivalsOf 50 = .ok (.aload_n 0, 1) := by decide +kernel
theorem dX7_rivalsOf_51 : decode cX7_rivalsOf 51 = .ok (.getfield 24, 3) := by decide +kernel
theorem dX7_rivalsOf_54 : decode cX7_rivalsOf 54 = .ok (.aload_n 0, 1) := by decide +kernel
theorem dX7_rivalsOf_55 : decode cX7_rivalsOf 55 = .ok (.getfield 31, 3) := by decide +kernel
theorem dX7_rivalsOf_58 : decode cX7_rivalsOf 58 = .ok (.iload_n 1, 1) := by decide +kernel
theorem dX7_rivalsOf_59 : decode cX7_rivalsOf 59 = .ok (.iload 5, 2) := by decide +kernel
theorem dX7_rivalsOf_61 : decode cX7_rivalsOf 61 = .ok (.iconst (-1), 1) := by decide +kernel
theorem dX7_rivalsOf_62 : decode cX7_rivalsOf 62 = .ok (.invokevirtual 181, 3) := by decide +kernel
theorem dX7_rivalsOf_65 : decode cX7_rivalsOf 65 = .ok (.iload 5, 2) := by decide +kernel
theorem dX7_rivalsOf_67 : decode cX7_rivalsOf 67 = .ok (.iload_n 2, 1) := by decide +kernel
theorem dX7_rivalsOf_68 : decode cX7_rivalsOf 68 = .ok (.if_icmp .eq 23, 3) := by decide +kernel
theorem dX7_rivalsOf_71 : decode cX7_rivalsOf 71 = .ok (.aload_n 0, 1) := by decide +kernel
theorem dX7_rivalsOf_72 : decode cX7_rivalsOf 72 = .ok (.getfield 24, 3) := by decide +kernel
theorem dX7_rivalsOf_75 : decode cX7_rivalsOf 75 = .ok (.getfield 294, 3) := by decide +kernel
theorem dX7_rivalsOf_78 : decode cX7_rivalsOf 78 = .ok (.iload_n 3, 1) := by decide +kernel
theorem dX7_rivalsOf_79 : decode cX7_rivalsOf 79 = .ok (.if_icmp .ge 12, 3) := by decide +kernel
theorem dX7_rivalsOf_82 : decode cX7_rivalsOf 82 = .ok (.iload 4, 2) := by decide +kernel
theorem dX7_rivalsOf_84 : decode cX7_rivalsOf 84 = .ok (.iconst 1, 1) := by decide +kernel
theorem dX7_rivalsOf_85 : decode cX7_rivalsOf 85 = .ok (.iload 5, 2) := by decide +kernel
theorem dX7_rivalsOf_87 : decode cX7_rivalsOf 87 = .ok (.ishl, 1) := by decide +kernel
theorem dX7_rivalsOf_88 : decode cX7_rivalsOf 88 = .ok (.ior, 1) := by decide +kernel
theorem dX7_rivalsOf_89 : decode cX7_rivalsOf 89 = .ok (.istore 4, 2) := by decide +kernel
theorem dX7_rivalsOf_91 : decode cX7_rivalsOf 91 = .ok (.iinc 5 1, 3) := by decide +kernel
theorem dX7_rivalsOf_94 : decode cX7_rivalsOf 94 = .ok (.goto (-59), 3) := by decide +kernel
theorem dX7_rivalsOf_97 : decode cX7_rivalsOf 97 = .ok (.iload 4, 2) := by decide +kernel
theorem dX7_rivalsOf_99 : decode cX7_rivalsOf 99 = .ok (.ireturn, 1) := by decide +kernel
theorem dJ5_init_a7421_0 : decode cJ5_init_a7421 0 = .ok (.aload_n 0, 1) := by decide +kernel
theorem dJ5_init_a7421_1 : decode cJ5_init_a7421 1 = .ok (.invokespecial 3, 3) := by decide +kernel
theorem dJ5_init_a7421_4 : decode cJ5_init_a7421 4 = .ok (.aload_n 1, 1) := by decide +kernel
theorem dJ5_init_a7421_5 : decode cJ5_init_a7421 5 = .ok (.invokevirtual 32, 3) := by decide +kernel
theorem dJ5_init_a7421_8 : decode cJ5_init_a7421 8 = .ok (.istore_n 2, 1) := by decide +kernel
theorem dJ5_init_a7421_9 : decode cJ5_init_a7421 9 = .ok (.iload_n 2, 1) := by decide +kernel
theorem dJ5_init_a7421_10 : decode cJ5_init_a7421 10 = .ok (.ldc 38, 2) := by decide +kernel
theorem dJ5_init_a7421_12 : decode cJ5_init_a7421 12 = .ok (.if_icmp .ge 10, 3) := by decide +kernel
theorem dJ5_init_a7421_15 : decode cJ5_init_a7421 15 = .ok (.iload_n 2, 1) := by decide +kernel
theorem dJ5_init_a7421_16 : decode cJ5_init_a7421 16 = .ok (.bipush 16, 2) := by decide +kernel
theorem dJ5_init_a7421_18 : decode cJ5_init_a7421 18 = .ok (.iadd, 1) := by decide +kernel
theorem dJ5_init_a7421_19 : decode cJ5_init_a7421 19 = .ok (.goto 5, 3) := by decide +kernel
theorem dJ5_init_a7421_22 : decode cJ5_init_a7421 22 = .ok (.ldc 39, 2) := by decide +kernel
theorem dJ5_init_a7421_24 : decode cJ5_init_a7421 24 = .ok (.istore_n 3, 1) := by decide +kernel
theorem dJ5_init_a7421_25 : decode cJ5_init_a7421 25 = .ok (.aload_n 1, 1) := by decide +kernel
theorem dJ5_init_a7421_26 : decode cJ5_init_a7421 26 = .ok (.invokevirtual 40, 3) := by decide +kernel
theorem dJ5_init_a7421_29 : decode cJ5_init_a7421 29 = .ok (.istore 4, 2) := by decide +kernel
theorem dJ5_init_a7421_31 : decode cJ5_init_a7421 31 = .ok (.aload_n 0, 1) := by decide +kernel
theorem dJ5_init_a7421_32 : decode cJ5_init_a7421 32 = .ok (.iload 4, 2) := by decide +kernel
theorem dJ5_init_a7421_34 : decode cJ5_init_a7421 34 = .ok (.putfield 22, 3) := by decide +kernel
theorem dJ5_init_a7421_37 : decode cJ5_init_a7421 37 = .ok (.aload_n 0, 1) := by decide +kernel
theorem dJ5_init_a7421_38 : decode cJ5_init_a7421 38 = .ok (.iload 4, 2) := by decide +kernel
theorem dJ5_init_a7421_40 : decode cJ5_init_a7421 40 = .ok (.ifCond .ne 9, 3) := by decide +kernel
theorem dJ5_init_a7421_43 : decode cJ5_init_a7421 43 = .ok (.iload_n 3, 1) := by decide +kernel
theorem dJ5_init_a7421_44 : decode cJ5_init_a7421 44 = .ok (.newarray .byte, 2) := by decide +kernel
theorem dJ5_init_a7421_46 : decode cJ5_init_a7421 46 = .ok (.goto 7, 3) := by decide +kernel
theorem dJ5_init_a7421_49 : decode cJ5_init_a7421 49 = .ok (.iload_n 3, 1) := by decide +kernel
theorem dJ5_init_a7421_50 : decode cJ5_init_a7421 50 = .ok (.invokestatic 26, 3) := by decide +kernel
theorem dJ5_init_a7421_53 : decode cJ5_init_a7421 53 = .ok (.putfield 15, 3) := by decide +kernel
theorem dJ5_init_a7421_56 : decode cJ5_init_a7421 56 = .ok (.aload_n 0, 1) := by decide +kernel
theorem dJ5_init_a7421_57 : decode cJ5_init_a7421 57 = .ok (.aload_n 1, 1) := by decide +kernel
theorem dJ5_init_a7421_58 : decode cJ5_init_a7421 58 = .ok (.invokevirtual 43, 3) := by decide +kernel
theorem dJ5_init_a7421_61 : decode cJ5_init_a7421 61 = .ok (.pop, 1) := by decide +kernel
theorem dJ5_init_a7421_62 : decode cJ5_init_a7421 62 = .ok (.return_, 1) := by decide +kernel
theorem dJ5_length_8abf5_0 : decode cJ5_length_8abf5 0 = .ok (.aload_n 0, 1) := by decide +kernel
theorem dJ5_length_8abf5_1 : decode cJ5_length_8abf5 1 = .ok (.getfield 79, 3) := by decide +kernel
theorem dJ5_length_8abf5_4 : decode cJ5_length_8abf5 4 = .ok (.ireturn, 1) := by decide +kernel
theorem dJ5_ensureCapacityInternal_d00df_0 : decode cJ5_ensureCapacityInternal_d00df 0 = .ok (.aload_n 0, 1) := by decide +kernel
theorem dJ5_ensureCapacityInternal_d00df_1 : decode cJ5_ensureCapacityInternal_d00df 1 = .ok (.getfield 15, 3) := by decide +kernel
theorem dJ5_ensureCapacityInternal_d00df_4 : decode cJ5_ensureCapacityInternal_d00df 4 = .ok (.arraylength, 1) := by decide +kernel
theorem dJ5_ensureCapacityInternal_d00df_5 : decode cJ5_ensureCapacityInternal_d00df 5 = .ok (.aload_n 0, 1) := by decide +kernel
theorem dJ5_ensureCapacityInternal_d00df_6 : decode cJ5_ensureCapacityInternal_d00df 6 = .ok (.getfield 22, 3) := by decide +kernel
theorem dJ5_ensureCapacityInternal_d00df_9 : decode cJ5_ensureCapacityInternal_d00df 9 = .ok (.ishr, 1) := by decide +kernel
theorem dJ5_ensureCapacityInternal_d00df_10 : decode cJ5_ensureCapacityInternal_d00df 10 = .ok (.istore_n 2, 1) := by decide +kernel
theorem dJ5_ensureCapacityInternal_d00df_11 : decode cJ5_ensureCapacityInternal_d00df 11 = .ok (.iload_n 1, 1) := by decide +kernel
theorem dJ5_ensureCapacityInternal_d00df_12 : decode cJ5_ensureCapacityInternal_d00df 12 = .ok (.iload_n 2, 1) := by decide +kernel
theorem dJ5_ensureCapacityInternal_d00df_13 : decode cJ5_ensureCapacityInternal_d00df 13 = .ok (.isub, 1) := by decide +kernel
theorem dJ5_ensureCapacityInternal_d00df_14 : decode cJ5_ensureCapacityInternal_d00df 14 = .ok (.ifCond .le 24, 3) := by decide +kernel
theorem dJ5_ensureCapacityInternal_d00df_17 : decode cJ5_ensureCapacityInternal_d00df 17 = .ok (.aload_n 0, 1) := by decide +kernel
theorem dJ5_ensureCapacityInternal_d00df_18 : decode cJ5_ensureCapacityInternal_d00df 18 = .ok (.aload_n 0, 1) := by decide +kernel
theorem dJ5_ensureCapacityInternal_d00df_19 : decode cJ5_ensureCapacityInternal_d00df 19 = .ok (.getfield 15, 3) := by decide +kernel
theorem dJ5_ensureCapacityInternal_d00df_22 : decode cJ5_ensureCapacityInternal_d00df 22 = .ok (.aload_n 0, 1) := by decide +kernel
theorem dJ5_ensureCapacityInternal_d00df_23 : decode cJ5_ensureCapacityInternal_d00df 23 = .ok (.iload_n 1, 1) := by decide +kernel
theorem dJ5_ensureCapacityInternal_d00df_24 : decode cJ5_ensureCapacityInternal_d00df 24 = .ok (.invokevirtual 104, 3) := by decide +kernel
theorem dJ5_ensureCapacityInternal_d00df_27 : decode cJ5_ensureCapacityInternal_d00df 27 = .ok (.aload_n 0, 1) := by decide +kernel
theorem dJ5_ensureCapacityInternal_d00df_28 : decode cJ5_ensureCapacityInternal_d00df 28 = .ok (.getfield 22, 3) := by decide +kernel
theorem dJ5_ensureCapacityInternal_d00df_31 : decode cJ5_ensureCapacityInternal_d00df 31 = .ok (.ishl, 1) := by decide +kernel
theorem dJ5_ensureCapacityInternal_d00df_32 : decode cJ5_ensureCapacityInternal_d00df 32 = .ok (.invokestatic 108, 3) := by decide +kernel
theorem dJ5_ensureCapacityInternal_d00df_35 : decode cJ5_ensureCapacityInternal_d00df 35 = .ok (.putfield 15, 3) := by decide +kernel
theorem dJ5_ensureCapacityInternal_d00df_38 : decode cJ5_ensureCapacityInternal_d00df 38 = .ok (.return_, 1) := by decide +kernel
theorem dJ5_newCapacity_0f7a4_0 : decode cJ5_newCapacity_0f7a4 0 = .ok (.aload_n 0, 1) := by decide +kernel
theorem dJ5_newCapacity_0f7a4_1 : decode cJ5_newCapacity_0f7a4 1 = .ok (.getfield 15, 3) := by decide +kernel
theorem dJ5_newCapacity_0f7a4_4 : decode cJ5_newCapacity_0f7a4 4 = .ok (.arraylength, 1) := by decide +kernel
theorem dJ5_newCapacity_0f7a4_5 : decode cJ5_newCapacity_0f7a4 5 = .ok (.istore_n 2, 1) := by decide +kernel
theorem dJ5_newCapacity_0f7a4_6 : decode cJ5_newCapacity_0f7a4 6 = .ok (.iload_n 1, 1) := by decide +kernel
theorem dJ5_newCapacity_0f7a4_7 : decode cJ5_newCapacity_0f7a4 7 = .ok (.aload_n 0, 1) := by decide +kernel
theorem dJ5_newCapacity_0f7a4_8 : decode cJ5_newCapacity_0f7a4 8 = .ok (.getfield 22, 3) := by decide +kernel
theorem dJ5_newCapacity_0f7a4_11 : decode cJ5_newCapacity_0f7a4 11 = .ok (.ishl, 1) := by decide +kernel
theorem dJ5_newCapacity_0f7a4_12 : decode cJ5_newCapacity_0f7a4 12 = .ok (.istore_n 3, 1) := by decide +kernel
theorem dJ5_newCapacity_0f7a4_13 : decode cJ5_newCapacity_0f7a4 13 = .ok (.iload_n 3, 1) := by decide +kernel
theorem dJ5_newCapacity_0f7a4_14 : decode cJ5_newCapacity_0f7a4 14 = .ok (.iload_n 2, 1) := by decide +kernel
theorem dJ5_newCapacity_0f7a4_15 : decode cJ5_newCapacity_0f7a4 15 = .ok (.isub, 1) := by decide +kernel
theorem dJ5_newCapacity_0f7a4_16 : decode cJ5_newCapacity_0f7a4 16 = .ok (.istore 4, 2) := by decide +kernel
theorem dJ5_newCapacity_0f7a4_18 : decode cJ5_newCapacity_0f7a4 18 = .ok (.iload_n 2, 1) := by decide +kernel
theorem dJ5_newCapacity_0f7a4_19 : decode cJ5_newCapacity_0f7a4 19 = .ok (.iload 4, 2) := by decide +kernel
theorem dJ5_newCapacity_0f7a4_21 : decode cJ5_newCapacity_0f7a4 21 = .ok (.iload_n 2, 1) := by decide +kernel
theorem dJ5_newCapacity_0f7a4_22 : decode cJ5_newCapacity_0f7a4 22 = .ok (.iconst 2, 1) := by decide +kernel
theorem dJ5_newCapacity_0f7a4_23 : decode cJ5_newCapacity_0f7a4 23 = .ok (.aload_n 0, 1) := by decide +kernel
theorem dJ5_newCapacity_0f7a4_24 : decode cJ5_newCapacity_0f7a4 24 = .ok (.getfield 22, 3) := by decide +kernel
theorem dJ5_newCapacity_0f7a4_27 : decode cJ5_newCapacity_0f7a4 27 = .ok (.ishl, 1) := by decide +kernel
theorem dJ5_newCapacity_0f7a4_28 : decode cJ5_newCapacity_0f7a4 28 = .ok (.iadd, 1) := by decide +kernel
theorem dJ5_newCapacity_0f7a4_29 : decode cJ5_newCapacity_0f7a4 29 = .ok (.invokestatic 114, 3) := by decide +kernel
theorem dJ5_newCapacity_0f7a4_32 : decode cJ5_newCapacity_0f7a4 32 = .ok (.istore 5, 2) := by decide +kernel
theorem dJ5_newCapacity_0f7a4_34 : decode cJ5_newCapacity_0f7a4 34 = .ok (.iload 5, 2) := by decide +kernel
theorem dJ5_newCapacity_0f7a4_36 : decode cJ5_newCapacity_0f7a4 36 = .ok (.ldc 39, 2) := by decide +kernel
theorem dJ5_newCapacity_0f7a4_38 : decode cJ5_newCapacity_0f7a4 38 = .ok (.if_icmp .ne 13, 3) := by decide +kernel
theorem dJ5_newCapacity_0f7a4_41 : decode cJ5_newCapacity_0f7a4 41 = .ok (.new 120, 3) := by decide +kernel
theorem dJ5_newCapacity_0f7a4_44 : decode cJ5_newCapacity_0f7a4 44 = .ok (.dup, 1) := by decide +kernel
theorem dJ5_newCapacity_0f7a4_45 : decode cJ5_newCapacity_0f7a4 45 = .ok (.ldc 122, 2) := by decide +kernel
theorem dJ5_newCapacity_0f7a4_47 : decode cJ5_newCapacity_0f7a4 47 = .ok (.invokespecial 124, 3) := by decide +kernel
theorem dJ5_newCapacity_0f7a4_50 : decode cJ5_newCapacity_0f7a4 50 = .ok (.athrow, 1) := by decide +kernel
theorem dJ5_newCapacity_0f7a4_51 : decode cJ5_newCapacity_0f7a4 51 = .ok (.iload 5, 2) := by decide +kernel
theorem dJ5_newCapacity_0f7a4_53 : decode cJ5_newCapacity_0f7a4 53 = .ok (.aload_n 0, 1) := by decide +kernel
theorem dJ5_newCapacity_0f7a4_54 : decode cJ5_newCapacity_0f7a4 54 = .ok (.getfield 22, 3) := by decide +kernel
theorem dJ5_newCapacity_0f7a4_57 : decode cJ5_newCapacity_0f7a4 57 = .ok (.ishr, 1) := by decide +kernel
theorem dJ5_newCapacity_0f7a4_58 : decode cJ5_newCapacity_0f7a4 58 = .ok (.ireturn, 1) := by decide +kernel
theorem dJ5_inflate_da8c8_0 : decode cJ5_inflate_da8c8 0 = .ok (.aload_n 0, 1) := by decide +kernel
theorem dJ5_inflate_da8c8_1 : decode cJ5_inflate_da8c8 1 = .ok (.invokevirtual 83, 3) := by decide +kernel
theorem dJ5_inflate_da8c8_4 : decode cJ5_inflate_da8c8 4 = .ok (.ifCond .ne 4, 3) := by decide +kernel
theorem dJ5_inflate_da8c8_7 : decode cJ5_inflate_da8c8 7 = .ok (.return_, 1) := by decide +kernel
theorem dJ5_inflate_da8c8_8 : decode cJ5_inflate_da8c8 8 = .ok (.aload_n 0, 1) := by decide +kernel
theorem dJ5_inflate_da8c8_9 : decode cJ5_inflate_da8c8 9 = .ok (.getfield 15, 3) := by decide +kernel
theorem dJ5_inflate_da8c8_12 : decode cJ5_inflate_da8c8 12 = .ok (.arraylength, 1) := by decide +kernel
theorem dJ5_inflate_da8c8_13 : decode cJ5_inflate_da8c8 13 = .ok (.invokestatic 26, 3) := by decide +kernel
theorem dJ5_inflate_da8c8_16 : decode cJ5_inflate_da8c8 16 = .ok (.astore_n 1, 1) := by decide +kernel
theorem dJ5_inflate_da8c8_17 : decode cJ5_inflate_da8c8 17 = .ok (.aload_n 0, 1) := by decide +kernel
theorem dJ5_inflate_da8c8_18 : decode cJ5_inflate_da8c8 18 = .ok (.getfield 15, 3) := by decide +kernel
theorem dJ5_inflate_da8c8_21 : decode cJ5_inflate_da8c8 21 = .ok (.iconst 0, 1) := by decide +kernel
theorem dJ5_inflate_da8c8_22 : decode cJ5_inflate_da8c8 22 = .ok (.aload_n 1, 1) := by decide +kernel
theorem dJ5_inflate_da8c8_23 : decode cJ5_inflate_da8c8 23 = .ok (.iconst 0, 1) := by decide +kernel
theorem dJ5_inflate_da8c8_24 : decode cJ5_inflate_da8c8 24 = .ok (.aload_n 0, 1) := by decide +kernel
theorem dJ5_inflate_da8c8_25 : decode cJ5_inflate_da8c8 25 = .ok (.getfield 79, 3) := by decide +kernel
theorem dJ5_inflate_da8c8_28 : decode cJ5_inflate_da8c8 28 = .ok (.invokestatic 125, 3) := by decide +kernel
theorem dJ5_inflate_da8c8_31 : decode cJ5_inflate_da8c8 31 = .ok (.aload_n 0, 1) := by decide +kernel
theorem dJ5_inflate_da8c8_32 : decode cJ5_inflate_da8c8 32 = .ok (.aload_n 1, 1) := by decide +kernel
theorem dJ5_inflate_da8c8_33 : decode cJ5_inflate_da8c8 33 = .ok (.putfield 15, 3) := by decide +kernel
theorem dJ5_inflate_da8c8_36 : decode cJ5_inflate_da8c8 36 = .ok (.aload_n 0, 1) := by decide +kernel
theorem dJ5_inflate_da8c8_37 : decode cJ5_inflate_da8c8 37 = .ok (.iconst 1, 1) := by decide +kernel
theorem dJ5_inflate_da8c8_38 : decode cJ5_inflate_da8c8 38 = .ok (.putfield 22, 3) := by decide +kernel
theorem dJ5_inflate_da8c8_41 : decode cJ5_inflate_da8c8 41 = .ok (.return_, 1) := by decide +kernel
theorem dJ5_append_cf1ce_0 : decode cJ5_append_cf1ce 0 = .ok (.aload_n 1, 1) := by decide +kernel
theorem dJ5_append_cf1ce_1 : decode cJ5_append_cf1ce 1 = .ok (.ifnonnull 8, 3) := by decide +kernel
theorem dJ5_append_cf1ce_4 : decode cJ5_append_cf1ce 4 = .ok (.aload_n 0, 1) := by decide +kernel
theorem dJ5_append_cf1ce_5 : decode cJ5_append_cf1ce 5 = .ok (.invokevirtual 204, 3) := by decide +kernel
theorem dJ5_append_cf1ce_8 : decode cJ5_append_cf1ce 8 = .ok (.areturn, 1) := by decide +kernel
theorem dJ5_append_cf1ce_9 : decode cJ5_append_cf1ce 9 = .ok (.aload_n 1, 1) := by decide +kernel
theorem dJ5_append_cf1ce_10 : decode cJ5_append_cf1ce 10 = .ok (.invokevirtual 32, 3) := by decide +kernel
theorem dJ5_append_cf1ce_13 : decode cJ5_append_cf1ce 13 = .ok (.istore_n 2, 1) := by decide +kernel
theorem dJ5_append_cf1ce_14 : decode cJ5_append_cf1ce 14 = .ok (.aload_n 0, 1) := by decide +kernel
theorem dJ5_append_cf1ce_15 : decode cJ5_append_cf1ce 15 = .ok (.aload_n 0, 1) := by decide +kernel
theorem dJ5_append_cf1ce_16 : decode cJ5_append_cf1ce 16 = .ok (.getfield 79, 3) := by decide +kernel
theorem dJ5_append_cf1ce_19 : decode cJ5_append_cf1ce 19 = .ok (.iload_n 2, 1) := by decide +kernel
theorem dJ5_append_cf1ce_20 : decode cJ5_append_cf1ce 20 = .ok (.iadd, 1) := by decide +kernel
theorem dJ5_append_cf1ce_21 : decode cJ5_append_cf1ce 21 = .ok (.invokevirtual 100, 3) := by decide +kernel
theorem dJ5_append_cf1ce_24 : decode cJ5_append_cf1ce 24 = .ok (.aload_n 0, 1) := by decide +kernel
theorem dJ5_append_cf1ce_25 : decode cJ5_append_cf1ce 25 = .ok (.aload_n 0, 1) := by decide +kernel
theorem dJ5_append_cf1ce_26 : decode cJ5_append_cf1ce 26 = .ok (.getfield 79, 3) := by decide +kernel
theorem dJ5_append_cf1ce_29 : decode cJ5_append_cf1ce 29 = .ok (.aload_n 1, 1) := by decide +kernel
theorem dJ5_append_cf1ce_30 : decode cJ5_append_cf1ce 30 = .ok (.invokevirtual 208, 3) := by decide +kernel
theorem dJ5_append_cf1ce_33 : decode cJ5_append_cf1ce 33 = .ok (.aload_n 0, 1) := by decide +kernel
theorem dJ5_append_cf1ce_34 : decode cJ5_append_cf1ce 34 = .ok (.dup, 1) := by decide +kernel
theorem dJ5_append_cf1ce_35 : decode cJ5_append_cf1ce 35 = .ok (.getfield 79, 3) := by decide +kernel
theorem dJ5_append_cf1ce_38 : decode cJ5_append_cf1ce 38 = .ok (.iload_n 2, 1) := by decide +kernel
theorem dJ5_append_cf1ce_39 : decode cJ5_append_cf1ce 39 = .ok (.iadd, 1) := by decide +kernel
theorem dJ5_append_cf1ce_40 : decode cJ5_append_cf1ce 40 = .ok (.putfield 79, 3) := by decide +kernel
theorem dJ5_append_cf1ce_43 : decode cJ5_append_cf1ce 43 = .ok (.aload_n 0, 1) := by decide +kernel
theorem dJ5_append_cf1ce_44 : decode cJ5_append_cf1ce 44 = .ok (.areturn, 1) := by decide +kernel
theorem dJ5_appendNull_278bc_0 : decode cJ5_appendNull_278bc 0 = .ok (.aload_n 0, 1) := by decide +kernel
theorem dJ5_appendNull_278bc_1 : decode cJ5_appendNull_278bc 1 = .ok (.aload_n 0, 1) := by decide +kernel
theorem dJ5_appendNull_278bc_2 : decode cJ5_appendNull_278bc 2 = .ok (.getfield 79, 3) := by decide +kernel
theorem dJ5_appendNull_278bc_5 : decode cJ5_appendNull_278bc 5 = .ok (.iconst 4, 1) := by decide +kernel
theorem dJ5_appendNull_278bc_6 : decode cJ5_appendNull_278bc 6 = .ok (.iadd, 1) := by decide +kernel
theorem dJ5_appendNull_278bc_7 : decode cJ5_appendNull_278bc 7 = .ok (.invokevirtual 100, 3) := by decide +kernel
theorem dJ5_appendNull_278bc_10 : decode cJ5_appendNull_278bc 10 = .ok (.aload_n 0, 1) := by decide +kernel
theorem dJ5_appendNull_278bc_11 : decode cJ5_appendNull_278bc 11 = .ok (.getfield 79, 3) := by decide +kernel
theorem dJ5_appendNull_278bc_14 : decode cJ5_appendNull_278bc 14 = .ok (.istore_n 1, 1) := by decide +kernel
theorem dJ5_appendNull_278bc_15 : decode cJ5_appendNull_278bc 15 = .ok (.aload_n 0, 1) := by decide +kernel
theorem dJ5_appendNull_278bc_16 : decode cJ5_appendNull_278bc 16 = .ok (.getfield 15, 3) := by decide +kernel
theorem dJ5_appendNull_278bc_19 : decode cJ5_appendNull_278bc 19 = .ok (.astore_n 2, 1) := by decide +kernel
theorem dJ5_appendNull_278bc_20 : decode cJ5_appendNull_278bc 20 = .ok (.aload_n 0, 1) := by decide +kernel
theorem dJ5_appendNull_278bc_21 : decode cJ5_appendNull_278bc 21 = .ok (.invokevirtual 83, 3) := by decide +kernel
theorem dJ5_appendNull_278bc_24 : decode cJ5_appendNull_278bc 24 = .ok (.ifCond .eq 38, 3) := by decide +kernel
theorem dJ5_appendNull_278bc_27 : decode cJ5_appendNull_278bc 27 = .ok (.aload_n 2, 1) := by decide +kernel
theorem dJ5_appendNull_278bc_28 : decode cJ5_appendNull_278bc 28 = .ok (.iload_n 1, 1) := by decide +kernel
theorem dJ5_appendNull_278bc_29 : decode cJ5_appendNull_278bc 29 = .ok (.iinc 1 1, 3) := by decide +kernel
theorem dJ5_appendNull_278bc_32 : decode cJ5_appendNull_278bc 32 = .ok (.bipush 110, 2) := by decide +kernel
theorem dJ5_appendNull_278bc_34 : decode cJ5_appendNull_278bc 34 = .ok (.bastore, 1) := by decide +kernel
theorem dJ5_appendNull_278bc_35 : decode cJ5_appendNull_278bc 35 = .ok (.aload_n 2, 1) := by decide +kernel
theorem dJ5_appendNull_278bc_36 : decode cJ5_appendNull_278bc 36 = .ok (.iload_n 1, 1) := by decide +kernel
theorem dJ5_appendNull_278bc_37 : decode cJ5_appendNull_278bc 37 = .ok (.iinc 1 1, 3) := by decide +kernel
theorem dJ5_appendNull_278bc_40 : decode cJ5_appendNull_278bc 40 = .ok (.bipush 117, 2) := by decide +kernel
theorem dJ5_appendNull_278bc_42 : decode cJ5_appendNull_278bc 42 = .ok (.bastore, 1) := by decide +kernel
theorem dJ5_appendNull_278bc_43 : decode cJ5_appendNull_278bc 43 = .ok (.aload_n 2, 1) := by decide +kernel
theorem dJ5_appendNull_278bc_44 : decode cJ5_appendNull_278bc 44 = .ok (.iload_n 1, 1) := by decide +kernel
theorem dJ5_appendNull_278bc_45 : decode cJ5_appendNull_278bc 45 = .ok (.iinc 1 1, 3) := by decide +kernel
theorem dJ5_appendNull_278bc_48 : decode cJ5_appendNull_278bc 48 = .ok (.bipush 108, 2) := by decide +kernel
theorem dJ5_appendNull_278bc_50 : decode cJ5_appendNull_278bc 50 = .ok (.bastore, 1) := by decide +kernel
theorem dJ5_appendNull_278bc_51 : decode cJ5_appendNull_278bc 51 = .ok (.aload_n 2, 1) := by decide +kernel
theorem dJ5_appendNull_278bc_52 : decode cJ5_appendNull_278bc 52 = .ok (.iload_n 1, 1) := by decide +kernel
theorem dJ5_appendNull_278bc_53 : decode cJ5_appendNull_278bc 53 = .ok (.iinc 1 1, 3) := by decide +kernel
theorem dJ5_appendNull_278bc_56 : decode cJ5_appendNull_278bc 56 = .ok (.bipush 108, 2) := by decide +kernel
theorem dJ5_appendNull_278bc_58 : decode cJ5_appendNull_278bc 58 = .ok (.bastore, 1) := by decide +kernel
theorem dJ5_appendNull_278bc_59 : decode cJ5_appendNull_278bc 59 = .ok (.goto 17, 3) := by decide +kernel
theorem dJ5_appendNull_278bc_62 : decode cJ5_appendNull_278bc 62 = .ok (.aload_n 2, 1) := by decide +kernel
theorem dJ5_appendNull_278bc_63 : decode cJ5_appendNull_278bc 63 = .ok (.iload_n 1, 1) := by decide +kernel
theorem dJ5_appendNull_278bc_64 : decode cJ5_appendNull_278bc 64 = .ok (.bipush 110, 2) := by decide +kernel
theorem dJ5_appendNull_278bc_66 : decode cJ5_appendNull_278bc 66 = .ok (.bipush 117, 2) := by decide +kernel
theorem dJ5_appendNull_278bc_68 : decode cJ5_appendNull_278bc 68 = .ok (.bipush 108, 2) := by decide +kernel
theorem dJ5_appendNull_278bc_70 : decode cJ5_appendNull_278bc 70 = .ok (.bipush 108, 2) := by decide +kernel
theorem dJ5_appendNull_278bc_72 : decode cJ5_appendNull_278bc 72 = .ok (.invokestatic 226, 3) := by decide +kernel
theorem dJ5_appendNull_278bc_75 : decode cJ5_appendNull_278bc 75 = .ok (.istore_n 1, 1) := by decide +kernel
theorem dJ5_appendNull_278bc_76 : decode cJ5_appendNull_278bc 76 = .ok (.aload_n 0, 1) := by decide +kernel
theorem dJ5_appendNull_278bc_77 : decode cJ5_appendNull_278bc 77 = .ok (.iload_n 1, 1) := by decide +kernel
theorem dJ5_appendNull_278bc_78 : decode cJ5_appendNull_278bc 78 = .ok (.putfield 79, 3) := by decide +kernel
theorem dJ5_appendNull_278bc_81 : decode cJ5_appendNull_278bc 81 = .ok (.aload_n 0, 1) := by decide +kernel
theorem dJ5_appendNull_278bc_82 : decode cJ5_appendNull_278bc 82 = .ok (.areturn, 1) := by decide +kernel
theorem dJ5_append_3fe6f_0 : decode cJ5_append_3fe6f 0 = .ok (.aload_n 0, 1) := by decide +kernel
theorem dJ5_append_3fe6f_1 : decode cJ5_append_3fe6f 1 = .ok (.aload_n 0, 1) := by decide +kernel
theorem dJ5_append_3fe6f_2 : decode cJ5_append_3fe6f 2 = .ok (.getfield 79, 3) := by decide +kernel
theorem dJ5_append_3fe6f_5 : decode cJ5_append_3fe6f 5 = .ok (.iconst 1, 1) := by decide +kernel
theorem dJ5_append_3fe6f_6 : decode cJ5_append_3fe6f 6 = .ok (.iadd, 1) := by decide +kernel
theorem dJ5_append_3fe6f_7 : decode cJ5_append_3fe6f 7 = .ok (.invokevirtual 100, 3) := by decide +kernel
theorem dJ5_append_3fe6f_10 : decode cJ5_append_3fe6f 10 = .ok (.aload_n 0, 1) := by decide +kernel
theorem dJ5_append_3fe6f_11 : decode cJ5_append_3fe6f 11 = .ok (.invokevirtual 83, 3) := by decide +kernel
theorem dJ5_append_3fe6f_14 : decode cJ5_append_3fe6f 14 = .ok (.ifCond .eq 31, 3) := by decide +kernel
theorem dJ5_append_3fe6f_17 : decode cJ5_append_3fe6f 17 = .ok (.iload_n 1, 1) := by decide +kernel
theorem dJ5_append_3fe6f_18 : decode cJ5_append_3fe6f 18 = .ok (.invokestatic 191, 3) := by decide +kernel
theorem dJ5_append_3fe6f_21 : decode cJ5_append_3fe6f 21 = .ok (.ifCond .eq 24, 3) := by decide +kernel
theorem dJ5_append_3fe6f_24 : decode cJ5_append_3fe6f 24 = .ok (.aload_n 0, 1) := by decide +kernel
theorem dJ5_append_3fe6f_25 : decode cJ5_append_3fe6f 25 = .ok (.getfield 15, 3) := by decide +kernel
theorem dJ5_append_3fe6f_28 : decode cJ5_append_3fe6f 28 = .ok (.aload_n 0, 1) := by decide +kernel
theorem dJ5_append_3fe6f_29 : decode cJ5_append_3fe6f 29 = .ok (.dup, 1) := by decide +kernel
theorem dJ5_append_3fe6f_30 : decode cJ5_append_3fe6f 30 = .ok (.getfield 79, 3) := by decide +kernel
theorem dJ5_append_3fe6f_33 : decode cJ5_append_3fe6f 33 = .ok (.dup_x1, 1) := by decide +kernel
theorem dJ5_append_3fe6f_34 : decode cJ5_append_3fe6f 34 = .ok (.iconst 1, 1) := by decide +kernel
theorem dJ5_append_3fe6f_35 : decode cJ5_append_3fe6f 35 = .ok (.iadd, 1) := by decide +kernel
theorem dJ5_append_3fe6f_36 : decode cJ5_append_3fe6f 36 = .ok (.putfield 79, 3) := by decide +kernel
theorem dJ5_append_3fe6f_39 : decode cJ5_append_3fe6f 39 = .ok (.iload_n 1, 1) := by decide +kernel
theorem dJ5_append_3fe6f_40 : decode cJ5_append_3fe6f 40 = .ok (.i2b, 1) := by decide +kernel
theorem dJ5_append_3fe6f_41 : decode cJ5_append_3fe6f 41 = .ok (.bastore, 1) := by decide +kernel
theorem dJ5_append_3fe6f_42 : decode cJ5_append_3fe6f 42 = .ok (.goto 33, 3) := by decide +kernel
theorem dJ5_append_3fe6f_45 : decode cJ5_append_3fe6f 45 = .ok (.aload_n 0, 1) := by decide +kernel
theorem dJ5_append_3fe6f_46 : decode cJ5_append_3fe6f 46 = .ok (.invokevirtual 83, 3) := by decide +kernel
theorem dJ5_append_3fe6f_49 : decode cJ5_append_3fe6f 49 = .ok (.ifCond .eq 7, 3) := by decide +kernel
theorem dJ5_append_3fe6f_52 : decode cJ5_append_3fe6f 52 = .ok (.aload_n 0, 1) := by decide +kernel
theorem dJ5_append_3fe6f_53 : decode cJ5_append_3fe6f 53 = .ok (.invokevirtual 195, 3) := by decide +kernel
theorem dJ5_append_3fe6f_56 : decode cJ5_append_3fe6f 56 = .ok (.aload_n 0, 1) := by decide +kernel
theorem dJ5_append_3fe6f_57 : decode cJ5_append_3fe6f 57 = .ok (.getfield 15, 3) := by decide +kernel
theorem dJ5_append_3fe6f_60 : decode cJ5_append_3fe6f 60 = .ok (.aload_n 0, 1) := by decide +kernel
theorem dJ5_append_3fe6f_61 : decode cJ5_append_3fe6f 61 = .ok (.dup, 1) := by decide +kernel
theorem dJ5_append_3fe6f_62 : decode cJ5_append_3fe6f 62 = .ok (.getfield 79, 3) := by decide +kernel
theorem dJ5_append_3fe6f_65 : decode cJ5_append_3fe6f 65 = .ok (.dup_x1, 1) := by decide +kernel
theorem dJ5_append_3fe6f_66 : decode cJ5_append_3fe6f 66 = .ok (.iconst 1, 1) := by decide +kernel
theorem dJ5_append_3fe6f_67 : decode cJ5_append_3fe6f 67 = .ok (.iadd, 1) := by decide +kernel
theorem dJ5_append_3fe6f_68 : decode cJ5_append_3fe6f 68 = .ok (.putfield 79, 3) := by decide +kernel
theorem dJ5_append_3fe6f_71 : decode cJ5_append_3fe6f 71 = .ok (.iload_n 1, 1) := by decide +kernel
theorem dJ5_append_3fe6f_72 : decode cJ5_append_3fe6f 72 = .ok (.invokestatic 197, 3) := by decide +kernel
theorem dJ5_append_3fe6f_75 : decode cJ5_append_3fe6f 75 = .ok (.aload_n 0, 1) := by decide +kernel
theorem dJ5_append_3fe6f_76 : decode cJ5_append_3fe6f 76 = .ok (.areturn, 1) := by decide +kernel
theorem dJ5_append_c97b9_0 : decode cJ5_append_c97b9 0 = .ok (.aload_n 0, 1) := by decide +kernel
theorem dJ5_append_c97b9_1 : decode cJ5_append_c97b9 1 = .ok (.getfield 79, 3) := by decide +kernel
theorem dJ5_append_c97b9_4 : decode cJ5_append_c97b9 4 = .ok (.istore_n 2, 1) := by decide +kernel
theorem dJ5_append_c97b9_5 : decode cJ5_append_c97b9 5 = .ok (.iload_n 2, 1) := by decide +kernel
theorem dJ5_append_c97b9_6 : decode cJ5_append_c97b9 6 = .ok (.iload_n 1, 1) := by decide +kernel
theorem dJ5_append_c97b9_7 : decode cJ5_append_c97b9 7 = .ok (.invokestatic 245, 3) := by decide +kernel
theorem dJ5_append_c97b9_10 : decode cJ5_append_c97b9 10 = .ok (.iadd, 1) := by decide +kernel
theorem dJ5_append_c97b9_11 : decode cJ5_append_c97b9 11 = .ok (.istore_n 3, 1) := by decide +kernel
theorem dJ5_append_c97b9_12 : decode cJ5_append_c97b9 12 = .ok (.aload_n 0, 1) := by decide +kernel
theorem dJ5_append_c97b9_13 : decode cJ5_append_c97b9 13 = .ok (.iload_n 3, 1) := by decide +kernel
theorem dJ5_append_c97b9_14 : decode cJ5_append_c97b9 14 = .ok (.invokevirtual 100, 3) := by decide +kernel
theorem dJ5_append_c97b9_17 : decode cJ5_append_c97b9 17 = .ok (.aload_n 0, 1) := by decide +kernel
theorem dJ5_append_c97b9_18 : decode cJ5_append_c97b9 18 = .ok (.invokevirtual 83, 3) := by decide +kernel
theorem dJ5_append_c97b9_21 : decode cJ5_append_c97b9 21 = .ok (.ifCond .eq 16, 3) := by decide +kernel
theorem dJ5_append_c97b9_24 : decode cJ5_append_c97b9 24 = .ok (.iload_n 1, 1) := by decide +kernel
theorem dJ5_append_c97b9_25 : decode cJ5_append_c97b9 25 = .ok (.iload_n 3, 1) := by decide +kernel
theorem dJ5_append_c97b9_26 : decode cJ5_append_c97b9 26 = .ok (.aload_n 0, 1) := by decide +kernel
theorem dJ5_append_c97b9_27 : decode cJ5_append_c97b9 27 = .ok (.getfield 15, 3) := by decide +kernel
theorem dJ5_append_c97b9_30 : decode cJ5_append_c97b9 30 = .ok (.invokestatic 248, 3) := by decide +kernel
theorem dJ5_append_c97b9_33 : decode cJ5_append_c97b9 33 = .ok (.pop, 1) := by decide +kernel
theorem dJ5_append_c97b9_34 : decode cJ5_append_c97b9 34 = .ok (.goto 14, 3) := by decide +kernel
theorem dJ5_append_c97b9_37 : decode cJ5_append_c97b9 37 = .ok (.iload_n 1, 1) := by decide +kernel
theorem dJ5_append_c97b9_38 : decode cJ5_append_c97b9 38 = .ok (.iload_n 2, 1) := by decide +kernel
theorem dJ5_append_c97b9_39 : decode cJ5_append_c97b9 39 = .ok (.iload_n 3, 1) := by decide +kernel
theorem dJ5_append_c97b9_40 : decode cJ5_append_c97b9 40 = .ok (.aload_n 0, 1) := by decide +kernel
theorem dJ5_append_c97b9_41 : decode cJ5_append_c97b9 41 = .ok (.getfield 15, 3) := by decide +kernel
theorem dJ5_append_c97b9_44 : decode cJ5_append_c97b9 44 = .ok (.invokestatic 251, 3) := by decide +kernel
theorem dJ5_append_c97b9_47 : decode cJ5_append_c97b9 47 = .ok (.pop, 1) := by decide +kernel
theorem dJ5_append_c97b9_48 : decode cJ5_append_c97b9 48 = .ok (.aload_n 0, 1) := by decide +kernel
theorem dJ5_append_c97b9_49 : decode cJ5_append_c97b9 49 = .ok (.iload_n 3, 1) := by decide +kernel
theorem dJ5_append_c97b9_50 : decode cJ5_append_c97b9 50 = .ok (.putfield 79, 3) := by decide +kernel
theorem dJ5_append_c97b9_53 : decode cJ5_append_c97b9 53 = .ok (.aload_n 0, 1) := by decide +kernel
theorem dJ5_append_c97b9_54 : decode cJ5_append_c97b9 54 = .ok (.areturn, 1) := by decide +kernel
theorem dJ5_getValue_6d5f1_0 : decode cJ5_getValue_6d5f1 0 = .ok (.aload_n 0, 1) := by decide +kernel
theorem dJ5_getValue_6d5f1_1 : decode cJ5_getValue_6d5f1 1 = .ok (.getfield 15, 3) := by decide +kernel
theorem dJ5_getValue_6d5f1_4 : decode cJ5_getValue_6d5f1 4 = .ok (.areturn, 1) := by decide +kernel
theorem dJ5_isLatin1_aae02_0 : decode cJ5_isLatin1_aae02 0 = .ok (.getstatic 18, 3) := by decide +kernel
theorem dJ5_isLatin1_aae02_3 : decode cJ5_isLatin1_aae02 3 = .ok (.ifCond .eq 14, 3) := by decide +kernel
theorem dJ5_isLatin1_aae02_6 : decode cJ5_isLatin1_aae02 6 = .ok (.aload_n 0, 1) := by decide +kernel
theorem dJ5_isLatin1_aae02_7 : decode cJ5_isLatin1_aae02 7 = .ok (.getfield 22, 3) := by decide +kernel
theorem dJ5_isLatin1_aae02_10 : decode cJ5_isLatin1_aae02 10 = .ok (.ifCond .ne 7, 3) := by decide +kernel
theorem dJ5_isLatin1_aae02_13 : decode cJ5_isLatin1_aae02 13 = .ok (.iconst 1, 1) := by decide +kernel
theorem dJ5_isLatin1_aae02_14 : decode cJ5_isLatin1_aae02 14 = .ok (.goto 4, 3) := by decide +kernel
theorem dJ5_isLatin1_aae02_17 : decode cJ5_isLatin1_aae02 17 = .ok (.iconst 0, 1) := by decide +kernel
theorem dJ5_isLatin1_aae02_18 : decode cJ5_isLatin1_aae02 18 = .ok (.ireturn, 1) := by decide +kernel
theorem dJ5_inflateIfNeededFor_a7421_0 : decode cJ5_inflateIfNeededFor_a7421 0 = .ok (.getstatic 18, 3) := by decide +kernel
theorem dJ5_inflateIfNeededFor_a7421_3 : decode cJ5_inflateIfNeededFor_a7421 3 = .ok (.ifCond .eq 18, 3) := by decide +kernel
theorem dJ5_inflateIfNeededFor_a7421_6 : decode cJ5_inflateIfNeededFor_a7421 6 = .ok (.aload_n 0, 1) := by decide +kernel
theorem dJ5_inflateIfNeededFor_a7421_7 : decode cJ5_inflateIfNeededFor_a7421 7 = .ok (.getfield 22, 3) := by decide +kernel
theorem dJ5_inflateIfNeededFor_a7421_10 : decode cJ5_inflateIfNeededFor_a7421 10 = .ok (.aload_n 1, 1) := by decide +kernel
theorem dJ5_inflateIfNeededFor_a7421_11 : decode cJ5_inflateIfNeededFor_a7421 11 = .ok (.invokevirtual 40, 3) := by decide +kernel
theorem dJ5_inflateIfNeededFor_a7421_14 : decode cJ5_inflateIfNeededFor_a7421 14 = .ok (.if_icmp .eq 7, 3) := by decide +kernel
theorem dJ5_inflateIfNeededFor_a7421_17 : decode cJ5_inflateIfNeededFor_a7421 17 = .ok (.aload_n 0, 1) := by decide +kernel
theorem dJ5_inflateIfNeededFor_a7421_18 : decode cJ5_inflateIfNeededFor_a7421 18 = .ok (.invokevirtual 195, 3) := by decide +kernel
theorem dJ5_inflateIfNeededFor_a7421_21 : decode cJ5_inflateIfNeededFor_a7421 21 = .ok (.return_, 1) := by decide +kernel
theorem dJ5_putStringAt_47b60_0 : decode cJ5_putStringAt_47b60 0 = .ok (.aload_n 0, 1) := by decide +kernel
theorem dJ5_putStringAt_47b60_1 : decode cJ5_putStringAt_47b60 1 = .ok (.aload_n 2, 1) := by decide +kernel
theorem dJ5_putStringAt_47b60_2 : decode cJ5_putStringAt_47b60 2 = .ok (.invokevirtual 397, 3) := by decide +kernel
theorem dJ5_putStringAt_47b60_5 : decode cJ5_putStringAt_47b60 5 = .ok (.aload_n 2, 1) := by decide +kernel
theorem dJ5_putStringAt_47b60_6 : decode cJ5_putStringAt_47b60 6 = .ok (.aload_n 0, 1) := by decide +kernel
theorem dJ5_putStringAt_47b60_7 : decode cJ5_putStringAt_47b60 7 = .ok (.getfield 15, 3) := by decide +kernel
theorem dJ5_putStringAt_47b60_10 : decode cJ5_putStringAt_47b60 10 = .ok (.iload_n 1, 1) := by decide +kernel
theorem dJ5_putStringAt_47b60_11 : decode cJ5_putStringAt_47b60 11 = .ok (.aload_n 0, 1) := by decide +kernel
theorem dJ5_putStringAt_47b60_12 : decode cJ5_putStringAt_47b60 12 = .ok (.getfield 22, 3) := by decide +kernel
theorem dJ5_putStringAt_47b60_15 : decode cJ5_putStringAt_47b60 15 = .ok (.invokevirtual 399, 3) := by decide +kernel
theorem dJ5_putStringAt_47b60_18 : decode cJ5_putStringAt_47b60 18 = .ok (.return_, 1) := by decide +kernel
theorem dJ6_getChars_ba4f3_0 : decode cJ6_getChars_ba4f3 0 = .ok (.iload_n 1, 1) := by decide +kernel
theorem dJ6_getChars_ba4f3_1 : decode cJ6_getChars_ba4f3 1 = .ok (.istore 5, 2) := by decide +kernel
theorem dJ6_getChars_ba4f3_3 : decode cJ6_getChars_ba4f3 3 = .ok (.iload_n 0, 1) := by decide +kernel
theorem dJ6_getChars_ba4f3_4 : decode cJ6_getChars_ba4f3 4 = .ok (.ifCond .ge 7, 3) := by decide +kernel
theorem dJ6_getChars_ba4f3_7 : decode cJ6_getChars_ba4f3 7 = .ok (.iconst 1, 1) := by decide +kernel
theorem dJ6_getChars_ba4f3_8 : decode cJ6_getChars_ba4f3 8 = .ok (.goto 4, 3) := by decide +kernel
theorem dJ6_getChars_ba4f3_11 : decode cJ6_getChars_ba4f3 11 = .ok (.iconst 0, 1) := by decide +kernel
theorem dJ6_getChars_ba4f3_12 : decode cJ6_getChars_ba4f3 12 = .ok (.istore 6, 2) := by decide +kernel
theorem dJ6_getChars_ba4f3_14 : decode cJ6_getChars_ba4f3 14 = .ok (.iload 6, 2) := by decide +kernel
theorem dJ6_getChars_ba4f3_16 : decode cJ6_getChars_ba4f3 16 = .ok (.ifCond .ne 6, 3) := by decide +kernel
theorem dJ6_getChars_ba4f3_19 : decode cJ6_getChars_ba4f3 19 = .ok (.iload_n 0, 1) := by decide +kernel
theorem dJ6_getChars_ba4f3_20 : decode cJ6_getChars_ba4f3 20 = .ok (.ineg, 1) := by decide +kernel
theorem dJ6_getChars_ba4f3_21 : decode cJ6_getChars_ba4f3 21 = .ok (.istore_n 0, 1) := by decide +kernel
theorem dJ6_getChars_ba4f3_22 : decode cJ6_getChars_ba4f3 22 = .ok (.iload_n 0, 1) := by decide +kernel
theorem dJ6_getChars_ba4f3_23 : decode cJ6_getChars_ba4f3 23 = .ok (.bipush (-100), 2) := by decide +kernel
theorem dJ6_getChars_ba4f3_25 : decode cJ6_getChars_ba4f3 25 = .ok (.if_icmp .gt 47, 3) := by decide +kernel
theorem dJ6_getChars_ba4f3_28 : decode cJ6_getChars_ba4f3 28 = .ok (.iload_n 0, 1) := by decide +kernel
theorem dJ6_getChars_ba4f3_29 : decode cJ6_getChars_ba4f3 29 = .ok (.bipush 100, 2) := by decide +kernel
theorem dJ6_getChars_ba4f3_31 : decode cJ6_getChars_ba4f3 31 = .ok (.idiv, 1) := by decide +kernel
theorem dJ6_getChars_ba4f3_32 : decode cJ6_getChars_ba4f3 32 = .ok (.istore_n 3, 1) := by decide +kernel
theorem dJ6_getChars_ba4f3_33 : decode cJ6_getChars_ba4f3 33 = .ok (.iload_n 3, 1) := by decide +kernel
theorem dJ6_getChars_ba4f3_34 : decode cJ6_getChars_ba4f3 34 = .ok (.bipush 100, 2) := by decide +kernel
theorem dJ6_getChars_ba4f3_36 : decode cJ6_getChars_ba4f3 36 = .ok (.imul, 1) := by decide +kernel
theorem dJ6_getChars_ba4f3_37 : decode cJ6_getChars_ba4f3 37 = .ok (.iload_n 0, 1) := by decide +kernel
theorem dJ6_getChars_ba4f3_38 : decode cJ6_getChars_ba4f3 38 = .ok (.isub, 1) := by decide +kernel
theorem dJ6_getChars_ba4f3_39 : decode cJ6_getChars_ba4f3 39 = .ok (.istore 4, 2) := by decide +kernel
theorem dJ6_getChars_ba4f3_41 : decode cJ6_getChars_ba4f3 41 = .ok (.iload_n 3, 1) := by decide +kernel
theorem dJ6_getChars_ba4f3_42 : decode cJ6_getChars_ba4f3 42 = .ok (.istore_n 0, 1) := by decide +kernel
theorem dJ6_getChars_ba4f3_43 : decode cJ6_getChars_ba4f3 43 = .ok (.aload_n 2, 1) := by decide +kernel
theorem dJ6_getChars_ba4f3_44 : decode cJ6_getChars_ba4f3 44 = .ok (.iinc 5 (-1), 3) := by decide +kernel
theorem dJ6_getChars_ba4f3_47 : decode cJ6_getChars_ba4f3 47 = .ok (.iload 5, 2) := by decide +kernel
theorem dJ6_getChars_ba4f3_49 : decode cJ6_getChars_ba4f3 49 = .ok (.getstatic 83, 3) := by decide +kernel
theorem dJ6_getChars_ba4f3_52 : decode cJ6_getChars_ba4f3 52 = .ok (.iload 4, 2) := by decide +kernel
theorem dJ6_getChars_ba4f3_54 : decode cJ6_getChars_ba4f3 54 = .ok (.baload, 1) := by decide +kernel
theorem dJ6_getChars_ba4f3_55 : decode cJ6_getChars_ba4f3 55 = .ok (.bastore, 1) := by decide +kernel
theorem dJ6_getChars_ba4f3_56 : decode cJ6_getChars_ba4f3 56 = .ok (.aload_n 2, 1) := by decide +kernel
theorem dJ6_getChars_ba4f3_57 : decode cJ6_getChars_ba4f3 57 = .ok (.iinc 5 (-1), 3) := by decide +kernel
theorem dJ6_getChars_ba4f3_60 : decode cJ6_getChars_ba4f3 60 = .ok (.iload 5, 2) := by decide +kernel
theorem dJ6_getChars_ba4f3_62 : decode cJ6_getChars_ba4f3 62 = .ok (.getstatic 87, 3) := by decide +kernel
theorem dJ6_getChars_ba4f3_65 : decode cJ6_getChars_ba4f3 65 = .ok (.iload 4, 2) := by decide +kernel
theorem dJ6_getChars_ba4f3_67 : decode cJ6_getChars_ba4f3 67 = .ok (.baload, 1) := by decide +kernel
theorem dJ6_getChars_ba4f3_68 : decode cJ6_getChars_ba4f3 68 = .ok (.bastore, 1) := by decide +kernel
theorem dJ6_getChars_ba4f3_69 : decode cJ6_getChars_ba4f3 69 = .ok (.goto (-47), 3) := by decide +kernel
theorem dJ6_getChars_ba4f3_72 : decode cJ6_getChars_ba4f3 72 = .ok (.aload_n 2, 1) := by decide +kernel
theorem dJ6_getChars_ba4f3_73 : decode cJ6_getChars_ba4f3 73 = .ok (.iinc 5 (-1), 3) := by decide +kernel
theorem dJ6_getChars_ba4f3_76 : decode cJ6_getChars_ba4f3 76 = .ok (.iload 5, 2) := by decide +kernel
theorem dJ6_getChars_ba4f3_78 : decode cJ6_getChars_ba4f3 78 = .ok (.getstatic 83, 3) := by decide +kernel
theorem dJ6_getChars_ba4f3_81 : decode cJ6_getChars_ba4f3 81 = .ok (.iload_n 0, 1) := by decide +kernel
theorem dJ6_getChars_ba4f3_82 : decode cJ6_getChars_ba4f3 82 = .ok (.ineg, 1) := by decide +kernel
theorem dJ6_getChars_ba4f3_83 : decode cJ6_getChars_ba4f3 83 = .ok (.baload, 1) := by decide +kernel
theorem dJ6_getChars_ba4f3_84 : decode cJ6_getChars_ba4f3 84 = .ok (.bastore, 1) := by decide +kernel
theorem dJ6_getChars_ba4f3_85 : decode cJ6_getChars_ba4f3 85 = .ok (.iload_n 0, 1) := by decide +kernel
theorem dJ6_getChars_ba4f3_86 : decode cJ6_getChars_ba4f3 86 = .ok (.bipush (-9), 2) := by decide +kernel
theorem dJ6_getChars_ba4f3_88 : decode cJ6_getChars_ba4f3 88 = .ok (.if_icmp .ge 16, 3) := by decide +kernel
theorem dJ6_getChars_ba4f3_91 : decode cJ6_getChars_ba4f3 91 = .ok (.aload_n 2, 1) := by decide +kernel
theorem dJ6_getChars_ba4f3_92 : decode cJ6_getChars_ba4f3 92 = .ok (.iinc 5 (-1), 3) := by decide +kernel
theorem dJ6_getChars_ba4f3_95 : decode cJ6_getChars_ba4f3 95 = .ok (.iload 5, 2) := by decide +kernel
theorem dJ6_getChars_ba4f3_97 : decode cJ6_getChars_ba4f3 97 = .ok (.getstatic 87, 3) := by decide +kernel
theorem dJ6_getChars_ba4f3_100 : decode cJ6_getChars_ba4f3 100 = .ok (.iload_n 0, 1) := by decide +kernel
theorem dJ6_getChars_ba4f3_101 : decode cJ6_getChars_ba4f3 101 = .ok (.ineg, 1) := by decide +kernel
theorem dJ6_getChars_ba4f3_102 : decode cJ6_getChars_ba4f3 102 = .ok (.baload, 1) := by decide +kernel
theorem dJ6_getChars_ba4f3_103 : decode cJ6_getChars_ba4f3 103 = .ok (.bastore, 1) := by decide +kernel
theorem dJ6_getChars_ba4f3_104 : decode cJ6_getChars_ba4f3 104 = .ok (.iload 6, 2) := by decide +kernel
theorem dJ6_getChars_ba4f3_106 : decode cJ6_getChars_ba4f3 106 = .ok (.ifCond .eq 12, 3) := by decide +kernel
theorem dJ6_getChars_ba4f3_109 : decode cJ6_getChars_ba4f3 109 = .ok (.aload_n 2, 1) := by decide +kernel
theorem dJ6_getChars_ba4f3_110 : decode cJ6_getChars_ba4f3 110 = .ok (.iinc 5 (-1), 3) := by decide +kernel
theorem dJ6_getChars_ba4f3_113 : decode cJ6_getChars_ba4f3 113 = .ok (.iload 5, 2) := by decide +kernel
theorem dJ6_getChars_ba4f3_115 : decode cJ6_getChars_ba4f3 115 = .ok (.bipush 45, 2) := by decide +kernel
theorem dJ6_getChars_ba4f3_117 : decode cJ6_getChars_ba4f3 117 = .ok (.bastore, 1) := by decide +kernel
theorem dJ6_getChars_ba4f3_118 : decode cJ6_getChars_ba4f3 118 = .ok (.iload 5, 2) := by decide +kernel
theorem dJ6_getChars_ba4f3_120 : decode cJ6_getChars_ba4f3 120 = .ok (.ireturn, 1) := by decide +kernel
theorem dJ6_stringSize_0f7a4_0 : decode cJ6_stringSize_0f7a4 0 = .ok (.iconst 1, 1) := by decide +kernel
theorem dJ6_stringSize_0f7a4_1 : decode cJ6_stringSize_0f7a4 1 = .ok (.istore_n 1, 1) := by decide +kernel
theorem dJ6_stringSize_0f7a4_2 : decode cJ6_stringSize_0f7a4 2 = .ok (.iload_n 0, 1) := by decide +kernel
theorem dJ6_stringSize_0f7a4_3 : decode cJ6_stringSize_0f7a4 3 = .ok (.ifCond .lt 8, 3) := by decide +kernel
theorem dJ6_stringSize_0f7a4_6 : decode cJ6_stringSize_0f7a4 6 = .ok (.iconst 0, 1) := by decide +kernel
theorem dJ6_stringSize_0f7a4_7 : decode cJ6_stringSize_0f7a4 7 = .ok (.istore_n 1, 1) := by decide +kernel
theorem dJ6_stringSize_0f7a4_8 : decode cJ6_stringSize_0f7a4 8 = .ok (.iload_n 0, 1) := by decide +kernel
theorem dJ6_stringSize_0f7a4_9 : decode cJ6_stringSize_0f7a4 9 = .ok (.ineg, 1) := by decide +kernel
theorem dJ6_stringSize_0f7a4_10 : decode cJ6_stringSize_0f7a4 10 = .ok (.istore_n 0, 1) := by decide +kernel
theorem dJ6_stringSize_0f7a4_11 : decode cJ6_stringSize_0f7a4 11 = .ok (.bipush (-10), 2) := by decide +kernel
theorem dJ6_stringSize_0f7a4_13 : decode cJ6_stringSize_0f7a4 13 = .ok (.istore_n 2, 1) := by decide +kernel
theorem dJ6_stringSize_0f7a4_14 : decode cJ6_stringSize_0f7a4 14 = .ok (.iconst 1, 1) := by decide +kernel
theorem dJ6_stringSize_0f7a4_15 : decode cJ6_stringSize_0f7a4 15 = .ok (.istore_n 3, 1) := by decide +kernel
theorem dJ6_stringSize_0f7a4_16 : decode cJ6_stringSize_0f7a4 16 = .ok (.iload_n 3, 1) := by decide +kernel
theorem dJ6_stringSize_0f7a4_17 : decode cJ6_stringSize_0f7a4 17 = .ok (.bipush 10, 2) := by decide +kernel
theorem dJ6_stringSize_0f7a4_19 : decode cJ6_stringSize_0f7a4 19 = .ok (.if_icmp .ge 23, 3) := by decide +kernel
theorem dJ6_stringSize_0f7a4_22 : decode cJ6_stringSize_0f7a4 22 = .ok (.iload_n 0, 1) := by decide +kernel
theorem dJ6_stringSize_0f7a4_23 : decode cJ6_stringSize_0f7a4 23 = .ok (.iload_n 2, 1) := by decide +kernel
theorem dJ6_stringSize_0f7a4_24 : decode cJ6_stringSize_0f7a4 24 = .ok (.if_icmp .le 7, 3) := by decide +kernel
theorem dJ6_stringSize_0f7a4_27 : decode cJ6_stringSize_0f7a4 27 = .ok (.iload_n 3, 1) := by decide +kernel
theorem dJ6_stringSize_0f7a4_28 : decode cJ6_stringSize_0f7a4 28 = .ok (.iload_n 1, 1) := by decide +kernel
theorem dJ6_stringSize_0f7a4_29 : decode cJ6_stringSize_0f7a4 29 = .ok (.iadd, 1) := by decide +kernel
theorem dJ6_stringSize_0f7a4_30 : decode cJ6_stringSize_0f7a4 30 = .ok (.ireturn, 1) := by decide +kernel
theorem dJ6_stringSize_0f7a4_31 : decode cJ6_stringSize_0f7a4 31 = .ok (.bipush 10, 2) := by decide +kernel
theorem dJ6_stringSize_0f7a4_33 : decode cJ6_stringSize_0f7a4 33 = .ok (.iload_n 2, 1) := by decide +kernel
theorem dJ6_stringSize_0f7a4_34 : decode cJ6_stringSize_0f7a4 34 = .ok (.imul, 1) := by decide +kernel
theorem dJ6_stringSize_0f7a4_35 : decode cJ6_stringSize_0f7a4 35 = .ok (.istore_n 2, 1) := by decide +kernel
theorem dJ6_stringSize_0f7a4_36 : decode cJ6_stringSize_0f7a4 36 = .ok (.iinc 3 1, 3) := by decide +kernel
theorem dJ6_stringSize_0f7a4_39 : decode cJ6_stringSize_0f7a4 39 = .ok (.goto (-23), 3) := by decide +kernel
theorem dJ6_stringSize_0f7a4_42 : decode cJ6_stringSize_0f7a4 42 = .ok (.bipush 10, 2) := by decide +kernel
theorem dJ6_stringSize_0f7a4_44 : decode cJ6_stringSize_0f7a4 44 = .ok (.iload_n 1, 1) := by decide +kernel
theorem dJ6_stringSize_0f7a4_45 : decode cJ6_stringSize_0f7a4 45 = .ok (.iadd, 1) := by decide +kernel
theorem dJ6_stringSize_0f7a4_46 : decode cJ6_stringSize_0f7a4 46 = .ok (.ireturn, 1) := by decide +kernel
theorem dJ6_bitCount_0f7a4_0 : decode cJ6_bitCount_0f7a4 0 = .ok (.iload_n 0, 1) := by decide +kernel
theorem dJ6_bitCount_0f7a4_1 : decode cJ6_bitCount_0f7a4 1 = .ok (.iload_n 0, 1) := by decide +kernel
theorem dJ6_bitCount_0f7a4_2 : decode cJ6_bitCount_0f7a4 2 = .ok (.iconst 1, 1) := by decide +kernel
theorem dJ6_bitCount_0f7a4_3 : decode cJ6_bitCount_0f7a4 3 = .ok (.iushr, 1) := by decide +kernel
theorem dJ6_bitCount_0f7a4_4 : decode cJ6_bitCount_0f7a4 4 = .ok (.ldc_w 265, 3) := by decide +kernel
theorem dJ6_bitCount_0f7a4_7 : decode cJ6_bitCount_0f7a4 7 = .ok (.iand, 1) := by decide +kernel
theorem dJ6_bitCount_0f7a4_8 : decode cJ6_bitCount_0f7a4 8 = .ok (.isub, 1) := by decide +kernel
theorem dJ6_bitCount_0f7a4_9 : decode cJ6_bitCount_0f7a4 9 = .ok (.istore_n 0, 1) := by decide +kernel
theorem dJ6_bitCount_0f7a4_10 : decode cJ6_bitCount_0f7a4 10 = .ok (.iload_n 0, 1) := by decide +kernel
theorem dJ6_bitCount_0f7a4_11 : decode cJ6_bitCount_0f7a4 11 = .ok (.ldc_w 266, 3) := by decide +kernel
theorem dJ6_bitCount_0f7a4_14 : decode cJ6_bitCount_0f7a4 14 = .ok (.iand, 1) := by decide +kernel
theorem dJ6_bitCount_0f7a4_15 : decode cJ6_bitCount_0f7a4 15 = .ok (.iload_n 0, 1) := by decide +kernel
theorem dJ6_bitCount_0f7a4_16 : decode cJ6_bitCount_0f7a4 16 = .ok (.iconst 2, 1) := by decide +kernel
theorem dJ6_bitCount_0f7a4_17 : decode cJ6_bitCount_0f7a4 17 = .ok (.iushr, 1) := by decide +kernel
theorem dJ6_bitCount_0f7a4_18 : decode cJ6_bitCount_0f7a4 18 = .ok (.ldc_w 266, 3) := by decide +kernel
theorem dJ6_bitCount_0f7a4_21 : decode cJ6_bitCount_0f7a4 21 = .ok (.iand, 1) := by decide +kernel
theorem dJ6_bitCount_0f7a4_22 : decode cJ6_bitCount_0f7a4 22 = .ok (.iadd, 1) := by decide +kernel
theorem dJ6_bitCount_0f7a4_23 : decode cJ6_bitCount_0f7a4 23 = .ok (.istore_n 0, 1) := by decide +kernel
theorem dJ6_bitCount_0f7a4_24 : decode cJ6_bitCount_0f7a4 24 = .ok (.iload_n 0, 1) := by decide +kernel
theorem dJ6_bitCount_0f7a4_25 : decode cJ6_bitCount_0f7a4 25 = .ok (.iload_n 0, 1) := by decide +kernel
theorem dJ6_bitCount_0f7a4_26 : decode cJ6_bitCount_0f7a4 26 = .ok (.iconst 4, 1) := by decide +kernel
theorem dJ6_bitCount_0f7a4_27 : decode cJ6_bitCount_0f7a4 27 = .ok (.iushr, 1) := by decide +kernel
theorem dJ6_bitCount_0f7a4_28 : decode cJ6_bitCount_0f7a4 28 = .ok (.iadd, 1) := by decide +kernel
theorem dJ6_bitCount_0f7a4_29 : decode cJ6_bitCount_0f7a4 29 = .ok (.ldc_w 267, 3) := by decide +kernel
theorem dJ6_bitCount_0f7a4_32 : decode cJ6_bitCount_0f7a4 32 = .ok (.iand, 1) := by decide +kernel
theorem dJ6_bitCount_0f7a4_33 : decode cJ6_bitCount_0f7a4 33 = .ok (.istore_n 0, 1) := by decide +kernel
theorem dJ6_bitCount_0f7a4_34 : decode cJ6_bitCount_0f7a4 34 = .ok (.iload_n 0, 1) := by decide +kernel
theorem dJ6_bitCount_0f7a4_35 : decode cJ6_bitCount_0f7a4 35 = .ok (.iload_n 0, 1) := by decide +kernel
theorem dJ6_bitCount_0f7a4_36 : decode cJ6_bitCount_0f7a4 36 = .ok (.bipush 8, 2) := by decide +kernel
theorem dJ6_bitCount_0f7a4_38 : decode cJ6_bitCount_0f7a4 38 = .ok (.iushr, 1) := by decide +kernel
theorem dJ6_bitCount_0f7a4_39 : decode cJ6_bitCount_0f7a4 39 = .ok (.iadd, 1) := by decide +kernel
theorem dJ6_bitCount_0f7a4_40 : decode cJ6_bitCount_0f7a4 40 = .ok (.istore_n 0, 1) := by decide +kernel
theorem dJ6_bitCount_0f7a4_41 : decode cJ6_bitCount_0f7a4 41 = .ok (.iload_n 0, 1) := by decide +kernel
theorem dJ6_bitCount_0f7a4_42 : decode cJ6_bitCount_0f7a4 42 = .ok (.iload_n 0, 1) := by decide +kernel
theorem dJ6_bitCount_0f7a4_43 : decode cJ6_bitCount_0f7a4 43 = .ok (.bipush 16, 2) := by decide +kernel
theorem dJ6_bitCount_0f7a4_45 : decode cJ6_bitCount_0f7a4 45 = .ok (.iushr, 1) := by decide +kernel
theorem dJ6_bitCount_0f7a4_46 : decode cJ6_bitCount_0f7a4 46 = .ok (.iadd, 1) := by decide +kernel
theorem dJ6_bitCount_0f7a4_47 : decode cJ6_bitCount_0f7a4 47 = .ok (.istore_n 0, 1) := by decide +kernel
theorem dJ6_bitCount_0f7a4_48 : decode cJ6_bitCount_0f7a4 48 = .ok (.iload_n 0, 1) := by decide +kernel
theorem dJ6_bitCount_0f7a4_49 : decode cJ6_bitCount_0f7a4 49 = .ok (.bipush 63, 2) := by decide +kernel
theorem dJ6_bitCount_0f7a4_51 : decode cJ6_bitCount_0f7a4 51 = .ok (.iand, 1) := by decide +kernel
theorem dJ6_bitCount_0f7a4_52 : decode cJ6_bitCount_0f7a4 52 = .ok (.ireturn, 1) := by decide +kernel
theorem dJ9_max_7cf53_0 : decode cJ9_max_7cf53 0 = .ok (.iload_n 0, 1) := by decide +kernel
theorem dJ9_max_7cf53_1 : decode cJ9_max_7cf53 1 = .ok (.iload_n 1, 1) := by decide +kernel
theorem dJ9_max_7cf53_2 : decode cJ9_max_7cf53 2 = .ok (.if_icmp .lt 7, 3) := by decide +kernel
theorem dJ9_max_7cf53_5 : decode cJ9_max_7cf53 5 = .ok (.iload_n 0, 1) := by decide +kernel
theorem dJ9_max_7cf53_6 : decode cJ9_max_7cf53 6 = .ok (.goto 4, 3) := by decide +kernel
theorem dJ9_max_7cf53_9 : decode cJ9_max_7cf53 9 = .ok (.iload_n 1, 1) := by decide +kernel
theorem dJ9_max_7cf53_10 : decode cJ9_max_7cf53 10 = .ok (.ireturn, 1) := by decide +kernel
theorem dJ9_min_7cf53_0 : decode cJ9_min_7cf53 0 = .ok (.iload_n 0, 1) := by decide +kernel
theorem dJ9_min_7cf53_1 : decode cJ9_min_7cf53 1 = .ok (.iload_n 1, 1) := by decide +kernel
theorem dJ9_min_7cf53_2 : decode cJ9_min_7cf53 2 = .ok (.if_icmp .gt 7, 3) := by decide +kernel
theorem dJ9_min_7cf53_5 : decode cJ9_min_7cf53 5 = .ok (.iload_n 0, 1) := by decide +kernel
theorem dJ9_min_7cf53_6 : decode cJ9_min_7cf53 6 = .ok (.goto 4, 3) := by decide +kernel
theorem dJ9_min_7cf53_9 : decode cJ9_min_7cf53 9 = .ok (.iload_n 1, 1) := by decide +kernel
theorem dJ9_min_7cf53_10 : decode cJ9_min_7cf53 10 = .ok (.ireturn, 1) := by decide +kernel
theorem dJ0_init_81219_0 : decode cJ0_init_81219 0 = .ok (.aload_n 0, 1) := by decide +kernel
theorem dJ0_init_81219_1 : decode cJ0_init_81219 1 = .ok (.aload_n 1, 1) := by decide +kernel
theorem dJ0_init_81219_2 : decode cJ0_init_81219 2 = .ok (.aconst_null, 1) := by decide +kernel
theorem dJ0_init_81219_3 : decode cJ0_init_81219 3 = .ok (.invokespecial 489, 3) := by decide +kernel
theorem dJ0_init_81219_6 : decode cJ0_init_81219 6 = .ok (.return_, 1) := by decide +kernel
theorem dJ0_length_8abf5_0 : decode cJ0_length_8abf5 0 = .ok (.aload_n 0, 1) := by decide +kernel
theorem dJ0_length_8abf5_1 : decode cJ0_length_8abf5 1 = .ok (.getfield 9, 3) := by decide +kernel
theorem dJ0_length_8abf5_4 : decode cJ0_length_8abf5 4 = .ok (.arraylength, 1) := by decide +kernel
theorem dJ0_length_8abf5_5 : decode cJ0_length_8abf5 5 = .ok (.aload_n 0, 1) := by decide +kernel
theorem dJ0_length_8abf5_6 : decode cJ0_length_8abf5 6 = .ok (.invokevirtual 335, 3) := by decide +kernel
theorem dJ0_length_8abf5_9 : decode cJ0_length_8abf5 9 = .ok (.ishr, 1) := by decide +kernel
theorem dJ0_length_8abf5_10 : decode cJ0_length_8abf5 10 = .ok (.ireturn, 1) := by decide +kernel
theorem dJ0_charAt_5068e_0 : decode cJ0_charAt_5068e 0 = .ok (.aload_n 0, 1) := by decide +kernel
theorem dJ0_charAt_5068e_1 : decode cJ0_charAt_5068e 1 = .ok (.invokevirtual 492, 3) := by decide +kernel
theorem dJ0_charAt_5068e_4 : decode cJ0_charAt_5068e 4 = .ok (.ifCond .eq 12, 3) := by decide +kernel
theorem dJ0_charAt_5068e_7 : decode cJ0_charAt_5068e 7 = .ok (.aload_n 0, 1) := by decide +kernel
theorem dJ0_charAt_5068e_8 : decode cJ0_charAt_5068e 8 = .ok (.getfield 9, 3) := by decide +kernel
theorem dJ0_charAt_5068e_11 : decode cJ0_charAt_5068e 11 = .ok (.iload_n 1, 1) := by decide +kernel
theorem dJ0_charAt_5068e_12 : decode cJ0_charAt_5068e 12 = .ok (.invokestatic 495, 3) := by decide +kernel
theorem dJ0_charAt_5068e_15 : decode cJ0_charAt_5068e 15 = .ok (.ireturn, 1) := by decide +kernel
theorem dJ0_charAt_5068e_16 : decode cJ0_charAt_5068e 16 = .ok (.aload_n 0, 1) := by decide +kernel
theorem dJ0_charAt_5068e_17 : decode cJ0_charAt_5068e 17 = .ok (.getfield 9, 3) := by decide +kernel
theorem dJ0_charAt_5068e_20 : decode cJ0_charAt_5068e 20 = .ok (.iload_n 1, 1) := by decide +kernel
theorem dJ0_charAt_5068e_21 : decode cJ0_charAt_5068e 21 = .ok (.invokestatic 498, 3) := by decide +kernel
theorem dJ0_charAt_5068e_24 : decode cJ0_charAt_5068e 24 = .ok (.ireturn, 1) := by decide +kernel
theorem dJ0_getBytes_840e7_0 : decode cJ0_getBytes_840e7 0 = .ok (.aload_n 0, 1) := by decide +kernel
theorem dJ0_getBytes_840e7_1 : decode cJ0_getBytes_840e7 1 = .ok (.invokevirtual 335, 3) := by decide +kernel
theorem dJ0_getBytes_840e7_4 : decode cJ0_getBytes_840e7 4 = .ok (.iload_n 3, 1) := by decide +kernel
theorem dJ0_getBytes_840e7_5 : decode cJ0_getBytes_840e7 5 = .ok (.if_icmp .ne 23, 3) := by decide +kernel
theorem dJ0_getBytes_840e7_8 : decode cJ0_getBytes_840e7 8 = .ok (.aload_n 0, 1) := by decide +kernel
theorem dJ0_getBytes_840e7_9 : decode cJ0_getBytes_840e7 9 = .ok (.getfield 9, 3) := by decide +kernel
theorem dJ0_getBytes_840e7_12 : decode cJ0_getBytes_840e7 12 = .ok (.iconst 0, 1) := by decide +kernel
theorem dJ0_getBytes_840e7_13 : decode cJ0_getBytes_840e7 13 = .ok (.aload_n 1, 1) := by decide +kernel
theorem dJ0_getBytes_840e7_14 : decode cJ0_getBytes_840e7 14 = .ok (.iload_n 2, 1) := by decide +kernel
theorem dJ0_getBytes_840e7_15 : decode cJ0_getBytes_840e7 15 = .ok (.iload_n 3, 1) := by decide +kernel
theorem dJ0_getBytes_840e7_16 : decode cJ0_getBytes_840e7 16 = .ok (.ishl, 1) := by decide +kernel
theorem dJ0_getBytes_840e7_17 : decode cJ0_getBytes_840e7 17 = .ok (.aload_n 0, 1) := by decide +kernel
theorem dJ0_getBytes_840e7_18 : decode cJ0_getBytes_840e7 18 = .ok (.getfield 9, 3) := by decide +kernel
theorem dJ0_getBytes_840e7_21 : decode cJ0_getBytes_840e7 21 = .ok (.arraylength, 1) := by decide +kernel
theorem dJ0_getBytes_840e7_22 : decode cJ0_getBytes_840e7 22 = .ok (.invokestatic 212, 3) := by decide +kernel
theorem dJ0_getBytes_840e7_25 : decode cJ0_getBytes_840e7 25 = .ok (.goto 18, 3) := by decide +kernel
theorem dJ0_getBytes_840e7_28 : decode cJ0_getBytes_840e7 28 = .ok (.aload_n 0, 1) := by decide +kernel
theorem dJ0_getBytes_840e7_29 : decode cJ0_getBytes_840e7 29 = .ok (.getfield 9, 3) := by decide +kernel
theorem dJ0_getBytes_840e7_32 : decode cJ0_getBytes_840e7 32 = .ok (.iconst 0, 1) := by decide +kernel
theorem dJ0_getBytes_840e7_33 : decode cJ0_getBytes_840e7 33 = .ok (.aload_n 1, 1) := by decide +kernel
theorem dJ0_getBytes_840e7_34 : decode cJ0_getBytes_840e7 34 = .ok (.iload_n 2, 1) := by decide +kernel
theorem dJ0_getBytes_840e7_35 : decode cJ0_getBytes_840e7 35 = .ok (.aload_n 0, 1) := by decide +kernel
theorem dJ0_getBytes_840e7_36 : decode cJ0_getBytes_840e7 36 = .ok (.getfield 9, 3) := by decide +kernel
theorem dJ0_getBytes_840e7_39 : decode cJ0_getBytes_840e7 39 = .ok (.arraylength, 1) := by decide +kernel
theorem dJ0_getBytes_840e7_40 : decode cJ0_getBytes_840e7 40 = .ok (.invokestatic 106, 3) := by decide +kernel
theorem dJ0_getBytes_840e7_43 : decode cJ0_getBytes_840e7 43 = .ok (.return_, 1) := by decide +kernel
theorem dJ0_init_db425_0 : decode cJ0_init_db425 0 = .ok (.aload_n 0, 1) := by decide +kernel
theorem dJ0_init_db425_1 : decode cJ0_init_db425 1 = .ok (.invokespecial 1, 3) := by decide +kernel
theorem dJ0_init_db425_4 : decode cJ0_init_db425 4 = .ok (.aload_n 1, 1) := by decide +kernel
theorem dJ0_init_db425_5 : decode cJ0_init_db425 5 = .ok (.invokevirtual 552, 3) := by decide +kernel
theorem dJ0_init_db425_8 : decode cJ0_init_db425 8 = .ok (.astore_n 3, 1) := by decide +kernel
theorem dJ0_init_db425_9 : decode cJ0_init_db425 9 = .ok (.aload_n 1, 1) := by decide +kernel
theorem dJ0_init_db425_10 : decode cJ0_init_db425 10 = .ok (.invokevirtual 549, 3) := by decide +kernel
theorem dJ0_init_db425_13 : decode cJ0_init_db425 13 = .ok (.istore 4, 2) := by decide +kernel
theorem dJ0_init_db425_15 : decode cJ0_init_db425 15 = .ok (.aload_n 1, 1) := by decide +kernel
theorem dJ0_init_db425_16 : decode cJ0_init_db425 16 = .ok (.invokevirtual 1047, 3) := by decide +kernel
theorem dJ0_init_db425_19 : decode cJ0_init_db425 19 = .ok (.ifCond .eq 22, 3) := by decide +kernel
theorem dJ0_init_db425_22 : decode cJ0_init_db425 22 = .ok (.aload_n 0, 1) := by decide +kernel
theorem dJ0_init_db425_23 : decode cJ0_init_db425 23 = .ok (.iconst 0, 1) := by decide +kernel
theorem dJ0_init_db425_24 : decode cJ0_init_db425 24 = .ok (.putfield 15, 3) := by decide +kernel
theorem dJ0_init_db425_27 : decode cJ0_init_db425 27 = .ok (.aload_n 0, 1) := by decide +kernel
theorem dJ0_init_db425_28 : decode cJ0_init_db425 28 = .ok (.aload_n 3, 1) := by decide +kernel
theorem dJ0_init_db425_29 : decode cJ0_init_db425 29 = .ok (.iconst 0, 1) := by decide +kernel
theorem dJ0_init_db425_30 : decode cJ0_init_db425 30 = .ok (.iload 4, 2) := by decide +kernel
theorem dJ0_init_db425_32 : decode cJ0_init_db425 32 = .ok (.invokestatic 54, 3) := by decide +kernel
theorem dJ0_init_db425_35 : decode cJ0_init_db425 35 = .ok (.putfield 9, 3) := by decide +kernel
theorem dJ0_init_db425_38 : decode cJ0_init_db425 38 = .ok (.goto 59, 3) := by decide +kernel
theorem dJ0_init_db425_41 : decode cJ0_init_db425 41 = .ok (.getstatic 38, 3) := by decide +kernel
theorem dJ0_init_db425_44 : decode cJ0_init_db425 44 = .ok (.ifCond .eq 35, 3) := by decide +kernel
theorem dJ0_init_db425_47 : decode cJ0_init_db425 47 = .ok (.aload_n 1, 1) := by decide +kernel
theorem dJ0_init_db425_48 : decode cJ0_init_db425 48 = .ok (.getfield 1048, 3) := by decide +kernel
theorem dJ0_init_db425_51 : decode cJ0_init_db425 51 = .ok (.ifCond .eq 28, 3) := by decide +kernel
theorem dJ0_init_db425_54 : decode cJ0_init_db425 54 = .ok (.aload_n 0, 1) := by decide +kernel
theorem dJ0_init_db425_55 : decode cJ0_init_db425 55 = .ok (.aload_n 3, 1) := by decide +kernel
theorem dJ0_init_db425_56 : decode cJ0_init_db425 56 = .ok (.iconst 0, 1) := by decide +kernel
theorem dJ0_init_db425_57 : decode cJ0_init_db425 57 = .ok (.iload 4, 2) := by decide +kernel
theorem dJ0_init_db425_59 : decode cJ0_init_db425 59 = .ok (.invokestatic 1051, 3) := by decide +kernel
theorem dJ0_init_db425_62 : decode cJ0_init_db425 62 = .ok (.putfield 9, 3) := by decide +kernel
theorem dJ0_init_db425_65 : decode cJ0_init_db425 65 = .ok (.aload_n 0, 1) := by decide +kernel
theorem dJ0_init_db425_66 : decode cJ0_init_db425 66 = .ok (.aload_n 0, 1) := by decide +kernel
theorem dJ0_init_db425_67 : decode cJ0_init_db425 67 = .ok (.getfield 9, 3) := by decide +kernel
theorem dJ0_init_db425_70 : decode cJ0_init_db425 70 = .ok (.iload 4, 2) := by decide +kernel
theorem dJ0_init_db425_72 : decode cJ0_init_db425 72 = .ok (.invokestatic 47, 3) := by decide +kernel
theorem dJ0_init_db425_75 : decode cJ0_init_db425 75 = .ok (.putfield 15, 3) := by decide +kernel
theorem dJ0_init_db425_78 : decode cJ0_init_db425 78 = .ok (.return_, 1) := by decide +kernel
theorem dJ0_init_db425_79 : decode cJ0_init_db425 79 = .ok (.aload_n 0, 1) := by decide +kernel
theorem dJ0_init_db425_80 : decode cJ0_init_db425 80 = .ok (.iconst 1, 1) := by decide +kernel
theorem dJ0_init_db425_81 : decode cJ0_init_db425 81 = .ok (.putfield 15, 3) := by decide +kernel
theorem dJ0_init_db425_84 : decode cJ0_init_db425 84 = .ok (.aload_n 0, 1) := by decide +kernel
theorem dJ0_init_db425_85 : decode cJ0_init_db425 85 = .ok (.aload_n 3, 1) := by decide +kernel
theorem dJ0_init_db425_86 : decode cJ0_init_db425 86 = .ok (.iconst 0, 1) := by decide +kernel
theorem dJ0_init_db425_87 : decode cJ0_init_db425 87 = .ok (.iload 4, 2) := by decide +kernel
theorem dJ0_init_db425_89 : decode cJ0_init_db425 89 = .ok (.iconst 1, 1) := by decide +kernel
theorem dJ0_init_db425_90 : decode cJ0_init_db425 90 = .ok (.ishl, 1) := by decide +kernel
theorem dJ0_init_db425_91 : decode cJ0_init_db425 91 = .ok (.invokestatic 54, 3) := by decide +kernel
theorem dJ0_init_db425_94 : decode cJ0_init_db425 94 = .ok (.putfield 9, 3) := by decide +kernel
theorem dJ0_init_db425_97 : decode cJ0_init_db425 97 = .ok (.return_, 1) := by decide +kernel
theorem dJ0_coder_7d493_0 : decode cJ0_coder_7d493 0 = .ok (.getstatic 38, 3) := by decide +kernel
theorem dJ0_coder_7d493_3 : decode cJ0_coder_7d493 3 = .ok (.ifCond .eq 10, 3) := by decide +kernel
theorem dJ0_coder_7d493_6 : decode cJ0_coder_7d493 6 = .ok (.aload_n 0, 1) := by decide +kernel
theorem dJ0_coder_7d493_7 : decode cJ0_coder_7d493 7 = .ok (.getfield 15, 3) := by decide +kernel
theorem dJ0_coder_7d493_10 : decode cJ0_coder_7d493 10 = .ok (.goto 4, 3) := by decide +kernel
theorem dJ0_coder_7d493_13 : decode cJ0_coder_7d493 13 = .ok (.iconst 1, 1) := by decide +kernel
theorem dJ0_coder_7d493_14 : decode cJ0_coder_7d493 14 = .ok (.ireturn, 1) := by decide +kernel
theorem dJ0_isLatin1_aae02_0 : decode cJ0_isLatin1_aae02 0 = .ok (.getstatic 38, 3) := by decide +kernel
theorem dJ0_isLatin1_aae02_3 : decode cJ0_isLatin1_aae02 3 = .ok (.ifCond .eq 14, 3) := by decide +kernel
theorem dJ0_isLatin1_aae02_6 : decode cJ0_isLatin1_aae02 6 = .ok (.aload_n 0, 1) := by decide +kernel
theorem dJ0_isLatin1_aae02_7 : decode cJ0_isLatin1_aae02 7 = .ok (.getfield 15, 3) := by decide +kernel
theorem dJ0_isLatin1_aae02_10 : decode cJ0_isLatin1_aae02 10 = .ok (.ifCond .ne 7, 3) := by decide +kernel
theorem dJ0_isLatin1_aae02_13 : decode cJ0_isLatin1_aae02 13 = .ok (.iconst 1, 1) := by decide +kernel
theorem dJ0_isLatin1_aae02_14 : decode cJ0_isLatin1_aae02 14 = .ok (.goto 4, 3) := by decide +kernel
theorem dJ0_isLatin1_aae02_17 : decode cJ0_isLatin1_aae02 17 = .ok (.iconst 0, 1) := by decide +kernel
theorem dJ0_isLatin1_aae02_18 : decode cJ0_isLatin1_aae02 18 = .ok (.ireturn, 1) := by decide +kernel
theorem dJ0_checkIndex_df160_0 : decode cJ0_checkIndex_df160 0 = .ok (.iload_n 0, 1) := by decide +kernel
theorem dJ0_checkIndex_df160_1 : decode cJ0_checkIndex_df160 1 = .ok (.iload_n 1, 1) := by decide +kernel
theorem dJ0_checkIndex_df160_2 : decode cJ0_checkIndex_df160 2 = .ok (.getstatic 1053, 3) := by decide +kernel
theorem dJ0_checkIndex_df160_5 : decode cJ0_checkIndex_df160 5 = .ok (.invokestatic 1059, 3) := by decide +kernel
theorem dJ0_checkIndex_df160_8 : decode cJ0_checkIndex_df160 8 = .ok (.pop, 1) := by decide +kernel
theorem dJ0_checkIndex_df160_9 : decode cJ0_checkIndex_df160 9 = .ok (.return_, 1) := by decide +kernel
theorem dJ0_checkBoundsOffCount_cabcc_0 : decode cJ0_checkBoundsOffCount_cabcc 0 = .ok (.iload_n 0, 1) := by decide +kernel
theorem dJ0_checkBoundsOffCount_cabcc_1 : decode cJ0_checkBoundsOffCount_cabcc 1 = .ok (.iload_n 1, 1) := by decide +kernel
theorem dJ0_checkBoundsOffCount_cabcc_2 : decode cJ0_checkBoundsOffCount_cabcc 2 = .ok (.iload_n 2, 1) := by decide +kernel
theorem dJ0_checkBoundsOffCount_cabcc_3 : decode cJ0_checkBoundsOffCount_cabcc 3 = .ok (.getstatic 1053, 3) := by decide +kernel
theorem dJ0_checkBoundsOffCount_cabcc_6 : decode cJ0_checkBoundsOffCount_cabcc 6 = .ok (.invokestatic 1065, 3) := by decide +kernel
theorem dJ0_checkBoundsOffCount_cabcc_9 : decode cJ0_checkBoundsOffCount_cabcc 9 = .ok (.ireturn, 1) := by decide +kernel
theorem dJ0_checkBoundsBeginEnd_23922_0 : decode cJ0_checkBoundsBeginEnd_23922 0 = .ok (.iload_n 0, 1) := by decide +kernel
theorem dJ0_checkBoundsBeginEnd_23922_1 : decode cJ0_checkBoundsBeginEnd_23922 1 = .ok (.iload_n 1, 1) := by decide +kernel
theorem dJ0_checkBoundsBeginEnd_23922_2 : decode cJ0_checkBoundsBeginEnd_23922 2 = .ok (.iload_n 2, 1) := by decide +kernel
theorem dJ0_checkBoundsBeginEnd_23922_3 : decode cJ0_checkBoundsBeginEnd_23922 3 = .ok (.getstatic 1053, 3) := by decide +kernel
theorem dJ0_checkBoundsBeginEnd_23922_6 : decode cJ0_checkBoundsBeginEnd_23922 6 = .ok (.invokestatic 1062, 3) := by decide +kernel
theorem dJ0_checkBoundsBeginEnd_23922_9 : decode cJ0_checkBoundsBeginEnd_23922 9 = .ok (.pop, 1) := by decide +kernel
theorem dJ0_checkBoundsBeginEnd_23922_10 : decode cJ0_checkBoundsBeginEnd_23922 10 = .ok (.return_, 1) := by decide +kernel
theorem dJ4_init_a7421_0 : decode cJ4_init_a7421 0 = .ok (.aload_n 0, 1) := by decide +kernel
theorem dJ4_init_a7421_1 : decode cJ4_init_a7421 1 = .ok (.aload_n 1, 1) := by decide +kernel
theorem dJ4_init_a7421_2 : decode cJ4_init_a7421 2 = .ok (.invokespecial 7, 3) := by decide +kernel
theorem dJ4_init_a7421_5 : decode cJ4_init_a7421 5 = .ok (.return_, 1) := by decide +kernel
theorem dJ4_append_15ec4_0 : decode cJ4_append_15ec4 0 = .ok (.aload_n 0, 1) := by decide +kernel
theorem dJ4_append_15ec4_1 : decode cJ4_append_15ec4 1 = .ok (.aload_n 1, 1) := by decide +kernel
theorem dJ4_append_15ec4_2 : decode cJ4_append_15ec4 2 = .ok (.invokespecial 29, 3) := by decide +kernel
theorem dJ4_append_15ec4_5 : decode cJ4_append_15ec4 5 = .ok (.pop, 1) := by decide +kernel
theorem dJ4_append_15ec4_6 : decode cJ4_append_15ec4 6 = .ok (.aload_n 0, 1) := by decide +kernel
theorem dJ4_append_15ec4_7 : decode cJ4_append_15ec4 7 = .ok (.areturn, 1) := by decide +kernel
theorem dJ4_append_cf468_0 : decode cJ4_append_cf468 0 = .ok (.aload_n 0, 1) := by decide +kernel
theorem dJ4_append_cf468_1 : decode cJ4_append_cf468 1 = .ok (.iload_n 1, 1) := by decide +kernel
theorem dJ4_append_cf468_2 : decode cJ4_append_cf468 2 = .ok (.invokespecial 50, 3) := by decide +kernel
theorem dJ4_append_cf468_5 : decode cJ4_append_cf468 5 = .ok (.pop, 1) := by decide +kernel
theorem dJ4_append_cf468_6 : decode cJ4_append_cf468 6 = .ok (.aload_n 0, 1) := by decide +kernel
theorem dJ4_append_cf468_7 : decode cJ4_append_cf468 7 = .ok (.areturn, 1) := by decide +kernel
theorem dJ4_append_bf812_0 : decode cJ4_append_bf812 0 = .ok (.aload_n 0, 1) := by decide +kernel
theorem dJ4_append_bf812_1 : decode cJ4_append_bf812 1 = .ok (.iload_n 1, 1) := by decide +kernel
theorem dJ4_append_bf812_2 : decode cJ4_append_bf812 2 = .ok (.invokespecial 53, 3) := by decide +kernel
theorem dJ4_append_bf812_5 : decode cJ4_append_bf812 5 = .ok (.pop, 1) := by decide +kernel
theorem dJ4_append_bf812_6 : decode cJ4_append_bf812 6 = .ok (.aload_n 0, 1) := by decide +kernel
theorem dJ4_append_bf812_7 : decode cJ4_append_bf812 7 = .ok (.areturn, 1) := by decide +kernel
theorem dJ4_toString_0e30d_0 : decode cJ4_toString_0e30d 0 = .ok (.new 18, 3) := by decide +kernel
theorem dJ4_toString_0e30d_3 : decode cJ4_toString_0e30d 3 = .ok (.dup, 1) := by decide +kernel
theorem dJ4_toString_0e30d_4 : decode cJ4_toString_0e30d 4 = .ok (.aload_n 0, 1) := by decide +kernel
theorem dJ4_toString_0e30d_5 : decode cJ4_toString_0e30d 5 = .ok (.invokespecial 137, 3) := by decide +kernel
theorem dJ4_toString_0e30d_8 : decode cJ4_toString_0e30d 8 = .ok (.areturn, 1) := by decide +kernel
theorem dJ4_append_cf1ce_0 : decode cJ4_append_cf1ce 0 = .ok (.aload_n 0, 1) := by decide +kernel
theorem dJ4_append_cf1ce_1 : decode cJ4_append_cf1ce 1 = .ok (.aload_n 1, 1) := by decide +kernel
theorem dJ4_append_cf1ce_2 : decode cJ4_append_cf1ce 2 = .ok (.invokevirtual 23, 3) := by decide +kernel
theorem dJ4_append_cf1ce_5 : decode cJ4_append_cf1ce 5 = .ok (.areturn, 1) := by decide +kernel
theorem dJ4_length_8abf5_0 : decode cJ4_length_8abf5 0 = .ok (.aload_n 0, 1) := by decide +kernel
theorem dJ4_length_8abf5_1 : decode cJ4_length_8abf5 1 = .ok (.invokespecial 343, 3) := by decide +kernel
theorem dJ4_length_8abf5_4 : decode cJ4_length_8abf5 4 = .ok (.ireturn, 1) := by decide +kernel
theorem dJ1_charAt_3b067_0 : decode cJ1_charAt_3b067 0 = .ok (.iload_n 1, 1) := by decide +kernel
theorem dJ1_charAt_3b067_1 : decode cJ1_charAt_3b067 1 = .ok (.aload_n 0, 1) := by decide +kernel
theorem dJ1_charAt_3b067_2 : decode cJ1_charAt_3b067 2 = .ok (.arraylength, 1) := by decide +kernel
theorem dJ1_charAt_3b067_3 : decode cJ1_charAt_3b067 3 = .ok (.invokestatic 9, 3) := by decide +kernel
theorem dJ1_charAt_3b067_6 : decode cJ1_charAt_3b067 6 = .ok (.aload_n 0, 1) := by decide +kernel
theorem dJ1_charAt_3b067_7 : decode cJ1_charAt_3b067 7 = .ok (.iload_n 1, 1) := by decide +kernel
theorem dJ1_charAt_3b067_8 : decode cJ1_charAt_3b067 8 = .ok (.baload, 1) := by decide +kernel
theorem dJ1_charAt_3b067_9 : decode cJ1_charAt_3b067 9 = .ok (.sipush 255, 3) := by decide +kernel
theorem dJ1_charAt_3b067_12 : decode cJ1_charAt_3b067 12 = .ok (.iand, 1) := by decide +kernel
theorem dJ1_charAt_3b067_13 : decode cJ1_charAt_3b067 13 = .ok (.i2c, 1) := by decide +kernel
theorem dJ1_charAt_3b067_14 : decode cJ1_charAt_3b067 14 = .ok (.ireturn, 1) := by decide +kernel
theorem dJ1_canEncode_fc78d_0 : decode cJ1_canEncode_fc78d 0 = .ok (.iload_n 0, 1) := by decide +kernel
theorem dJ1_canEncode_fc78d_1 : decode cJ1_canEncode_fc78d 1 = .ok (.sipush 255, 3) := by decide +kernel
theorem dJ1_canEncode_fc78d_4 : decode cJ1_canEncode_fc78d 4 = .ok (.if_icmp .gt 7, 3) := by decide +kernel
theorem dJ1_canEncode_fc78d_7 : decode cJ1_canEncode_fc78d 7 = .ok (.iconst 1, 1) := by decide +kernel
theorem dJ1_canEncode_fc78d_8 : decode cJ1_canEncode_fc78d 8 = .ok (.goto 4, 3) := by decide +kernel
theorem dJ1_canEncode_fc78d_11 : decode cJ1_canEncode_fc78d 11 = .ok (.iconst 0, 1) := by decide +kernel
theorem dJ1_canEncode_fc78d_12 : decode cJ1_canEncode_fc78d 12 = .ok (.ireturn, 1) := by decide +kernel
theorem dJ1_inflate_0e8fd_0 : decode cJ1_inflate_0e8fd 0 = .ok (.aload_n 0, 1) := by decide +kernel
theorem dJ1_inflate_0e8fd_1 : decode cJ1_inflate_0e8fd 1 = .ok (.iload_n 1, 1) := by decide +kernel
theorem dJ1_inflate_0e8fd_2 : decode cJ1_inflate_0e8fd 2 = .ok (.aload_n 2, 1) := by decide +kernel
theorem dJ1_inflate_0e8fd_3 : decode cJ1_inflate_0e8fd 3 = .ok (.iload_n 3, 1) := by decide +kernel
theorem dJ1_inflate_0e8fd_4 : decode cJ1_inflate_0e8fd 4 = .ok (.iload 4, 2) := by decide +kernel
theorem dJ1_inflate_0e8fd_6 : decode cJ1_inflate_0e8fd 6 = .ok (.invokestatic 240, 3) := by decide +kernel
theorem dJ1_inflate_0e8fd_9 : decode cJ1_inflate_0e8fd 9 = .ok (.return_, 1) := by decide +kernel
theorem dJ2_newBytesFor_77867_0 : decode cJ2_newBytesFor_77867 0 = .ok (.iload_n 0, 1) := by decide +kernel
theorem dJ2_newBytesFor_77867_1 : decode cJ2_newBytesFor_77867 1 = .ok (.invokestatic 11, 3) := by decide +kernel
theorem dJ2_newBytesFor_77867_4 : decode cJ2_newBytesFor_77867 4 = .ok (.newarray .byte, 2) := by decide +kernel
theorem dJ2_newBytesFor_77867_6 : decode cJ2_newBytesFor_77867 6 = .ok (.areturn, 1) := by decide +kernel
theorem dJ2_newBytesLength_0f7a4_0 : decode cJ2_newBytesLength_0f7a4 0 = .ok (.iload_n 0, 1) := by decide +kernel
theorem dJ2_newBytesLength_0f7a4_1 : decode cJ2_newBytesLength_0f7a4 1 = .ok (.ifCond .ge 11, 3) := by decide +kernel
theorem dJ2_newBytesLength_0f7a4_4 : decode cJ2_newBytesLength_0f7a4 4 = .ok (.new 17, 3) := by decide +kernel
theorem dJ2_newBytesLength_0f7a4_7 : decode cJ2_newBytesLength_0f7a4 7 = .ok (.dup, 1) := by decide +kernel
theorem dJ2_newBytesLength_0f7a4_8 : decode cJ2_newBytesLength_0f7a4 8 = .ok (.invokespecial 19, 3) := by decide +kernel
theorem dJ2_newBytesLength_0f7a4_11 : decode cJ2_newBytesLength_0f7a4 11 = .ok (.athrow, 1) := by decide +kernel
theorem dJ2_newBytesLength_0f7a4_12 : decode cJ2_newBytesLength_0f7a4 12 = .ok (.iload_n 0, 1) := by decide +kernel
theorem dJ2_newBytesLength_0f7a4_13 : decode cJ2_newBytesLength_0f7a4 13 = .ok (.ldc 20, 2) := by decide +kernel
theorem dJ2_newBytesLength_0f7a4_15 : decode cJ2_newBytesLength_0f7a4 15 = .ok (.if_icmp .lt 40, 3) := by decide +kernel
theorem dJ2_newBytesLength_0f7a4_18 : decode cJ2_newBytesLength_0f7a4 18 = .ok (.new 21, 3) := by decide +kernel
theorem dJ2_newBytesLength_0f7a4_21 : decode cJ2_newBytesLength_0f7a4 21 = .ok (.dup, 1) := by decide +kernel
theorem dJ2_newBytesLength_0f7a4_22 : decode cJ2_newBytesLength_0f7a4 22 = .ok (.new 23, 3) := by decide +kernel
theorem dJ2_newBytesLength_0f7a4_25 : decode cJ2_newBytesLength_0f7a4 25 = .ok (.dup, 1) := by decide +kernel
theorem dJ2_newBytesLength_0f7a4_26 : decode cJ2_newBytesLength_0f7a4 26 = .ok (.invokespecial 25, 3) := by decide +kernel
theorem dJ2_newBytesLength_0f7a4_29 : decode cJ2_newBytesLength_0f7a4 29 = .ok (.ldc 26, 2) := by decide +kernel
theorem dJ2_newBytesLength_0f7a4_31 : decode cJ2_newBytesLength_0f7a4 31 = .ok (.invokevirtual 28, 3) := by decide +kernel
theorem dJ2_newBytesLength_0f7a4_34 : decode cJ2_newBytesLength_0f7a4 34 = .ok (.iload_n 0, 1) := by decide +kernel
theorem dJ2_newBytesLength_0f7a4_35 : decode cJ2_newBytesLength_0f7a4 35 = .ok (.invokevirtual 32, 3) := by decide +kernel
theorem dJ2_newBytesLength_0f7a4_38 : decode cJ2_newBytesLength_0f7a4 38 = .ok (.ldc 35, 2) := by decide +kernel
theorem dJ2_newBytesLength_0f7a4_40 : decode cJ2_newBytesLength_0f7a4 40 = .ok (.invokevirtual 28, 3) := by decide +kernel
theorem dJ2_newBytesLength_0f7a4_43 : decode cJ2_newBytesLength_0f7a4 43 = .ok (.ldc 20, 2) := by decide +kernel
theorem dJ2_newBytesLength_0f7a4_45 : decode cJ2_newBytesLength_0f7a4 45 = .ok (.invokevirtual 32, 3) := by decide +kernel
theorem dJ2_newBytesLength_0f7a4_48 : decode cJ2_newBytesLength_0f7a4 48 = .ok (.invokevirtual 37, 3) := by decide +kernel
theorem dJ2_newBytesLength_0f7a4_51 : decode cJ2_newBytesLength_0f7a4 51 = .ok (.invokespecial 41, 3) := by decide +kernel
theorem dJ2_newBytesLength_0f7a4_54 : decode cJ2_newBytesLength_0f7a4 54 = .ok (.athrow, 1) := by decide +kernel
theorem dJ2_newBytesLength_0f7a4_55 : decode cJ2_newBytesLength_0f7a4 55 = .ok (.iload_n 0, 1) := by decide +kernel
theorem dJ2_newBytesLength_0f7a4_56 : decode cJ2_newBytesLength_0f7a4 56 = .ok (.iconst 1, 1) := by decide +kernel
theorem dJ2_newBytesLength_0f7a4_57 : decode cJ2_newBytesLength_0f7a4 57 = .ok (.ishl, 1) := by decide +kernel
theorem dJ2_newBytesLength_0f7a4_58 : decode cJ2_newBytesLength_0f7a4 58 = .ok (.ireturn, 1) := by decide +kernel
theorem dJ2_putChar_b72d1_0 : decode cJ2_putChar_b72d1 0 = .ok (.getstatic 44, 3) := by decide +kernel
theorem dJ2_putChar_b72d1_3 : decode cJ2_putChar_b72d1 3 = .ok (.ifCond .ne 25, 3) := by decide +kernel
theorem dJ2_putChar_b72d1_6 : decode cJ2_putChar_b72d1 6 = .ok (.iload_n 1, 1) := by decide +kernel
theorem dJ2_putChar_b72d1_7 : decode cJ2_putChar_b72d1 7 = .ok (.ifCond .lt 11, 3) := by decide +kernel
theorem dJ2_putChar_b72d1_10 : decode cJ2_putChar_b72d1 10 = .ok (.iload_n 1, 1) := by decide +kernel
theorem dJ2_putChar_b72d1_11 : decode cJ2_putChar_b72d1 11 = .ok (.aload_n 0, 1) := by decide +kernel
theorem dJ2_putChar_b72d1_12 : decode cJ2_putChar_b72d1 12 = .ok (.invokestatic 48, 3) := by decide +kernel
theorem dJ2_putChar_b72d1_15 : decode cJ2_putChar_b72d1 15 = .ok (.if_icmp .lt 13, 3) := by decide +kernel
theorem dJ2_putChar_b72d1_18 : decode cJ2_putChar_b72d1 18 = .ok (.new 52, 3) := by decide +kernel
theorem dJ2_putChar_b72d1_21 : decode cJ2_putChar_b72d1 21 = .ok (.dup, 1) := by decide +kernel
theorem dJ2_putChar_b72d1_22 : decode cJ2_putChar_b72d1 22 = .ok (.ldc 54, 2) := by decide +kernel
theorem dJ2_putChar_b72d1_24 : decode cJ2_putChar_b72d1 24 = .ok (.invokespecial 56, 3) := by decide +kernel
theorem dJ2_putChar_b72d1_27 : decode cJ2_putChar_b72d1 27 = .ok (.athrow, 1) := by decide +kernel
theorem dJ2_putChar_b72d1_28 : decode cJ2_putChar_b72d1 28 = .ok (.iload_n 1, 1) := by decide +kernel
theorem dJ2_putChar_b72d1_29 : decode cJ2_putChar_b72d1 29 = .ok (.iconst 1, 1) := by decide +kernel
theorem dJ2_putChar_b72d1_30 : decode cJ2_putChar_b72d1 30 = .ok (.ishl, 1) := by decide +kernel
theorem dJ2_putChar_b72d1_31 : decode cJ2_putChar_b72d1 31 = .ok (.istore_n 1, 1) := by decide +kernel
theorem dJ2_putChar_b72d1_32 : decode cJ2_putChar_b72d1 32 = .ok (.aload_n 0, 1) := by decide +kernel
theorem dJ2_putChar_b72d1_33 : decode cJ2_putChar_b72d1 33 = .ok (.iload_n 1, 1) := by decide +kernel
theorem dJ2_putChar_b72d1_34 : decode cJ2_putChar_b72d1 34 = .ok (.iinc 1 1, 3) := by decide +kernel
theorem dJ2_putChar_b72d1_37 : decode cJ2_putChar_b72d1 37 = .ok (.iload_n 2, 1) := by decide +kernel
theorem dJ2_putChar_b72d1_38 : decode cJ2_putChar_b72d1 38 = .ok (.getstatic 59, 3) := by decide +kernel
theorem dJ2_putChar_b72d1_41 : decode cJ2_putChar_b72d1 41 = .ok (.ishr, 1) := by decide +kernel
theorem dJ2_putChar_b72d1_42 : decode cJ2_putChar_b72d1 42 = .ok (.i2b, 1) := by decide +kernel
theorem dJ2_putChar_b72d1_43 : decode cJ2_putChar_b72d1 43 = .ok (.bastore, 1) := by decide +kernel
theorem dJ2_putChar_b72d1_44 : decode cJ2_putChar_b72d1 44 = .ok (.aload_n 0, 1) := by decide +kernel
theorem dJ2_putChar_b72d1_45 : decode cJ2_putChar_b72d1 45 = .ok (.iload_n 1, 1) := by decide +kernel
theorem dJ2_putChar_b72d1_46 : decode cJ2_putChar_b72d1 46 = .ok (.iload_n 2, 1) := by decide +kernel
theorem dJ2_putChar_b72d1_47 : decode cJ2_putChar_b72d1 47 = .ok (.getstatic 63, 3) := by decide +kernel
theorem dJ2_putChar_b72d1_50 : decode cJ2_putChar_b72d1 50 = .ok (.ishr, 1) := by decide +kernel
theorem dJ2_putChar_b72d1_51 : decode cJ2_putChar_b72d1 51 = .ok (.i2b, 1) := by decide +kernel
theorem dJ2_putChar_b72d1_52 : decode cJ2_putChar_b72d1 52 = .ok (.bastore, 1) := by decide +kernel
theorem dJ2_putChar_b72d1_53 : decode cJ2_putChar_b72d1 53 = .ok (.return_, 1) := by decide +kernel
theorem dJ2_getChar_3b067_0 : decode cJ2_getChar_3b067 0 = .ok (.getstatic 44, 3) := by decide +kernel
theorem dJ2_getChar_3b067_3 : decode cJ2_getChar_3b067 3 = .ok (.ifCond .ne 25, 3) := by decide +kernel
theorem dJ2_getChar_3b067_6 : decode cJ2_getChar_3b067 6 = .ok (.iload_n 1, 1) := by decide +kernel
theorem dJ2_getChar_3b067_7 : decode cJ2_getChar_3b067 7 = .ok (.ifCond .lt 11, 3) := by decide +kernel
theorem dJ2_getChar_3b067_10 : decode cJ2_getChar_3b067 10 = .ok (.iload_n 1, 1) := by decide +kernel
theorem dJ2_getChar_3b067_11 : decode cJ2_getChar_3b067 11 = .ok (.aload_n 0, 1) := by decide +kernel
theorem dJ2_getChar_3b067_12 : decode cJ2_getChar_3b067 12 = .ok (.invokestatic 48, 3) := by decide +kernel
theorem dJ2_getChar_3b067_15 : decode cJ2_getChar_3b067 15 = .ok (.if_icmp .lt 13, 3) := by decide +kernel
theorem dJ2_getChar_3b067_18 : decode cJ2_getChar_3b067 18 = .ok (.new 52, 3) := by decide +kernel
theorem dJ2_getChar_3b067_21 : decode cJ2_getChar_3b067 21 = .ok (.dup, 1) := by decide +kernel
theorem dJ2_getChar_3b067_22 : decode cJ2_getChar_3b067 22 = .ok (.ldc 54, 2) := by decide +kernel
theorem dJ2_getChar_3b067_24 : decode cJ2_getChar_3b067 24 = .ok (.invokespecial 56, 3) := by decide +kernel
theorem dJ2_getChar_3b067_27 : decode cJ2_getChar_3b067 27 = .ok (.athrow, 1) := by decide +kernel
theorem dJ2_getChar_3b067_28 : decode cJ2_getChar_3b067 28 = .ok (.iload_n 1, 1) := by decide +kernel
theorem dJ2_getChar_3b067_29 : decode cJ2_getChar_3b067 29 = .ok (.iconst 1, 1) := by decide +kernel
theorem dJ2_getChar_3b067_30 : decode cJ2_getChar_3b067 30 = .ok (.ishl, 1) := by decide +kernel
theorem dJ2_getChar_3b067_31 : decode cJ2_getChar_3b067 31 = .ok (.istore_n 1, 1) := by decide +kernel
theorem dJ2_getChar_3b067_32 : decode cJ2_getChar_3b067 32 = .ok (.aload_n 0, 1) := by decide +kernel
theorem dJ2_getChar_3b067_33 : decode cJ2_getChar_3b067 33 = .ok (.iload_n 1, 1) := by decide +kernel
theorem dJ2_getChar_3b067_34 : decode cJ2_getChar_3b067 34 = .ok (.iinc 1 1, 3) := by decide +kernel
theorem dJ2_getChar_3b067_37 : decode cJ2_getChar_3b067 37 = .ok (.baload, 1) := by decide +kernel
theorem dJ2_getChar_3b067_38 : decode cJ2_getChar_3b067 38 = .ok (.sipush 255, 3) := by decide +kernel
theorem dJ2_getChar_3b067_41 : decode cJ2_getChar_3b067 41 = .ok (.iand, 1) := by decide +kernel
theorem dJ2_getChar_3b067_42 : decode cJ2_getChar_3b067 42 = .ok (.getstatic 59, 3) := by decide +kernel
theorem dJ2_getChar_3b067_45 : decode cJ2_getChar_3b067 45 = .ok (.ishl, 1) := by decide +kernel
theorem dJ2_getChar_3b067_46 : decode cJ2_getChar_3b067 46 = .ok (.aload_n 0, 1) := by decide +kernel
theorem dJ2_getChar_3b067_47 : decode cJ2_getChar_3b067 47 = .ok (.iload_n 1, 1) := by decide +kernel
theorem dJ2_getChar_3b067_48 : decode cJ2_getChar_3b067 48 = .ok (.baload, 1) := by decide +kernel
theorem dJ2_getChar_3b067_49 : decode cJ2_getChar_3b067 49 = .ok (.sipush 255, 3) := by decide +kernel
theorem dJ2_getChar_3b067_52 : decode cJ2_getChar_3b067 52 = .ok (.iand, 1) := by decide +kernel
theorem dJ2_getChar_3b067_53 : decode cJ2_getChar_3b067 53 = .ok (.getstatic 63, 3) := by decide +kernel
theorem dJ2_getChar_3b067_56 : decode cJ2_getChar_3b067 56 = .ok (.ishl, 1) := by decide +kernel
theorem dJ2_getChar_3b067_57 : decode cJ2_getChar_3b067 57 = .ok (.ior, 1) := by decide +kernel
theorem dJ2_getChar_3b067_58 : decode cJ2_getChar_3b067 58 = .ok (.i2c, 1) := by decide +kernel
theorem dJ2_getChar_3b067_59 : decode cJ2_getChar_3b067 59 = .ok (.ireturn, 1) := by decide +kernel
theorem dJ2_length_9d52b_0 : decode cJ2_length_9d52b 0 = .ok (.aload_n 0, 1) := by decide +kernel
theorem dJ2_length_9d52b_1 : decode cJ2_length_9d52b 1 = .ok (.arraylength, 1) := by decide +kernel
theorem dJ2_length_9d52b_2 : decode cJ2_length_9d52b 2 = .ok (.iconst 1, 1) := by decide +kernel
theorem dJ2_length_9d52b_3 : decode cJ2_length_9d52b 3 = .ok (.ishr, 1) := by decide +kernel
theorem dJ2_length_9d52b_4 : decode cJ2_length_9d52b 4 = .ok (.ireturn, 1) := by decide +kernel
theorem dJ2_coderFromArrayLen_85cad_0 : decode cJ2_coderFromArrayLen_85cad 0 = .ok (.iload_n 1, 1) := by decide +kernel
theorem dJ2_coderFromArrayLen_85cad_1 : decode cJ2_coderFromArrayLen_85cad 1 = .ok (.aload_n 0, 1) := by decide +kernel
theorem dJ2_coderFromArrayLen_85cad_2 : decode cJ2_coderFromArrayLen_85cad 2 = .ok (.arraylength, 1) := by decide +kernel
theorem dJ2_coderFromArrayLen_85cad_3 : decode cJ2_coderFromArrayLen_85cad 3 = .ok (.isub, 1) := by decide +kernel
theorem dJ2_coderFromArrayLen_85cad_4 : decode cJ2_coderFromArrayLen_85cad 4 = .ok (.bipush 31, 2) := by decide +kernel
theorem dJ2_coderFromArrayLen_85cad_6 : decode cJ2_coderFromArrayLen_85cad 6 = .ok (.iushr, 1) := by decide +kernel
theorem dJ2_coderFromArrayLen_85cad_7 : decode cJ2_coderFromArrayLen_85cad 7 = .ok (.i2b, 1) := by decide +kernel
theorem dJ2_coderFromArrayLen_85cad_8 : decode cJ2_coderFromArrayLen_85cad 8 = .ok (.ireturn, 1) := by decide +kernel
theorem dJ2_compress_39247_0 : decode cJ2_compress_39247 0 = .ok (.iload_n 2, 1) := by decide +kernel
theorem dJ2_compress_39247_1 : decode cJ2_compress_39247 1 = .ok (.newarray .byte, 2) := by decide +kernel
theorem dJ2_compress_39247_3 : decode cJ2_compress_39247 3 = .ok (.astore_n 3, 1) := by decide +kernel
theorem dJ2_compress_39247_4 : decode cJ2_compress_39247 4 = .ok (.aload_n 0, 1) := by decide +kernel
theorem dJ2_compress_39247_5 : decode cJ2_compress_39247 5 = .ok (.iload_n 1, 1) := by decide +kernel
theorem dJ2_compress_39247_6 : decode cJ2_compress_39247 6 = .ok (.aload_n 3, 1) := by decide +kernel
theorem dJ2_compress_39247_7 : decode cJ2_compress_39247 7 = .ok (.iconst 0, 1) := by decide +kernel
theorem dJ2_compress_39247_8 : decode cJ2_compress_39247 8 = .ok (.iload_n 2, 1) := by decide +kernel
theorem dJ2_compress_39247_9 : decode cJ2_compress_39247 9 = .ok (.invokestatic 123, 3) := by decide +kernel
theorem dJ2_compress_39247_12 : decode cJ2_compress_39247 12 = .ok (.istore 4, 2) := by decide +kernel
theorem dJ2_compress_39247_14 : decode cJ2_compress_39247 14 = .ok (.iload 4, 2) := by decide +kernel
theorem dJ2_compress_39247_16 : decode cJ2_compress_39247 16 = .ok (.iload_n 2, 1) := by decide +kernel
theorem dJ2_compress_39247_17 : decode cJ2_compress_39247 17 = .ok (.if_icmp .eq 47, 3) := by decide +kernel
theorem dJ2_compress_39247_20 : decode cJ2_compress_39247 20 = .ok (.aload_n 0, 1) := by decide +kernel
theorem dJ2_compress_39247_21 : decode cJ2_compress_39247 21 = .ok (.iload_n 1, 1) := by decide +kernel
theorem dJ2_compress_39247_22 : decode cJ2_compress_39247 22 = .ok (.iconst 1, 1) := by decide +kernel
theorem dJ2_compress_39247_23 : decode cJ2_compress_39247 23 = .ok (.ishl, 1) := by decide +kernel
theorem dJ2_compress_39247_24 : decode cJ2_compress_39247 24 = .ok (.iload_n 1, 1) := by decide +kernel
theorem dJ2_compress_39247_25 : decode cJ2_compress_39247 25 = .ok (.iload_n 2, 1) := by decide +kernel
theorem dJ2_compress_39247_26 : decode cJ2_compress_39247 26 = .ok (.iadd, 1) := by decide +kernel
theorem dJ2_compress_39247_27 : decode cJ2_compress_39247 27 = .ok (.invokestatic 11, 3) := by decide +kernel
theorem dJ2_compress_39247_30 : decode cJ2_compress_39247 30 = .ok (.invokestatic 126, 3) := by decide +kernel
theorem dJ2_compress_39247_33 : decode cJ2_compress_39247 33 = .ok (.astore 5, 2) := by decide +kernel
theorem dJ2_compress_39247_35 : decode cJ2_compress_39247 35 = .ok (.aload 5, 2) := by decide +kernel
theorem dJ2_compress_39247_37 : decode cJ2_compress_39247 37 = .ok (.iload 4, 2) := by decide +kernel
theorem dJ2_compress_39247_39 : decode cJ2_compress_39247 39 = .ok (.invokestatic 71, 3) := by decide +kernel
theorem dJ2_compress_39247_42 : decode cJ2_compress_39247 42 = .ok (.sipush 255, 3) := by decide +kernel
theorem dJ2_compress_39247_45 : decode cJ2_compress_39247 45 = .ok (.if_icmp .gt 16, 3) := by decide +kernel
theorem dJ2_compress_39247_48 : decode cJ2_compress_39247 48 = .ok (.aload 5, 2) := by decide +kernel
theorem dJ2_compress_39247_50 : decode cJ2_compress_39247 50 = .ok (.iconst 0, 1) := by decide +kernel
theorem dJ2_compress_39247_51 : decode cJ2_compress_39247 51 = .ok (.aload_n 3, 1) := by decide +kernel
theorem dJ2_compress_39247_52 : decode cJ2_compress_39247 52 = .ok (.iconst 0, 1) := by decide +kernel
theorem dJ2_compress_39247_53 : decode cJ2_compress_39247 53 = .ok (.iload_n 2, 1) := by decide +kernel
theorem dJ2_compress_39247_54 : decode cJ2_compress_39247 54 = .ok (.invokestatic 123, 3) := by decide +kernel
theorem dJ2_compress_39247_57 : decode cJ2_compress_39247 57 = .ok (.iload_n 2, 1) := by decide +kernel
theorem dJ2_compress_39247_58 : decode cJ2_compress_39247 58 = .ok (.if_icmp .eq 6, 3) := by decide +kernel
theorem dJ2_compress_39247_61 : decode cJ2_compress_39247 61 = .ok (.aload 5, 2) := by decide +kernel
theorem dJ2_compress_39247_63 : decode cJ2_compress_39247 63 = .ok (.areturn, 1) := by decide +kernel
theorem dJ2_compress_39247_64 : decode cJ2_compress_39247 64 = .ok (.aload_n 3, 1) := by decide +kernel
theorem dJ2_compress_39247_65 : decode cJ2_compress_39247 65 = .ok (.areturn, 1) := by decide +kernel
theorem dJ2_compress_5af95_0 : decode cJ2_compress_5af95 0 = .ok (.iload_n 1, 1) := by decide +kernel
theorem dJ2_compress_5af95_1 : decode cJ2_compress_5af95 1 = .ok (.iload 4, 2) := by decide +kernel
theorem dJ2_compress_5af95_3 : decode cJ2_compress_5af95 3 = .ok (.aload_n 0, 1) := by decide +kernel
theorem dJ2_compress_5af95_4 : decode cJ2_compress_5af95 4 = .ok (.invokestatic 173, 3) := by decide +kernel
theorem dJ2_compress_5af95_7 : decode cJ2_compress_5af95 7 = .ok (.iconst 0, 1) := by decide +kernel
theorem dJ2_compress_5af95_8 : decode cJ2_compress_5af95 8 = .ok (.istore 5, 2) := by decide +kernel
theorem dJ2_compress_5af95_10 : decode cJ2_compress_5af95 10 = .ok (.iload 5, 2) := by decide +kernel
theorem dJ2_compress_5af95_12 : decode cJ2_compress_5af95 12 = .ok (.iload 4, 2) := by decide +kernel
theorem dJ2_compress_5af95_14 : decode cJ2_compress_5af95 14 = .ok (.if_icmp .ge 39, 3) := by decide +kernel
theorem dJ2_compress_5af95_17 : decode cJ2_compress_5af95 17 = .ok (.aload_n 0, 1) := by decide +kernel
theorem dJ2_compress_5af95_18 : decode cJ2_compress_5af95 18 = .ok (.iload_n 1, 1) := by decide +kernel
theorem dJ2_compress_5af95_19 : decode cJ2_compress_5af95 19 = .ok (.invokestatic 71, 3) := by decide +kernel
theorem dJ2_compress_5af95_22 : decode cJ2_compress_5af95 22 = .ok (.istore 6, 2) := by decide +kernel
theorem dJ2_compress_5af95_24 : decode cJ2_compress_5af95 24 = .ok (.iload 6, 2) := by decide +kernel
theorem dJ2_compress_5af95_26 : decode cJ2_compress_5af95 26 = .ok (.sipush 255, 3) := by decide +kernel
theorem dJ2_compress_5af95_29 : decode cJ2_compress_5af95 29 = .ok (.if_icmp .le 6, 3) := by decide +kernel
theorem dJ2_compress_5af95_32 : decode cJ2_compress_5af95 32 = .ok (.iload 5, 2) := by decide +kernel
theorem dJ2_compress_5af95_34 : decode cJ2_compress_5af95 34 = .ok (.ireturn, 1) := by decide +kernel
theorem dJ2_compress_5af95_35 : decode cJ2_compress_5af95 35 = .ok (.aload_n 2, 1) := by decide +kernel
theorem dJ2_compress_5af95_36 : decode cJ2_compress_5af95 36 = .ok (.iload_n 3, 1) := by decide +kernel
theorem dJ2_compress_5af95_37 : decode cJ2_compress_5af95 37 = .ok (.iload 6, 2) := by decide +kernel
theorem dJ2_compress_5af95_39 : decode cJ2_compress_5af95 39 = .ok (.i2b, 1) := by decide +kernel
theorem dJ2_compress_5af95_40 : decode cJ2_compress_5af95 40 = .ok (.bastore, 1) := by decide +kernel
theorem dJ2_compress_5af95_41 : decode cJ2_compress_5af95 41 = .ok (.iinc 1 1, 3) := by decide +kernel
theorem dJ2_compress_5af95_44 : decode cJ2_compress_5af95 44 = .ok (.iinc 3 1, 3) := by decide +kernel
theorem dJ2_compress_5af95_47 : decode cJ2_compress_5af95 47 = .ok (.iinc 5 1, 3) := by decide +kernel
theorem dJ2_compress_5af95_50 : decode cJ2_compress_5af95 50 = .ok (.goto (-40), 3) := by decide +kernel
theorem dJ2_compress_5af95_53 : decode cJ2_compress_5af95 53 = .ok (.iload 4, 2) := by decide +kernel
theorem dJ2_compress_5af95_55 : decode cJ2_compress_5af95 55 = .ok (.ireturn, 1) := by decide +kernel
theorem dJ2_putCharSB_b72d1_0 : decode cJ2_putCharSB_b72d1 0 = .ok (.iload_n 1, 1) := by decide +kernel
theorem dJ2_putCharSB_b72d1_1 : decode cJ2_putCharSB_b72d1 1 = .ok (.aload_n 0, 1) := by decide +kernel
theorem dJ2_putCharSB_b72d1_2 : decode cJ2_putCharSB_b72d1 2 = .ok (.invokestatic 67, 3) := by decide +kernel
theorem dJ2_putCharSB_b72d1_5 : decode cJ2_putCharSB_b72d1 5 = .ok (.aload_n 0, 1) := by decide +kernel
theorem dJ2_putCharSB_b72d1_6 : decode cJ2_putCharSB_b72d1 6 = .ok (.iload_n 1, 1) := by decide +kernel
theorem dJ2_putCharSB_b72d1_7 : decode cJ2_putCharSB_b72d1 7 = .ok (.iload_n 2, 1) := by decide +kernel
theorem dJ2_putCharSB_b72d1_8 : decode cJ2_putCharSB_b72d1 8 = .ok (.invokestatic 111, 3) := by decide +kernel
theorem dJ2_putCharSB_b72d1_11 : decode cJ2_putCharSB_b72d1 11 = .ok (.return_, 1) := by decide +kernel
theorem dJ2_getChars_46870_0 : decode cJ2_getChars_46870 0 = .ok (.iload_n 1, 1) := by decide +kernel
theorem dJ2_getChars_46870_1 : decode cJ2_getChars_46870 1 = .ok (.iload_n 2, 1) := by decide +kernel
theorem dJ2_getChars_46870_2 : decode cJ2_getChars_46870 2 = .ok (.aload_n 3, 1) := by decide +kernel
theorem dJ2_getChars_46870_3 : decode cJ2_getChars_46870 3 = .ok (.invokestatic 96, 3) := by decide +kernel
theorem dJ2_getChars_46870_6 : decode cJ2_getChars_46870 6 = .ok (.iload_n 0, 1) := by decide +kernel
theorem dJ2_getChars_46870_7 : decode cJ2_getChars_46870 7 = .ok (.iload_n 2, 1) := by decide +kernel
theorem dJ2_getChars_46870_8 : decode cJ2_getChars_46870 8 = .ok (.aload_n 3, 1) := by decide +kernel
theorem dJ2_getChars_46870_9 : decode cJ2_getChars_46870 9 = .ok (.invokestatic 393, 3) := by decide +kernel
theorem dJ2_getChars_46870_12 : decode cJ2_getChars_46870 12 = .ok (.istore 4, 2) := by decide +kernel
theorem dJ2_getChars_46870_14 : decode cJ2_getChars_46870 14 = .ok (.getstatic 44, 3) := by decide +kernel
theorem dJ2_getChars_46870_17 : decode cJ2_getChars_46870 17 = .ok (.ifCond .ne 17, 3) := by decide +kernel
theorem dJ2_getChars_46870_20 : decode cJ2_getChars_46870 20 = .ok (.iload_n 1, 1) := by decide +kernel
theorem dJ2_getChars_46870_21 : decode cJ2_getChars_46870 21 = .ok (.iload 4, 2) := by decide +kernel
theorem dJ2_getChars_46870_23 : decode cJ2_getChars_46870 23 = .ok (.if_icmp .eq 11, 3) := by decide +kernel
theorem dJ2_getChars_46870_26 : decode cJ2_getChars_46870 26 = .ok (.new 52, 3) := by decide +kernel
theorem dJ2_getChars_46870_29 : decode cJ2_getChars_46870 29 = .ok (.dup, 1) := by decide +kernel
theorem dJ2_getChars_46870_30 : decode cJ2_getChars_46870 30 = .ok (.invokespecial 66, 3) := by decide +kernel
theorem dJ2_getChars_46870_33 : decode cJ2_getChars_46870 33 = .ok (.athrow, 1) := by decide +kernel
theorem dJ2_getChars_46870_34 : decode cJ2_getChars_46870 34 = .ok (.iload 4, 2) := by decide +kernel
theorem dJ2_getChars_46870_36 : decode cJ2_getChars_46870 36 = .ok (.ireturn, 1) := by decide +kernel
theorem dJ2_putCharsAt_cd4e5_0 : decode cJ2_putCharsAt_cd4e5 0 = .ok (.iload_n 1, 1) := by decide +kernel
theorem dJ2_putCharsAt_cd4e5_1 : decode cJ2_putCharsAt_cd4e5 1 = .ok (.iconst 4, 1) := by decide +kernel
theorem dJ2_putCharsAt_cd4e5_2 : decode cJ2_putCharsAt_cd4e5 2 = .ok (.iadd, 1) := by decide +kernel
theorem dJ2_putCharsAt_cd4e5_3 : decode cJ2_putCharsAt_cd4e5 3 = .ok (.istore 6, 2) := by decide +kernel
theorem dJ2_putCharsAt_cd4e5_5 : decode cJ2_putCharsAt_cd4e5 5 = .ok (.iload_n 1, 1) := by decide +kernel
theorem dJ2_putCharsAt_cd4e5_6 : decode cJ2_putCharsAt_cd4e5 6 = .ok (.iload 6, 2) := by decide +kernel
theorem dJ2_putCharsAt_cd4e5_8 : decode cJ2_putCharsAt_cd4e5 8 = .ok (.aload_n 0, 1) := by decide +kernel
theorem dJ2_putCharsAt_cd4e5_9 : decode cJ2_putCharsAt_cd4e5 9 = .ok (.invokestatic 96, 3) := by decide +kernel
theorem dJ2_putCharsAt_cd4e5_12 : decode cJ2_putCharsAt_cd4e5 12 = .ok (.aload_n 0, 1) := by decide +kernel
theorem dJ2_putCharsAt_cd4e5_13 : decode cJ2_putCharsAt_cd4e5 13 = .ok (.iload_n 1, 1) := by decide +kernel
theorem dJ2_putCharsAt_cd4e5_14 : decode cJ2_putCharsAt_cd4e5 14 = .ok (.iinc 1 1, 3) := by decide +kernel
theorem dJ2_putCharsAt_cd4e5_17 : decode cJ2_putCharsAt_cd4e5 17 = .ok (.iload_n 2, 1) := by decide +kernel
theorem dJ2_putCharsAt_cd4e5_18 : decode cJ2_putCharsAt_cd4e5 18 = .ok (.invokestatic 111, 3) := by decide +kernel
theorem dJ2_putCharsAt_cd4e5_21 : decode cJ2_putCharsAt_cd4e5 21 = .ok (.aload_n 0, 1) := by decide +kernel
theorem dJ2_putCharsAt_cd4e5_22 : decode cJ2_putCharsAt_cd4e5 22 = .ok (.iload_n 1, 1) := by decide +kernel
theorem dJ2_putCharsAt_cd4e5_23 : decode cJ2_putCharsAt_cd4e5 23 = .ok (.iinc 1 1, 3) := by decide +kernel
theorem dJ2_putCharsAt_cd4e5_26 : decode cJ2_putCharsAt_cd4e5 26 = .ok (.iload_n 3, 1) := by decide +kernel
theorem dJ2_putCharsAt_cd4e5_27 : decode cJ2_putCharsAt_cd4e5 27 = .ok (.invokestatic 111, 3) := by decide +kernel
theorem dJ2_putCharsAt_cd4e5_30 : decode cJ2_putCharsAt_cd4e5 30 = .ok (.aload_n 0, 1) := by decide +kernel
theorem dJ2_putCharsAt_cd4e5_31 : decode cJ2_putCharsAt_cd4e5 31 = .ok (.iload_n 1, 1) := by decide +kernel
theorem dJ2_putCharsAt_cd4e5_32 : decode cJ2_putCharsAt_cd4e5 32 = .ok (.iinc 1 1, 3) := by decide +kernel
theorem dJ2_putCharsAt_cd4e5_35 : decode cJ2_putCharsAt_cd4e5 35 = .ok (.iload 4, 2) := by decide +kernel
theorem dJ2_putCharsAt_cd4e5_37 : decode cJ2_putCharsAt_cd4e5 37 = .ok (.invokestatic 111, 3) := by decide +kernel
theorem dJ2_putCharsAt_cd4e5_40 : decode cJ2_putCharsAt_cd4e5 40 = .ok (.aload_n 0, 1) := by decide +kernel
theorem dJ2_putCharsAt_cd4e5_41 : decode cJ2_putCharsAt_cd4e5 41 = .ok (.iload_n 1, 1) := by decide +kernel
theorem dJ2_putCharsAt_cd4e5_42 : decode cJ2_putCharsAt_cd4e5 42 = .ok (.iinc 1 1, 3) := by decide +kernel
theorem dJ2_putCharsAt_cd4e5_45 : decode cJ2_putCharsAt_cd4e5 45 = .ok (.iload 5, 2) := by decide +kernel
theorem dJ2_putCharsAt_cd4e5_47 : decode cJ2_putCharsAt_cd4e5 47 = .ok (.invokestatic 111, 3) := by decide +kernel
theorem dJ2_putCharsAt_cd4e5_50 : decode cJ2_putCharsAt_cd4e5 50 = .ok (.getstatic 44, 3) := by decide +kernel
theorem dJ2_putCharsAt_cd4e5_53 : decode cJ2_putCharsAt_cd4e5 53 = .ok (.ifCond .ne 17, 3) := by decide +kernel
theorem dJ2_putCharsAt_cd4e5_56 : decode cJ2_putCharsAt_cd4e5 56 = .ok (.iload_n 1, 1) := by decide +kernel
theorem dJ2_putCharsAt_cd4e5_57 : decode cJ2_putCharsAt_cd4e5 57 = .ok (.iload 6, 2) := by decide +kernel
theorem dJ2_putCharsAt_cd4e5_59 : decode cJ2_putCharsAt_cd4e5 59 = .ok (.if_icmp .eq 11, 3) := by decide +kernel
theorem dJ2_putCharsAt_cd4e5_62 : decode cJ2_putCharsAt_cd4e5 62 = .ok (.new 52, 3) := by decide +kernel
theorem dJ2_putCharsAt_cd4e5_65 : decode cJ2_putCharsAt_cd4e5 65 = .ok (.dup, 1) := by decide +kernel
theorem dJ2_putCharsAt_cd4e5_66 : decode cJ2_putCharsAt_cd4e5 66 = .ok (.invokespecial 66, 3) := by decide +kernel
theorem dJ2_putCharsAt_cd4e5_69 : decode cJ2_putCharsAt_cd4e5 69 = .ok (.athrow, 1) := by decide +kernel
theorem dJ2_putCharsAt_cd4e5_70 : decode cJ2_putCharsAt_cd4e5 70 = .ok (.iload 6, 2) := by decide +kernel
theorem dJ2_putCharsAt_cd4e5_72 : decode cJ2_putCharsAt_cd4e5 72 = .ok (.ireturn, 1) := by decide +kernel
theorem dJ2_charAt_3b067_0 : decode cJ2_charAt_3b067 0 = .ok (.iload_n 1, 1) := by decide +kernel
theorem dJ2_charAt_3b067_1 : decode cJ2_charAt_3b067 1 = .ok (.aload_n 0, 1) := by decide +kernel
theorem dJ2_charAt_3b067_2 : decode cJ2_charAt_3b067 2 = .ok (.invokestatic 67, 3) := by decide +kernel
theorem dJ2_charAt_3b067_5 : decode cJ2_charAt_3b067 5 = .ok (.aload_n 0, 1) := by decide +kernel
theorem dJ2_charAt_3b067_6 : decode cJ2_charAt_3b067 6 = .ok (.iload_n 1, 1) := by decide +kernel
theorem dJ2_charAt_3b067_7 : decode cJ2_charAt_3b067 7 = .ok (.invokestatic 71, 3) := by decide +kernel
theorem dJ2_charAt_3b067_10 : decode cJ2_charAt_3b067 10 = .ok (.ireturn, 1) := by decide +kernel
theorem dJ2_inflate_0e8fd_0 : decode cJ2_inflate_0e8fd 0 = .ok (.iload_n 3, 1) := by decide +kernel
theorem dJ2_inflate_0e8fd_1 : decode cJ2_inflate_0e8fd 1 = .ok (.iload 4, 2) := by decide +kernel
theorem dJ2_inflate_0e8fd_3 : decode cJ2_inflate_0e8fd 3 = .ok (.aload_n 2, 1) := by decide +kernel
theorem dJ2_inflate_0e8fd_4 : decode cJ2_inflate_0e8fd 4 = .ok (.invokestatic 173, 3) := by decide +kernel
theorem dJ2_inflate_0e8fd_7 : decode cJ2_inflate_0e8fd 7 = .ok (.iconst 0, 1) := by decide +kernel
theorem dJ2_inflate_0e8fd_8 : decode cJ2_inflate_0e8fd 8 = .ok (.istore 5, 2) := by decide +kernel
theorem dJ2_inflate_0e8fd_10 : decode cJ2_inflate_0e8fd 10 = .ok (.iload 5, 2) := by decide +kernel
theorem dJ2_inflate_0e8fd_12 : decode cJ2_inflate_0e8fd 12 = .ok (.iload 4, 2) := by decide +kernel
theorem dJ2_inflate_0e8fd_14 : decode cJ2_inflate_0e8fd 14 = .ok (.if_icmp .ge 27, 3) := by decide +kernel
theorem dJ2_inflate_0e8fd_17 : decode cJ2_inflate_0e8fd 17 = .ok (.aload_n 2, 1) := by decide +kernel
theorem dJ2_inflate_0e8fd_18 : decode cJ2_inflate_0e8fd 18 = .ok (.iload_n 3, 1) := by decide +kernel
theorem dJ2_inflate_0e8fd_19 : decode cJ2_inflate_0e8fd 19 = .ok (.iinc 3 1, 3) := by decide +kernel
theorem dJ2_inflate_0e8fd_22 : decode cJ2_inflate_0e8fd 22 = .ok (.aload_n 0, 1) := by decide +kernel
theorem dJ2_inflate_0e8fd_23 : decode cJ2_inflate_0e8fd 23 = .ok (.iload_n 1, 1) := by decide +kernel
theorem dJ2_inflate_0e8fd_24 : decode cJ2_inflate_0e8fd 24 = .ok (.iinc 1 1, 3) := by decide +kernel
theorem dJ2_inflate_0e8fd_27 : decode cJ2_inflate_0e8fd 27 = .ok (.baload, 1) := by decide +kernel
theorem dJ2_inflate_0e8fd_28 : decode cJ2_inflate_0e8fd 28 = .ok (.sipush 255, 3) := by decide +kernel
theorem dJ2_inflate_0e8fd_31 : decode cJ2_inflate_0e8fd 31 = .ok (.iand, 1) := by decide +kernel
theorem dJ2_inflate_0e8fd_32 : decode cJ2_inflate_0e8fd 32 = .ok (.invokestatic 111, 3) := by decide +kernel
theorem dJ2_inflate_0e8fd_35 : decode cJ2_inflate_0e8fd 35 = .ok (.iinc 5 1, 3) := by decide +kernel
theorem dJ2_inflate_0e8fd_38 : decode cJ2_inflate_0e8fd 38 = .ok (.goto (-28), 3) := by decide +kernel
theorem dJ2_inflate_0e8fd_41 : decode cJ2_inflate_0e8fd 41 = .ok (.return_, 1) := by decide +kernel
theorem dJ2_getChars_ba4f3_0 : decode cJ2_getChars_ba4f3 0 = .ok (.iload_n 1, 1) := by decide +kernel
theorem dJ2_getChars_ba4f3_1 : decode cJ2_getChars_ba4f3 1 = .ok (.istore 5, 2) := by decide +kernel
theorem dJ2_getChars_ba4f3_3 : decode cJ2_getChars_ba4f3 3 = .ok (.iload_n 0, 1) := by decide +kernel
theorem dJ2_getChars_ba4f3_4 : decode cJ2_getChars_ba4f3 4 = .ok (.ifCond .ge 7, 3) := by decide +kernel
theorem dJ2_getChars_ba4f3_7 : decode cJ2_getChars_ba4f3 7 = .ok (.iconst 1, 1) := by decide +kernel
theorem dJ2_getChars_ba4f3_8 : decode cJ2_getChars_ba4f3 8 = .ok (.goto 4, 3) := by decide +kernel
theorem dJ2_getChars_ba4f3_11 : decode cJ2_getChars_ba4f3 11 = .ok (.iconst 0, 1) := by decide +kernel
theorem dJ2_getChars_ba4f3_12 : decode cJ2_getChars_ba4f3 12 = .ok (.istore 6, 2) := by decide +kernel
theorem dJ2_getChars_ba4f3_14 : decode cJ2_getChars_ba4f3 14 = .ok (.iload 6, 2) := by decide +kernel
theorem dJ2_getChars_ba4f3_16 : decode cJ2_getChars_ba4f3 16 = .ok (.ifCond .ne 6, 3) := by decide +kernel
theorem dJ2_getChars_ba4f3_19 : decode cJ2_getChars_ba4f3 19 = .ok (.iload_n 0, 1) := by decide +kernel
theorem dJ2_getChars_ba4f3_20 : decode cJ2_getChars_ba4f3 20 = .ok (.ineg, 1) := by decide +kernel
theorem dJ2_getChars_ba4f3_21 : decode cJ2_getChars_ba4f3 21 = .ok (.istore_n 0, 1) := by decide +kernel
theorem dJ2_getChars_ba4f3_22 : decode cJ2_getChars_ba4f3 22 = .ok (.iload_n 0, 1) := by decide +kernel
theorem dJ2_getChars_ba4f3_23 : decode cJ2_getChars_ba4f3 23 = .ok (.bipush (-100), 2) := by decide +kernel
theorem dJ2_getChars_ba4f3_25 : decode cJ2_getChars_ba4f3 25 = .ok (.if_icmp .gt 51, 3) := by decide +kernel
theorem dJ2_getChars_ba4f3_28 : decode cJ2_getChars_ba4f3 28 = .ok (.iload_n 0, 1) := by decide +kernel
theorem dJ2_getChars_ba4f3_29 : decode cJ2_getChars_ba4f3 29 = .ok (.bipush 100, 2) := by decide +kernel
theorem dJ2_getChars_ba4f3_31 : decode cJ2_getChars_ba4f3 31 = .ok (.idiv, 1) := by decide +kernel
theorem dJ2_getChars_ba4f3_32 : decode cJ2_getChars_ba4f3 32 = .ok (.istore_n 3, 1) := by decide +kernel
theorem dJ2_getChars_ba4f3_33 : decode cJ2_getChars_ba4f3 33 = .ok (.iload_n 3, 1) := by decide +kernel
theorem dJ2_getChars_ba4f3_34 : decode cJ2_getChars_ba4f3 34 = .ok (.bipush 100, 2) := by decide +kernel
theorem dJ2_getChars_ba4f3_36 : decode cJ2_getChars_ba4f3 36 = .ok (.imul, 1) := by decide +kernel
theorem dJ2_getChars_ba4f3_37 : decode cJ2_getChars_ba4f3 37 = .ok (.iload_n 0, 1) := by decide +kernel
theorem dJ2_getChars_ba4f3_38 : decode cJ2_getChars_ba4f3 38 = .ok (.isub, 1) := by decide +kernel
theorem dJ2_getChars_ba4f3_39 : decode cJ2_getChars_ba4f3 39 = .ok (.istore 4, 2) := by decide +kernel
theorem dJ2_getChars_ba4f3_41 : decode cJ2_getChars_ba4f3 41 = .ok (.iload_n 3, 1) := by decide +kernel
theorem dJ2_getChars_ba4f3_42 : decode cJ2_getChars_ba4f3 42 = .ok (.istore_n 0, 1) := by decide +kernel
theorem dJ2_getChars_ba4f3_43 : decode cJ2_getChars_ba4f3 43 = .ok (.aload_n 2, 1) := by decide +kernel
theorem dJ2_getChars_ba4f3_44 : decode cJ2_getChars_ba4f3 44 = .ok (.iinc 5 (-1), 3) := by decide +kernel
theorem dJ2_getChars_ba4f3_47 : decode cJ2_getChars_ba4f3 47 = .ok (.iload 5, 2) := by decide +kernel
theorem dJ2_getChars_ba4f3_49 : decode cJ2_getChars_ba4f3 49 = .ok (.getstatic 403, 3) := by decide +kernel
theorem dJ2_getChars_ba4f3_52 : decode cJ2_getChars_ba4f3 52 = .ok (.iload 4, 2) := by decide +kernel
theorem dJ2_getChars_ba4f3_54 : decode cJ2_getChars_ba4f3 54 = .ok (.baload, 1) := by decide +kernel
theorem dJ2_getChars_ba4f3_55 : decode cJ2_getChars_ba4f3 55 = .ok (.invokestatic 111, 3) := by decide +kernel
theorem dJ2_getChars_ba4f3_58 : decode cJ2_getChars_ba4f3 58 = .ok (.aload_n 2, 1) := by decide +kernel
theorem dJ2_getChars_ba4f3_59 : decode cJ2_getChars_ba4f3 59 = .ok (.iinc 5 (-1), 3) := by decide +kernel
theorem dJ2_getChars_ba4f3_62 : decode cJ2_getChars_ba4f3 62 = .ok (.iload 5, 2) := by decide +kernel
theorem dJ2_getChars_ba4f3_64 : decode cJ2_getChars_ba4f3 64 = .ok (.getstatic 407, 3) := by decide +kernel
theorem dJ2_getChars_ba4f3_67 : decode cJ2_getChars_ba4f3 67 = .ok (.iload 4, 2) := by decide +kernel
theorem dJ2_getChars_ba4f3_69 : decode cJ2_getChars_ba4f3 69 = .ok (.baload, 1) := by decide +kernel
theorem dJ2_getChars_ba4f3_70 : decode cJ2_getChars_ba4f3 70 = .ok (.invokestatic 111, 3) := by decide +kernel
theorem dJ2_getChars_ba4f3_73 : decode cJ2_getChars_ba4f3 73 = .ok (.goto (-51), 3) := by decide +kernel
theorem dJ2_getChars_ba4f3_76 : decode cJ2_getChars_ba4f3 76 = .ok (.aload_n 2, 1) := by decide +kernel
theorem dJ2_getChars_ba4f3_77 : decode cJ2_getChars_ba4f3 77 = .ok (.iinc 5 (-1), 3) := by decide +kernel
theorem dJ2_getChars_ba4f3_80 : decode cJ2_getChars_ba4f3 80 = .ok (.iload 5, 2) := by decide +kernel
theorem dJ2_getChars_ba4f3_82 : decode cJ2_getChars_ba4f3 82 = .ok (.getstatic 403, 3) := by decide +kernel
theorem dJ2_getChars_ba4f3_85 : decode cJ2_getChars_ba4f3 85 = .ok (.iload_n 0, 1) := by decide +kernel
theorem dJ2_getChars_ba4f3_86 : decode cJ2_getChars_ba4f3 86 = .ok (.ineg, 1) := by decide +kernel
theorem dJ2_getChars_ba4f3_87 : decode cJ2_getChars_ba4f3 87 = .ok (.baload, 1) := by decide +kernel
theorem dJ2_getChars_ba4f3_88 : decode cJ2_getChars_ba4f3 88 = .ok (.invokestatic 111, 3) := by decide +kernel
theorem dJ2_getChars_ba4f3_91 : decode cJ2_getChars_ba4f3 91 = .ok (.iload_n 0, 1) := by decide +kernel
theorem dJ2_getChars_ba4f3_92 : decode cJ2_getChars_ba4f3 92 = .ok (.bipush (-9), 2) := by decide +kernel
theorem dJ2_getChars_ba4f3_94 : decode cJ2_getChars_ba4f3 94 = .ok (.if_icmp .ge 18, 3) := by decide +kernel
theorem dJ2_getChars_ba4f3_97 : decode cJ2_getChars_ba4f3 97 = .ok (.aload_n 2, 1) := by decide +kernel
theorem dJ2_getChars_ba4f3_98 : decode cJ2_getChars_ba4f3 98 = .ok (.iinc 5 (-1), 3) := by decide +kernel
theorem dJ2_getChars_ba4f3_101 : decode cJ2_getChars_ba4f3 101 = .ok (.iload 5, 2) := by decide +kernel
theorem dJ2_getChars_ba4f3_103 : decode cJ2_getChars_ba4f3 103 = .ok (.getstatic 407, 3) := by decide +kernel
theorem dJ2_getChars_ba4f3_106 : decode cJ2_getChars_ba4f3 106 = .ok (.iload_n 0, 1) := by decide +kernel
theorem dJ2_getChars_ba4f3_107 : decode cJ2_getChars_ba4f3 107 = .ok (.ineg, 1) := by decide +kernel
theorem dJ2_getChars_ba4f3_108 : decode cJ2_getChars_ba4f3 108 = .ok (.baload, 1) := by decide +kernel
theorem dJ2_getChars_ba4f3_109 : decode cJ2_getChars_ba4f3 109 = .ok (.invokestatic 111, 3) := by decide +kernel
theorem dJ2_getChars_ba4f3_112 : decode cJ2_getChars_ba4f3 112 = .ok (.iload 6, 2) := by decide +kernel
theorem dJ2_getChars_ba4f3_114 : decode cJ2_getChars_ba4f3 114 = .ok (.ifCond .eq 14, 3) := by decide +kernel
theorem dJ2_getChars_ba4f3_117 : decode cJ2_getChars_ba4f3 117 = .ok (.aload_n 2, 1) := by decide +kernel
theorem dJ2_getChars_ba4f3_118 : decode cJ2_getChars_ba4f3 118 = .ok (.iinc 5 (-1), 3) := by decide +kernel
theorem dJ2_getChars_ba4f3_121 : decode cJ2_getChars_ba4f3 121 = .ok (.iload 5, 2) := by decide +kernel
theorem dJ2_getChars_ba4f3_123 : decode cJ2_getChars_ba4f3 123 = .ok (.bipush 45, 2) := by decide +kernel
theorem dJ2_getChars_ba4f3_125 : decode cJ2_getChars_ba4f3 125 = .ok (.invokestatic 111, 3) := by decide +kernel
theorem dJ2_getChars_ba4f3_128 : decode cJ2_getChars_ba4f3 128 = .ok (.iload 5, 2) := by decide +kernel
theorem dJ2_getChars_ba4f3_130 : decode cJ2_getChars_ba4f3 130 = .ok (.ireturn, 1) := by decide +kernel
theorem dJ2_checkIndex_2214a_0 : decode cJ2_checkIndex_2214a 0 = .ok (.iload_n 0, 1) := by decide +kernel
theorem dJ2_checkIndex_2214a_1 : decode cJ2_checkIndex_2214a 1 = .ok (.aload_n 1, 1) := by decide +kernel
theorem dJ2_checkIndex_2214a_2 : decode cJ2_checkIndex_2214a 2 = .ok (.invokestatic 48, 3) := by decide +kernel
theorem dJ2_checkIndex_2214a_5 : decode cJ2_checkIndex_2214a 5 = .ok (.invokestatic 414, 3) := by decide +kernel
theorem dJ2_checkIndex_2214a_8 : decode cJ2_checkIndex_2214a 8 = .ok (.return_, 1) := by decide +kernel
theorem dJ2_checkBoundsBeginEnd_d044e_0 : decode cJ2_checkBoundsBeginEnd_d044e 0 = .ok (.iload_n 0, 1) := by decide +kernel
theorem dJ2_checkBoundsBeginEnd_d044e_1 : decode cJ2_checkBoundsBeginEnd_d044e 1 = .ok (.iload_n 1, 1) := by decide +kernel
theorem dJ2_checkBoundsBeginEnd_d044e_2 : decode cJ2_checkBoundsBeginEnd_d044e 2 = .ok (.aload_n 2, 1) := by decide +kernel
theorem dJ2_checkBoundsBeginEnd_d044e_3 : decode cJ2_checkBoundsBeginEnd_d044e 3 = .ok (.invokestatic 48, 3) := by decide +kernel
theorem dJ2_checkBoundsBeginEnd_d044e_6 : decode cJ2_checkBoundsBeginEnd_d044e 6 = .ok (.invokestatic 241, 3) := by decide +kernel
theorem dJ2_checkBoundsBeginEnd_d044e_9 : decode cJ2_checkBoundsBeginEnd_d044e 9 = .ok (.return_, 1) := by decide +kernel
theorem dJ2_checkBoundsOffCount_d044e_0 : decode cJ2_checkBoundsOffCount_d044e 0 = .ok (.iload_n 0, 1) := by decide +kernel
theorem dJ2_checkBoundsOffCount_d044e_1 : decode cJ2_checkBoundsOffCount_d044e 1 = .ok (.iload_n 1, 1) := by decide +kernel
theorem dJ2_checkBoundsOffCount_d044e_2 : decode cJ2_checkBoundsOffCount_d044e 2 = .ok (.aload_n 2, 1) := by decide +kernel
theorem dJ2_checkBoundsOffCount_d044e_3 : decode cJ2_checkBoundsOffCount_d044e 3 = .ok (.invokestatic 48, 3) := by decide +kernel
theorem dJ2_checkBoundsOffCount_d044e_6 : decode cJ2_checkBoundsOffCount_d044e 6 = .ok (.invokestatic 419, 3) := by decide +kernel
theorem dJ2_checkBoundsOffCount_d044e_9 : decode cJ2_checkBoundsOffCount_d044e 9 = .ok (.pop, 1) := by decide +kernel
theorem dJ2_checkBoundsOffCount_d044e_10 : decode cJ2_checkBoundsOffCount_d044e 10 = .ok (.return_, 1) := by decide +kernel
theorem dJ7_fill_53178_0 : decode cJ7_fill_53178 0 = .ok (.iconst 0, 1) := by decide +kernel
theorem dJ7_fill_53178_1 : decode cJ7_fill_53178 1 = .ok (.istore_n 2, 1) := by decide +kernel
theorem dJ7_fill_53178_2 : decode cJ7_fill_53178 2 = .ok (.aload_n 0, 1) := by decide +kernel
theorem dJ7_fill_53178_3 : decode cJ7_fill_53178 3 = .ok (.arraylength, 1) := by decide +kernel
theorem dJ7_fill_53178_4 : decode cJ7_fill_53178 4 = .ok (.istore_n 3, 1) := by decide +kernel
theorem dJ7_fill_53178_5 : decode cJ7_fill_53178 5 = .ok (.iload_n 2, 1) := by decide +kernel
theorem dJ7_fill_53178_6 : decode cJ7_fill_53178 6 = .ok (.iload_n 3, 1) := by decide +kernel
theorem dJ7_fill_53178_7 : decode cJ7_fill_53178 7 = .ok (.if_icmp .ge 13, 3) := by decide +kernel
theorem dJ7_fill_53178_10 : decode cJ7_fill_53178 10 = .ok (.aload_n 0, 1) := by decide +kernel
theorem dJ7_fill_53178_11 : decode cJ7_fill_53178 11 = .ok (.iload_n 2, 1) := by decide +kernel
theorem dJ7_fill_53178_12 : decode cJ7_fill_53178 12 = .ok (.iload_n 1, 1) := by decide +kernel
theorem dJ7_fill_53178_13 : decode cJ7_fill_53178 13 = .ok (.iastore, 1) := by decide +kernel
theorem dJ7_fill_53178_14 : decode cJ7_fill_53178 14 = .ok (.iinc 2 1, 3) := by decide +kernel
theorem dJ7_fill_53178_17 : decode cJ7_fill_53178 17 = .ok (.goto (-12), 3) := by decide +kernel
theorem dJ7_fill_53178_20 : decode cJ7_fill_53178 20 = .ok (.return_, 1) := by decide +kernel
theorem dJ7_copyOf_9075b_0 : decode cJ7_copyOf_9075b 0 = .ok (.iload_n 1, 1) := by decide +kernel
theorem dJ7_copyOf_9075b_1 : decode cJ7_copyOf_9075b 1 = .ok (.aload_n 0, 1) := by decide +kernel
theorem dJ7_copyOf_9075b_2 : decode cJ7_copyOf_9075b 2 = .ok (.arraylength, 1) := by decide +kernel
theorem dJ7_copyOf_9075b_3 : decode cJ7_copyOf_9075b 3 = .ok (.if_icmp .ne 11, 3) := by decide +kernel
theorem dJ7_copyOf_9075b_6 : decode cJ7_copyOf_9075b 6 = .ok (.aload_n 0, 1) := by decide +kernel
theorem dJ7_copyOf_9075b_7 : decode cJ7_copyOf_9075b 7 = .ok (.invokevirtual 310, 3) := by decide +kernel
theorem dJ7_copyOf_9075b_10 : decode cJ7_copyOf_9075b 10 = .ok (.checkcast 311, 3) := by decide +kernel
theorem dJ7_copyOf_9075b_13 : decode cJ7_copyOf_9075b 13 = .ok (.areturn, 1) := by decide +kernel
theorem dJ7_copyOf_9075b_14 : decode cJ7_copyOf_9075b 14 = .ok (.iload_n 1, 1) := by decide +kernel
theorem dJ7_copyOf_9075b_15 : decode cJ7_copyOf_9075b 15 = .ok (.newarray .byte, 2) := by decide +kernel
theorem dJ7_copyOf_9075b_17 : decode cJ7_copyOf_9075b 17 = .ok (.astore_n 2, 1) := by decide +kernel
theorem dJ7_copyOf_9075b_18 : decode cJ7_copyOf_9075b 18 = .ok (.aload_n 0, 1) := by decide +kernel
theorem dJ7_copyOf_9075b_19 : decode cJ7_copyOf_9075b 19 = .ok (.iconst 0, 1) := by decide +kernel
theorem dJ7_copyOf_9075b_20 : decode cJ7_copyOf_9075b 20 = .ok (.aload_n 2, 1) := by decide +kernel
theorem dJ7_copyOf_9075b_21 : decode cJ7_copyOf_9075b 21 = .ok (.iconst 0, 1) := by decide +kernel
theorem dJ7_copyOf_9075b_22 : decode cJ7_copyOf_9075b 22 = .ok (.aload_n 0, 1) := by decide +kernel
theorem dJ7_copyOf_9075b_23 : decode cJ7_copyOf_9075b 23 = .ok (.arraylength, 1) := by decide +kernel
theorem dJ7_copyOf_9075b_24 : decode cJ7_copyOf_9075b 24 = .ok (.iload_n 1, 1) := by decide +kernel
theorem dJ7_copyOf_9075b_25 : decode cJ7_copyOf_9075b 25 = .ok (.invokestatic 304, 3) := by decide +kernel
theorem dJ7_copyOf_9075b_28 : decode cJ7_copyOf_9075b 28 = .ok (.invokestatic 150, 3) := by decide +kernel
theorem dJ7_copyOf_9075b_31 : decode cJ7_copyOf_9075b 31 = .ok (.aload_n 2, 1) := by decide +kernel
theorem dJ7_copyOf_9075b_32 : decode cJ7_copyOf_9075b 32 = .ok (.areturn, 1) := by decide +kernel
theorem dJ7_checkLength_df160_0 : decode cJ7_checkLength_df160 0 = .ok (.iload_n 1, 1) := by decide +kernel
theorem dJ7_checkLength_df160_1 : decode cJ7_checkLength_df160 1 = .ok (.iload_n 0, 1) := by decide +kernel
theorem dJ7_checkLength_df160_2 : decode cJ7_checkLength_df160 2 = .ok (.if_icmp .ge 35, 3) := by decide +kernel
theorem dJ7_checkLength_df160_5 : decode cJ7_checkLength_df160 5 = .ok (.new 43, 3) := by decide +kernel
theorem dJ7_checkLength_df160_8 : decode cJ7_checkLength_df160 8 = .ok (.dup, 1) := by decide +kernel
theorem dJ7_checkLength_df160_9 : decode cJ7_checkLength_df160 9 = .ok (.new 45, 3) := by decide +kernel
theorem dJ7_checkLength_df160_12 : decode cJ7_checkLength_df160 12 = .ok (.dup, 1) := by decide +kernel
theorem dJ7_checkLength_df160_13 : decode cJ7_checkLength_df160 13 = .ok (.invokespecial 47, 3) := by decide +kernel
theorem dJ7_checkLength_df160_16 : decode cJ7_checkLength_df160 16 = .ok (.iload_n 0, 1) := by decide +kernel
theorem dJ7_checkLength_df160_17 : decode cJ7_checkLength_df160 17 = .ok (.invokevirtual 54, 3) := by decide +kernel
theorem dJ7_checkLength_df160_20 : decode cJ7_checkLength_df160 20 = .ok (.ldc_w 337, 3) := by decide +kernel
theorem dJ7_checkLength_df160_23 : decode cJ7_checkLength_df160 23 = .ok (.invokevirtual 50, 3) := by decide +kernel
theorem dJ7_checkLength_df160_26 : decode cJ7_checkLength_df160 26 = .ok (.iload_n 1, 1) := by decide +kernel
theorem dJ7_checkLength_df160_27 : decode cJ7_checkLength_df160 27 = .ok (.invokevirtual 54, 3) := by decide +kernel
theorem dJ7_checkLength_df160_30 : decode cJ7_checkLength_df160 30 = .ok (.invokevirtual 61, 3) := by decide +kernel
theorem dJ7_checkLength_df160_33 : decode cJ7_checkLength_df160 33 = .ok (.invokespecial 65, 3) := by decide +kernel
theorem dJ7_checkLength_df160_36 : decode cJ7_checkLength_df160 36 = .ok (.athrow, 1) := by decide +kernel
theorem dJ7_checkLength_df160_37 : decode cJ7_checkLength_df160 37 = .ok (.return_, 1) := by decide +kernel
theorem dJ7_copyOfRange_39247_0 : decode cJ7_copyOfRange_39247 0 = .ok (.iload_n 1, 1) := by decide +kernel
theorem dJ7_copyOfRange_39247_1 : decode cJ7_copyOfRange_39247 1 = .ok (.ifCond .ne 9, 3) := by decide +kernel
theorem dJ7_copyOfRange_39247_4 : decode cJ7_copyOfRange_39247 4 = .ok (.iload_n 2, 1) := by decide +kernel
theorem dJ7_copyOfRange_39247_5 : decode cJ7_copyOfRange_39247 5 = .ok (.aload_n 0, 1) := by decide +kernel
theorem dJ7_copyOfRange_39247_6 : decode cJ7_copyOfRange_39247 6 = .ok (.arraylength, 1) := by decide +kernel
theorem dJ7_copyOfRange_39247_7 : decode cJ7_copyOfRange_39247 7 = .ok (.if_icmp .eq 10, 3) := by decide +kernel
theorem dJ7_copyOfRange_39247_10 : decode cJ7_copyOfRange_39247 10 = .ok (.aload_n 0, 1) := by decide +kernel
theorem dJ7_copyOfRange_39247_11 : decode cJ7_copyOfRange_39247 11 = .ok (.iload_n 1, 1) := by decide +kernel
theorem dJ7_copyOfRange_39247_12 : decode cJ7_copyOfRange_39247 12 = .ok (.iload_n 2, 1) := by decide +kernel
theorem dJ7_copyOfRange_39247_13 : decode cJ7_copyOfRange_39247 13 = .ok (.invokestatic 339, 3) := by decide +kernel
theorem dJ7_copyOfRange_39247_16 : decode cJ7_copyOfRange_39247 16 = .ok (.areturn, 1) := by decide +kernel
theorem dJ7_copyOfRange_39247_17 : decode cJ7_copyOfRange_39247 17 = .ok (.aload_n 0, 1) := by decide +kernel
theorem dJ7_copyOfRange_39247_18 : decode cJ7_copyOfRange_39247 18 = .ok (.invokevirtual 310, 3) := by decide +kernel
theorem dJ7_copyOfRange_39247_21 : decode cJ7_copyOfRange_39247 21 = .ok (.checkcast 311, 3) := by decide +kernel
theorem dJ7_copyOfRange_39247_24 : decode cJ7_copyOfRange_39247 24 = .ok (.areturn, 1) := by decide +kernel
theorem dJ7_copyOfRangeByte_39247_0 : decode cJ7_copyOfRangeByte_39247 0 = .ok (.iload_n 1, 1) := by decide +kernel
theorem dJ7_copyOfRangeByte_39247_1 : decode cJ7_copyOfRangeByte_39247 1 = .ok (.iload_n 2, 1) := by decide +kernel
theorem dJ7_copyOfRangeByte_39247_2 : decode cJ7_copyOfRangeByte_39247 2 = .ok (.invokestatic 343, 3) := by decide +kernel
theorem dJ7_copyOfRangeByte_39247_5 : decode cJ7_copyOfRangeByte_39247 5 = .ok (.iload_n 2, 1) := by decide +kernel
theorem dJ7_copyOfRangeByte_39247_6 : decode cJ7_copyOfRangeByte_39247 6 = .ok (.iload_n 1, 1) := by decide +kernel
theorem dJ7_copyOfRangeByte_39247_7 : decode cJ7_copyOfRangeByte_39247 7 = .ok (.isub, 1) := by decide +kernel
theorem dJ7_copyOfRangeByte_39247_8 : decode cJ7_copyOfRangeByte_39247 8 = .ok (.istore_n 3, 1) := by decide +kernel
theorem dJ7_copyOfRangeByte_39247_9 : decode cJ7_copyOfRangeByte_39247 9 = .ok (.iload_n 3, 1) := by decide +kernel
theorem dJ7_copyOfRangeByte_39247_10 : decode cJ7_copyOfRangeByte_39247 10 = .ok (.newarray .byte, 2) := by decide +kernel
theorem dJ7_copyOfRangeByte_39247_12 : decode cJ7_copyOfRangeByte_39247 12 = .ok (.astore 4, 2) := by decide +kernel
theorem dJ7_copyOfRangeByte_39247_14 : decode cJ7_copyOfRangeByte_39247 14 = .ok (.aload_n 0, 1) := by decide +kernel
theorem dJ7_copyOfRangeByte_39247_15 : decode cJ7_copyOfRangeByte_39247 15 = .ok (.iload_n 1, 1) := by decide +kernel
theorem dJ7_copyOfRangeByte_39247_16 : decode cJ7_copyOfRangeByte_39247 16 = .ok (.aload 4, 2) := by decide +kernel
theorem dJ7_copyOfRangeByte_39247_18 : decode cJ7_copyOfRangeByte_39247 18 = .ok (.iconst 0, 1) := by decide +kernel
theorem dJ7_copyOfRangeByte_39247_19 : decode cJ7_copyOfRangeByte_39247 19 = .ok (.aload_n 0, 1) := by decide +kernel
theorem dJ7_copyOfRangeByte_39247_20 : decode cJ7_copyOfRangeByte_39247 20 = .ok (.arraylength, 1) := by decide +kernel
theorem dJ7_copyOfRangeByte_39247_21 : decode cJ7_copyOfRangeByte_39247 21 = .ok (.iload_n 1, 1) := by decide +kernel
theorem dJ7_copyOfRangeByte_39247_22 : decode cJ7_copyOfRangeByte_39247 22 = .ok (.isub, 1) := by decide +kernel
theorem dJ7_copyOfRangeByte_39247_23 : decode cJ7_copyOfRangeByte_39247 23 = .ok (.iload_n 3, 1) := by decide +kernel
theorem dJ7_copyOfRangeByte_39247_24 : decode cJ7_copyOfRangeByte_39247 24 = .ok (.invokestatic 304, 3) := by decide +kernel
theorem dJ7_copyOfRangeByte_39247_27 : decode cJ7_copyOfRangeByte_39247 27 = .ok (.invokestatic 150, 3) := by decide +kernel
theorem dJ7_copyOfRangeByte_39247_30 : decode cJ7_copyOfRangeByte_39247 30 = .ok (.aload 4, 2) := by decide +kernel
theorem dJ7_copyOfRangeByte_39247_32 : decode cJ7_copyOfRangeByte_39247 32 = .ok (.areturn, 1) := by decide +kernel
theorem dJ8_newLength_cabcc_0 : decode cJ8_newLength_cabcc 0 = .ok (.iload_n 0, 1) := by decide +kernel
theorem dJ8_newLength_cabcc_1 : decode cJ8_newLength_cabcc 1 = .ok (.iload_n 1, 1) := by decide +kernel
theorem dJ8_newLength_cabcc_2 : decode cJ8_newLength_cabcc 2 = .ok (.iload_n 2, 1) := by decide +kernel
theorem dJ8_newLength_cabcc_3 : decode cJ8_newLength_cabcc 3 = .ok (.invokestatic 194, 3) := by decide +kernel
theorem dJ8_newLength_cabcc_6 : decode cJ8_newLength_cabcc 6 = .ok (.iadd, 1) := by decide +kernel
theorem dJ8_newLength_cabcc_7 : decode cJ8_newLength_cabcc 7 = .ok (.istore_n 3, 1) := by decide +kernel
theorem dJ8_newLength_cabcc_8 : decode cJ8_newLength_cabcc 8 = .ok (.iconst 0, 1) := by decide +kernel
theorem dJ8_newLength_cabcc_9 : decode cJ8_newLength_cabcc 9 = .ok (.iload_n 3, 1) := by decide +kernel
theorem dJ8_newLength_cabcc_10 : decode cJ8_newLength_cabcc 10 = .ok (.if_icmp .ge 11, 3) := by decide +kernel
theorem dJ8_newLength_cabcc_13 : decode cJ8_newLength_cabcc 13 = .ok (.iload_n 3, 1) := by decide +kernel
theorem dJ8_newLength_cabcc_14 : decode cJ8_newLength_cabcc 14 = .ok (.ldc 200, 2) := by decide +kernel
theorem dJ8_newLength_cabcc_16 : decode cJ8_newLength_cabcc 16 = .ok (.if_icmp .gt 5, 3) := by decide +kernel
theorem dJ8_newLength_cabcc_19 : decode cJ8_newLength_cabcc 19 = .ok (.iload_n 3, 1) := by decide +kernel
theorem dJ8_newLength_cabcc_20 : decode cJ8_newLength_cabcc 20 = .ok (.ireturn, 1) := by decide +kernel
theorem dJ8_newLength_cabcc_21 : decode cJ8_newLength_cabcc 21 = .ok (.iload_n 0, 1) := by decide +kernel
theorem dJ8_newLength_cabcc_22 : decode cJ8_newLength_cabcc 22 = .ok (.iload_n 1, 1) := by decide +kernel
theorem dJ8_newLength_cabcc_23 : decode cJ8_newLength_cabcc 23 = .ok (.invokestatic 201, 3) := by decide +kernel
theorem dJ8_newLength_cabcc_26 : decode cJ8_newLength_cabcc 26 = .ok (.ireturn, 1) := by decide +kernel
theorem dJ8_hugeLength_7cf53_0 : decode cJ8_hugeLength_7cf53 0 = .ok (.iload_n 0, 1) := by decide +kernel
theorem dJ8_hugeLength_7cf53_1 : decode cJ8_hugeLength_7cf53 1 = .ok (.iload_n 1, 1) := by decide +kernel
theorem dJ8_hugeLength_7cf53_2 : decode cJ8_hugeLength_7cf53 2 = .ok (.iadd, 1) := by decide +kernel
theorem dJ8_hugeLength_7cf53_3 : decode cJ8_hugeLength_7cf53 3 = .ok (.istore_n 2, 1) := by decide +kernel
theorem dJ8_hugeLength_7cf53_4 : decode cJ8_hugeLength_7cf53 4 = .ok (.iload_n 2, 1) := by decide +kernel
theorem dJ8_hugeLength_7cf53_5 : decode cJ8_hugeLength_7cf53 5 = .ok (.ifCond .ge 44, 3) := by decide +kernel
theorem dJ8_hugeLength_7cf53_8 : decode cJ8_hugeLength_7cf53 8 = .ok (.new 204, 3) := by decide +kernel
theorem dJ8_hugeLength_7cf53_11 : decode cJ8_hugeLength_7cf53 11 = .ok (.dup, 1) := by decide +kernel
theorem dJ8_hugeLength_7cf53_12 : decode cJ8_hugeLength_7cf53 12 = .ok (.new 89, 3) := by decide +kernel
theorem dJ8_hugeLength_7cf53_15 : decode cJ8_hugeLength_7cf53 15 = .ok (.dup, 1) := by decide +kernel
theorem dJ8_hugeLength_7cf53_16 : decode cJ8_hugeLength_7cf53 16 = .ok (.invokespecial 91, 3) := by decide +kernel
theorem dJ8_hugeLength_7cf53_19 : decode cJ8_hugeLength_7cf53 19 = .ok (.ldc 206, 2) := by decide +kernel
theorem dJ8_hugeLength_7cf53_21 : decode cJ8_hugeLength_7cf53 21 = .ok (.invokevirtual 94, 3) := by decide +kernel
theorem dJ8_hugeLength_7cf53_24 : decode cJ8_hugeLength_7cf53 24 = .ok (.iload_n 0, 1) := by decide +kernel
theorem dJ8_hugeLength_7cf53_25 : decode cJ8_hugeLength_7cf53 25 = .ok (.invokevirtual 98, 3) := by decide +kernel
theorem dJ8_hugeLength_7cf53_28 : decode cJ8_hugeLength_7cf53 28 = .ok (.ldc 208, 2) := by decide +kernel
theorem dJ8_hugeLength_7cf53_30 : decode cJ8_hugeLength_7cf53 30 = .ok (.invokevirtual 94, 3) := by decide +kernel
theorem dJ8_hugeLength_7cf53_33 : decode cJ8_hugeLength_7cf53 33 = .ok (.iload_n 1, 1) := by decide +kernel
theorem dJ8_hugeLength_7cf53_34 : decode cJ8_hugeLength_7cf53 34 = .ok (.invokevirtual 98, 3) := by decide +kernel
theorem dJ8_hugeLength_7cf53_37 : decode cJ8_hugeLength_7cf53 37 = .ok (.ldc 210, 2) := by decide +kernel
theorem dJ8_hugeLength_7cf53_39 : decode cJ8_hugeLength_7cf53 39 = .ok (.invokevirtual 94, 3) := by decide +kernel
theorem dJ8_hugeLength_7cf53_42 : decode cJ8_hugeLength_7cf53 42 = .ok (.invokevirtual 101, 3) := by decide +kernel
theorem dJ8_hugeLength_7cf53_45 : decode cJ8_hugeLength_7cf53 45 = .ok (.invokespecial 212, 3) := by decide +kernel
theorem dJ8_hugeLength_7cf53_48 : decode cJ8_hugeLength_7cf53 48 = .ok (.athrow, 1) := by decide +kernel
theorem dJ8_hugeLength_7cf53_49 : decode cJ8_hugeLength_7cf53 49 = .ok (.iload_n 2, 1) := by decide +kernel
theorem dJ8_hugeLength_7cf53_50 : decode cJ8_hugeLength_7cf53 50 = .ok (.ldc 200, 2) := by decide +kernel
theorem dJ8_hugeLength_7cf53_52 : decode cJ8_hugeLength_7cf53 52 = .ok (.if_icmp .gt 6, 3) := by decide +kernel
theorem dJ8_hugeLength_7cf53_55 : decode cJ8_hugeLength_7cf53 55 = .ok (.ldc 200, 2) := by decide +kernel
theorem dJ8_hugeLength_7cf53_57 : decode cJ8_hugeLength_7cf53 57 = .ok (.ireturn, 1) := by decide +kernel
theorem dJ8_hugeLength_7cf53_58 : decode cJ8_hugeLength_7cf53 58 = .ok (.iload_n 2, 1) := by decide +kernel
theorem dJ8_hugeLength_7cf53_59 : decode cJ8_hugeLength_7cf53 59 = .ok (.ireturn, 1) := by decide +kernel
theorem dJ3_checkIndex_8e157_0 : decode cJ3_checkIndex_8e157 0 = .ok (.iload_n 0, 1) := by decide +kernel
theorem dJ3_checkIndex_8e157_1 : decode cJ3_checkIndex_8e157 1 = .ok (.ifCond .lt 8, 3) := by decide +kernel
theorem dJ3_checkIndex_8e157_4 : decode cJ3_checkIndex_8e157 4 = .ok (.iload_n 0, 1) := by decide +kernel
theorem dJ3_checkIndex_8e157_5 : decode cJ3_checkIndex_8e157 5 = .ok (.iload_n 1, 1) := by decide +kernel
theorem dJ3_checkIndex_8e157_6 : decode cJ3_checkIndex_8e157 6 = .ok (.if_icmp .lt 10, 3) := by decide +kernel
theorem dJ3_checkIndex_8e157_9 : decode cJ3_checkIndex_8e157 9 = .ok (.aload_n 2, 1) := by decide +kernel
theorem dJ3_checkIndex_8e157_10 : decode cJ3_checkIndex_8e157 10 = .ok (.iload_n 0, 1) := by decide +kernel
theorem dJ3_checkIndex_8e157_11 : decode cJ3_checkIndex_8e157 11 = .ok (.iload_n 1, 1) := by decide +kernel
theorem dJ3_checkIndex_8e157_12 : decode cJ3_checkIndex_8e157 12 = .ok (.invokestatic 95, 3) := by decide +kernel
theorem dJ3_checkIndex_8e157_15 : decode cJ3_checkIndex_8e157 15 = .ok (.athrow, 1) := by decide +kernel
theorem dJ3_checkIndex_8e157_16 : decode cJ3_checkIndex_8e157 16 = .ok (.iload_n 0, 1) := by decide +kernel
theorem dJ3_checkIndex_8e157_17 : decode cJ3_checkIndex_8e157 17 = .ok (.ireturn, 1) := by decide +kernel
theorem dJ3_checkFromToIndex_8c36e_0 : decode cJ3_checkFromToIndex_8c36e 0 = .ok (.iload_n 0, 1) := by decide +kernel
theorem dJ3_checkFromToIndex_8c36e_1 : decode cJ3_checkFromToIndex_8c36e 1 = .ok (.ifCond .lt 13, 3) := by decide +kernel
theorem dJ3_checkFromToIndex_8c36e_4 : decode cJ3_checkFromToIndex_8c36e 4 = .ok (.iload_n 0, 1) := by decide +kernel
theorem dJ3_checkFromToIndex_8c36e_5 : decode cJ3_checkFromToIndex_8c36e 5 = .ok (.iload_n 1, 1) := by decide +kernel
theorem dJ3_checkFromToIndex_8c36e_6 : decode cJ3_checkFromToIndex_8c36e 6 = .ok (.if_icmp .gt 8, 3) := by decide +kernel
theorem dJ3_checkFromToIndex_8c36e_9 : decode cJ3_checkFromToIndex_8c36e 9 = .ok (.iload_n 1, 1) := by decide +kernel
theorem dJ3_checkFromToIndex_8c36e_10 : decode cJ3_checkFromToIndex_8c36e 10 = .ok (.iload_n 2, 1) := by decide +kernel
theorem dJ3_checkFromToIndex_8c36e_11 : decode cJ3_checkFromToIndex_8c36e 11 = .ok (.if_icmp .le 11, 3) := by decide +kernel
theorem dJ3_checkFromToIndex_8c36e_14 : decode cJ3_checkFromToIndex_8c36e 14 = .ok (.aload_n 3, 1) := by decide +kernel
theorem dJ3_checkFromToIndex_8c36e_15 : decode cJ3_checkFromToIndex_8c36e 15 = .ok (.iload_n 0, 1) := by decide +kernel
theorem dJ3_checkFromToIndex_8c36e_16 : decode cJ3_checkFromToIndex_8c36e 16 = .ok (.iload_n 1, 1) := by decide +kernel
theorem dJ3_checkFromToIndex_8c36e_17 : decode cJ3_checkFromToIndex_8c36e 17 = .ok (.iload_n 2, 1) := by decide +kernel
theorem dJ3_checkFromToIndex_8c36e_18 : decode cJ3_checkFromToIndex_8c36e 18 = .ok (.invokestatic 99, 3) := by decide +kernel
theorem dJ3_checkFromToIndex_8c36e_21 : decode cJ3_checkFromToIndex_8c36e 21 = .ok (.athrow, 1) := by decide +kernel
theorem dJ3_checkFromToIndex_8c36e_22 : decode cJ3_checkFromToIndex_8c36e 22 = .ok (.iload_n 0, 1) := by decide +kernel
theorem dJ3_checkFromToIndex_8c36e_23 : decode cJ3_checkFromToIndex_8c36e 23 = .ok (.ireturn, 1) := by decide +kernel
theorem dJ3_checkFromIndexSize_8c36e_0 : decode cJ3_checkFromIndexSize_8c36e 0 = .ok (.iload_n 2, 1) := by decide +kernel
theorem dJ3_checkFromIndexSize_8c36e_1 : decode cJ3_checkFromIndexSize_8c36e 1 = .ok (.iload_n 0, 1) := by decide +kernel
theorem dJ3_checkFromIndexSize_8c36e_2 : decode cJ3_checkFromIndexSize_8c36e 2 = .ok (.ior, 1) := by decide +kernel
theorem dJ3_checkFromIndexSize_8c36e_3 : decode cJ3_checkFromIndexSize_8c36e 3 = .ok (.iload_n 1, 1) := by decide +kernel
theorem dJ3_checkFromIndexSize_8c36e_4 : decode cJ3_checkFromIndexSize_8c36e 4 = .ok (.ior, 1) := by decide +kernel
theorem dJ3_checkFromIndexSize_8c36e_5 : decode cJ3_checkFromIndexSize_8c36e 5 = .ok (.ifCond .lt 10, 3) := by decide +kernel
theorem dJ3_checkFromIndexSize_8c36e_8 : decode cJ3_checkFromIndexSize_8c36e 8 = .ok (.iload_n 1, 1) := by decide +kernel
theorem dJ3_checkFromIndexSize_8c36e_9 : decode cJ3_checkFromIndexSize_8c36e 9 = .ok (.iload_n 2, 1) := by decide +kernel
theorem dJ3_checkFromIndexSize_8c36e_10 : decode cJ3_checkFromIndexSize_8c36e 10 = .ok (.iload_n 0, 1) := by decide +kernel
theorem dJ3_checkFromIndexSize_8c36e_11 : decode cJ3_checkFromIndexSize_8c36e 11 = .ok (.isub, 1) := by decide +kernel
theorem dJ3_checkFromIndexSize_8c36e_12 : decode cJ3_checkFromIndexSize_8c36e 12 = .ok (.if_icmp .le 11, 3) := by decide +kernel
theorem dJ3_checkFromIndexSize_8c36e_15 : decode cJ3_checkFromIndexSize_8c36e 15 = .ok (.aload_n 3, 1) := by decide +kernel
theorem dJ3_checkFromIndexSize_8c36e_16 : decode cJ3_checkFromIndexSize_8c36e 16 = .ok (.iload_n 0, 1) := by decide +kernel
theorem dJ3_checkFromIndexSize_8c36e_17 : decode cJ3_checkFromIndexSize_8c36e 17 = .ok (.iload_n 1, 1) := by decide +kernel
theorem dJ3_checkFromIndexSize_8c36e_18 : decode cJ3_checkFromIndexSize_8c36e 18 = .ok (.iload_n 2, 1) := by decide +kernel
theorem dJ3_checkFromIndexSize_8c36e_19 : decode cJ3_checkFromIndexSize_8c36e 19 = .ok (.invokestatic 103, 3) := by decide +kernel
theorem dJ3_checkFromIndexSize_8c36e_22 : decode cJ3_checkFromIndexSize_8c36e 22 = .ok (.athrow, 1) := by decide +kernel
theorem dJ3_checkFromIndexSize_8c36e_23 : decode cJ3_checkFromIndexSize_8c36e 23 = .ok (.iload_n 0, 1) := by decide +kernel
theorem dJ3_checkFromIndexSize_8c36e_24 : decode cJ3_checkFromIndexSize_8c36e 24 = .ok (.ireturn, 1) := by decide +kernel
