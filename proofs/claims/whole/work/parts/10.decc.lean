theorem dX5_init_0 : decode cX5_init 0 = .ok (.aload_n 0, 1) := by decide +kernel
theorem dX5_init_1 : decode cX5_init 1 = .ok (.invokespecial 1, 3) := by decide +kernel
theorem dX5_init_4 : decode cX5_init 4 = .ok (.aload_n 0, 1) := by decide +kernel
theorem dX5_init_5 : decode cX5_init 5 = .ok (.sipush 1400, 3) := by decide +kernel
theorem dX5_init_8 : decode cX5_init 8 = .ok (.newarray .int, 2) := by decide +kernel
theorem dX5_init_10 : decode cX5_init 10 = .ok (.putfield 7, 3) := by decide +kernel
theorem dX5_init_13 : decode cX5_init 13 = .ok (.aload_n 0, 1) := by decide +kernel
theorem dX5_init_14 : decode cX5_init 14 = .ok (.iconst 2, 1) := by decide +kernel
theorem dX5_init_15 : decode cX5_init 15 = .ok (.newarray .boolean, 2) := by decide +kernel
theorem dX5_init_17 : decode cX5_init 17 = .ok (.putfield 13, 3) := by decide +kernel
theorem dX5_init_20 : decode cX5_init 20 = .ok (.aload_n 0, 1) := by decide +kernel
theorem dX5_init_21 : decode cX5_init 21 = .ok (.bipush 8, 2) := by decide +kernel
theorem dX5_init_23 : decode cX5_init 23 = .ok (.newarray .int, 2) := by decide +kernel
theorem dX5_init_25 : decode cX5_init 25 = .ok (.putfield 17, 3) := by decide +kernel
theorem dX5_init_28 : decode cX5_init 28 = .ok (.aload_n 0, 1) := by decide +kernel
theorem dX5_init_29 : decode cX5_init 29 = .ok (.bipush 8, 2) := by decide +kernel
theorem dX5_init_31 : decode cX5_init 31 = .ok (.newarray .int, 2) := by decide +kernel
theorem dX5_init_33 : decode cX5_init 33 = .ok (.putfield 20, 3) := by decide +kernel
theorem dX5_init_36 : decode cX5_init 36 = .ok (.aload_n 0, 1) := by decide +kernel
theorem dX5_init_37 : decode cX5_init 37 = .ok (.bipush 8, 2) := by decide +kernel
theorem dX5_init_39 : decode cX5_init 39 = .ok (.newarray .int, 2) := by decide +kernel
theorem dX5_init_41 : decode cX5_init 41 = .ok (.putfield 23, 3) := by decide +kernel
theorem dX5_init_44 : decode cX5_init 44 = .ok (.aload_n 0, 1) := by decide +kernel
theorem dX5_init_45 : decode cX5_init 45 = .ok (.bipush 8, 2) := by decide +kernel
theorem dX5_init_47 : decode cX5_init 47 = .ok (.newarray .int, 2) := by decide +kernel
theorem dX5_init_49 : decode cX5_init 49 = .ok (.putfield 26, 3) := by decide +kernel
theorem dX5_init_52 : decode cX5_init 52 = .ok (.aload_n 0, 1) := by decide +kernel
theorem dX5_init_53 : decode cX5_init 53 = .ok (.bipush 8, 2) := by decide +kernel
theorem dX5_init_55 : decode cX5_init 55 = .ok (.newarray .int, 2) := by decide +kernel
theorem dX5_init_57 : decode cX5_init 57 = .ok (.putfield 29, 3) := by decide +kernel
theorem dX5_init_60 : decode cX5_init 60 = .ok (.aload_n 0, 1) := by decide +kernel
theorem dX5_init_61 : decode cX5_init 61 = .ok (.bipush 8, 2) := by decide +kernel
theorem dX5_init_63 : decode cX5_init 63 = .ok (.newarray .int, 2) := by decide +kernel
theorem dX5_init_65 : decode cX5_init 65 = .ok (.putfield 32, 3) := by decide +kernel
theorem dX5_init_68 : decode cX5_init 68 = .ok (.aload_n 0, 1) := by decide +kernel
theorem dX5_init_69 : decode cX5_init 69 = .ok (.bipush 8, 2) := by decide +kernel
theorem dX5_init_71 : decode cX5_init 71 = .ok (.newarray .int, 2) := by decide +kernel
theorem dX5_init_73 : decode cX5_init 73 = .ok (.putfield 35, 3) := by decide +kernel
theorem dX5_init_76 : decode cX5_init 76 = .ok (.aload_n 0, 1) := by decide +kernel
theorem dX5_init_77 : decode cX5_init 77 = .ok (.bipush 6, 2) := by decide +kernel
theorem dX5_init_79 : decode cX5_init 79 = .ok (.newarray .int, 2) := by decide +kernel
theorem dX5_init_81 : decode cX5_init 81 = .ok (.putfield 38, 3) := by decide +kernel
theorem dX5_init_84 : decode cX5_init 84 = .ok (.aload_n 0, 1) := by decide +kernel
theorem dX5_init_85 : decode cX5_init 85 = .ok (.sipush 200, 3) := by decide +kernel
theorem dX5_init_88 : decode cX5_init 88 = .ok (.newarray .int, 2) := by decide +kernel
theorem dX5_init_90 : decode cX5_init 90 = .ok (.putfield 41, 3) := by decide +kernel
theorem dX5_init_93 : decode cX5_init 93 = .ok (.aload_n 0, 1) := by decide +kernel
theorem dX5_init_94 : decode cX5_init 94 = .ok (.bipush 6, 2) := by decide +kernel
theorem dX5_init_96 : decode cX5_init 96 = .ok (.newarray .int, 2) := by decide +kernel
theorem dX5_init_98 : decode cX5_init 98 = .ok (.putfield 44, 3) := by decide +kernel
theorem dX5_init_101 : decode cX5_init 101 = .ok (.aload_n 0, 1) := by decide +kernel
theorem dX5_init_102 : decode cX5_init 102 = .ok (.bipush 6, 2) := by decide +kernel
theorem dX5_init_104 : decode cX5_init 104 = .ok (.newarray .int, 2) := by decide +kernel
theorem dX5_init_106 : decode cX5_init 106 = .ok (.putfield 47, 3) := by decide +kernel
theorem dX5_init_109 : decode cX5_init 109 = .ok (.aload_n 0, 1) := by decide +kernel
theorem dX5_init_110 : decode cX5_init 110 = .ok (.iconst 4, 1) := by decide +kernel
theorem dX5_init_111 : decode cX5_init 111 = .ok (.putfield 50, 3) := by decide +kernel
theorem dX5_init_114 : decode cX5_init 114 = .ok (.aload_n 0, 1) := by decide +kernel
theorem dX5_init_115 : decode cX5_init 115 = .ok (.invokevirtual 54, 3) := by decide +kernel
theorem dX5_init_118 : decode cX5_init 118 = .ok (.return_, 1) := by decide +kernel
theorem dX5_in_0 : decode cX5_in 0 = .ok (.lload_n 0, 1) := by decide +kernel
theorem dX5_in_1 : decode cX5_in 1 = .ok (.lload_n 2, 1) := by decide +kernel
theorem dX5_in_2 : decode cX5_in 2 = .ok (.lcmp, 1) := by decide +kernel
theorem dX5_in_3 : decode cX5_in 3 = .ok (.ifCond .lt 14, 3) := by decide +kernel
theorem dX5_in_6 : decode cX5_in 6 = .ok (.lload_n 0, 1) := by decide +kernel
theorem dX5_in_7 : decode cX5_in 7 = .ok (.lload 4, 2) := by decide +kernel
theorem dX5_in_9 : decode cX5_in 9 = .ok (.lcmp, 1) := by decide +kernel
theorem dX5_in_10 : decode cX5_in 10 = .ok (.ifCond .gt 7, 3) := by decide +kernel
theorem dX5_in_13 : decode cX5_in 13 = .ok (.iconst 1, 1) := by decide +kernel
theorem dX5_in_14 : decode cX5_in 14 = .ok (.goto 4, 3) := by decide +kernel
theorem dX5_in_17 : decode cX5_in 17 = .ok (.iconst 0, 1) := by decide +kernel
theorem dX5_in_18 : decode cX5_in 18 = .ok (.ireturn, 1) := by decide +kernel
theorem dX5_one_0 : decode cX5_one 0 = .ok (.iload_n 0, 1) := by decide +kernel
theorem dX5_one_1 : decode cX5_one 1 = .ok (.ifCond .eq 7, 3) := by decide +kernel
theorem dX5_one_4 : decode cX5_one 4 = .ok (.iconst 1, 1) := by decide +kernel
theorem dX5_one_5 : decode cX5_one 5 = .ok (.goto 4, 3) := by decide +kernel
theorem dX5_one_8 : decode cX5_one 8 = .ok (.iconst 0, 1) := by decide +kernel
theorem dX5_one_9 : decode cX5_one 9 = .ok (.ireturn, 1) := by decide +kernel
theorem dX5_has_0 : decode cX5_has 0 = .ok (.iload_n 0, 1) := by decide +kernel
theorem dX5_has_1 : decode cX5_has 1 = .ok (.iload_n 1, 1) := by decide +kernel
theorem dX5_has_2 : decode cX5_has 2 = .ok (.ishr, 1) := by decide +kernel
theorem dX5_has_3 : decode cX5_has 3 = .ok (.iconst 1, 1) := by decide +kernel
theorem dX5_has_4 : decode cX5_has 4 = .ok (.iand, 1) := by decide +kernel
theorem dX5_has_5 : decode cX5_has 5 = .ok (.iconst 1, 1) := by decide +kernel
theorem dX5_has_6 : decode cX5_has 6 = .ok (.if_icmp .ne 7, 3) := by decide +kernel
theorem dX5_has_9 : decode cX5_has 9 = .ok (.iconst 1, 1) := by decide +kernel
theorem dX5_has_10 : decode cX5_has 10 = .ok (.goto 4, 3) := by decide +kernel
theorem dX5_has_13 : decode cX5_has 13 = .ok (.iconst 0, 1) := by decide +kernel
theorem dX5_has_14 : decode cX5_has 14 = .ok (.ireturn, 1) := by decide +kernel
theorem dX5_ones_0 : decode cX5_ones 0 = .ok (.iconst 0, 1) := by decide +kernel
theorem dX5_ones_1 : decode cX5_ones 1 = .ok (.istore_n 1, 1) := by decide +kernel
theorem dX5_ones_2 : decode cX5_ones 2 = .ok (.iconst 0, 1) := by decide +kernel
theorem dX5_ones_3 : decode cX5_ones 3 = .ok (.istore_n 2, 1) := by decide +kernel
theorem dX5_ones_4 : decode cX5_ones 4 = .ok (.iload_n 2, 1) := by decide +kernel
theorem dX5_ones_5 : decode cX5_ones 5 = .ok (.bipush 8, 2) := by decide +kernel
theorem dX5_ones_7 : decode cX5_ones 7 = .ok (.if_icmp .ge 17, 3) := by decide +kernel
theorem dX5_ones_10 : decode cX5_ones 10 = .ok (.iload_n 1, 1) := by decide +kernel
theorem dX5_ones_11 : decode cX5_ones 11 = .ok (.iload_n 0, 1) := by decide +kernel
theorem dX5_ones_12 : decode cX5_ones 12 = .ok (.iload_n 2, 1) := by decide +kernel
theorem dX5_ones_13 : decode cX5_ones 13 = .ok (.ishr, 1) := by decide +kernel
theorem dX5_ones_14 : decode cX5_ones 14 = .ok (.iconst 1, 1) := by decide +kernel
theorem dX5_ones_15 : decode cX5_ones 15 = .ok (.iand, 1) := by decide +kernel
theorem dX5_ones_16 : decode cX5_ones 16 = .ok (.iadd, 1) := by decide +kernel
theorem dX5_ones_17 : decode cX5_ones 17 = .ok (.istore_n 1, 1) := by decide +kernel
theorem dX5_ones_18 : decode cX5_ones 18 = .ok (.iinc 2 1, 3) := by decide +kernel
theorem dX5_ones_21 : decode cX5_ones 21 = .ok (.goto (-17), 3) := by decide +kernel
theorem dX5_ones_24 : decode cX5_ones 24 = .ok (.iload_n 1, 1) := by decide +kernel
theorem dX5_ones_25 : decode cX5_ones 25 = .ok (.ireturn, 1) := by decide +kernel
theorem dX5_type_0 : decode cX5_type 0 = .ok (.iload_n 1, 1) := by decide +kernel
theorem dX5_type_1 : decode cX5_type 1 = .ok (.i2l, 1) := by decide +kernel
theorem dX5_type_2 : decode cX5_type 2 = .ok (.lconst 0, 1) := by decide +kernel
theorem dX5_type_3 : decode cX5_type 3 = .ok (.ldc2_w 57, 3) := by decide +kernel
theorem dX5_type_6 : decode cX5_type 6 = .ok (.invokestatic 59, 3) := by decide +kernel
theorem dX5_type_9 : decode cX5_type 9 = .ok (.ifCond .ne 5, 3) := by decide +kernel
theorem dX5_type_12 : decode cX5_type 12 = .ok (.iconst (-1), 1) := by decide +kernel
theorem dX5_type_13 : decode cX5_type 13 = .ok (.ireturn, 1) := by decide +kernel
theorem dX5_type_14 : decode cX5_type 14 = .ok (.aload_n 0, 1) := by decide +kernel
theorem dX5_type_15 : decode cX5_type 15 = .ok (.getfield 63, 3) := by decide +kernel
theorem dX5_type_18 : decode cX5_type 18 = .ok (.sipush 200, 3) := by decide +kernel
theorem dX5_type_21 : decode cX5_type 21 = .ok (.if_icmp .ne 6, 3) := by decide +kernel
theorem dX5_type_24 : decode cX5_type 24 = .ok (.bipush (-3), 2) := by decide +kernel
theorem dX5_type_26 : decode cX5_type 26 = .ok (.ireturn, 1) := by decide +kernel
theorem dX5_type_27 : decode cX5_type 27 = .ok (.aload_n 0, 1) := by decide +kernel
theorem dX5_type_28 : decode cX5_type 28 = .ok (.getfield 41, 3) := by decide +kernel
theorem dX5_type_31 : decode cX5_type 31 = .ok (.aload_n 0, 1) := by decide +kernel
theorem dX5_type_32 : decode cX5_type 32 = .ok (.getfield 63, 3) := by decide +kernel
theorem dX5_type_35 : decode cX5_type 35 = .ok (.iload_n 1, 1) := by decide +kernel
theorem dX5_type_36 : decode cX5_type 36 = .ok (.iastore, 1) := by decide +kernel
theorem dX5_type_37 : decode cX5_type 37 = .ok (.aload_n 0, 1) := by decide +kernel
theorem dX5_type_38 : decode cX5_type 38 = .ok (.dup, 1) := by decide +kernel
theorem dX5_type_39 : decode cX5_type 39 = .ok (.getfield 63, 3) := by decide +kernel
theorem dX5_type_42 : decode cX5_type 42 = .ok (.iconst 1, 1) := by decide +kernel
theorem dX5_type_43 : decode cX5_type 43 = .ok (.iadd, 1) := by decide +kernel
theorem dX5_type_44 : decode cX5_type 44 = .ok (.putfield 63, 3) := by decide +kernel
theorem dX5_type_47 : decode cX5_type 47 = .ok (.aload_n 0, 1) := by decide +kernel
theorem dX5_type_48 : decode cX5_type 48 = .ok (.getfield 63, 3) := by decide +kernel
theorem dX5_type_51 : decode cX5_type 51 = .ok (.ireturn, 1) := by decide +kernel
theorem dX5_clear_0 : decode cX5_clear 0 = .ok (.aload_n 0, 1) := by decide +kernel
theorem dX5_clear_1 : decode cX5_clear 1 = .ok (.getfield 63, 3) := by decide +kernel
theorem dX5_clear_4 : decode cX5_clear 4 = .ok (.istore_n 1, 1) := by decide +kernel
theorem dX5_clear_5 : decode cX5_clear 5 = .ok (.aload_n 0, 1) := by decide +kernel
theorem dX5_clear_6 : decode cX5_clear 6 = .ok (.iconst 0, 1) := by decide +kernel
theorem dX5_clear_7 : decode cX5_clear 7 = .ok (.putfield 63, 3) := by decide +kernel
theorem dX5_clear_10 : decode cX5_clear 10 = .ok (.iload_n 1, 1) := by decide +kernel
theorem dX5_clear_11 : decode cX5_clear 11 = .ok (.ireturn, 1) := by decide +kernel
theorem dX5_isFigure_0 : decode cX5_isFigure 0 = .ok (.iload_n 0, 1) := by decide +kernel
theorem dX5_isFigure_1 : decode cX5_isFigure 1 = .ok (.i2l, 1) := by decide +kernel
theorem dX5_isFigure_2 : decode cX5_isFigure 2 = .ok (.ldc2_w 66, 3) := by decide +kernel
theorem dX5_isFigure_5 : decode cX5_isFigure 5 = .ok (.ldc2_w 68, 3) := by decide +kernel
theorem dX5_isFigure_8 : decode cX5_isFigure 8 = .ok (.invokestatic 59, 3) := by decide +kernel
theorem dX5_isFigure_11 : decode cX5_isFigure 11 = .ok (.ireturn, 1) := by decide +kernel
theorem dX5_next_0 : decode cX5_next 0 = .ok (.aload_n 0, 1) := by decide +kernel
theorem dX5_next_1 : decode cX5_next 1 = .ok (.getfield 70, 3) := by decide +kernel
theorem dX5_next_4 : decode cX5_next 4 = .ok (.aload_n 0, 1) := by decide +kernel
theorem dX5_next_5 : decode cX5_next 5 = .ok (.getfield 63, 3) := by decide +kernel
theorem dX5_next_8 : decode cX5_next 8 = .ok (.if_icmp .ge 30, 3) := by decide +kernel
theorem dX5_next_11 : decode cX5_next 11 = .ok (.aload_n 0, 1) := by decide +kernel
theorem dX5_next_12 : decode cX5_next 12 = .ok (.getfield 41, 3) := by decide +kernel
theorem dX5_next_15 : decode cX5_next 15 = .ok (.aload_n 0, 1) := by decide +kernel
theorem dX5_next_16 : decode cX5_next 16 = .ok (.getfield 70, 3) := by decide +kernel
theorem dX5_next_19 : decode cX5_next 19 = .ok (.iaload, 1) := by decide +kernel
theorem dX5_next_20 : decode cX5_next 20 = .ok (.bipush 32, 2) := by decide +kernel
theorem dX5_next_22 : decode cX5_next 22 = .ok (.if_icmp .ne 16, 3) := by decide +kernel
theorem dX5_next_25 : decode cX5_next 25 = .ok (.aload_n 0, 1) := by decide +kernel
theorem dX5_next_26 : decode cX5_next 26 = .ok (.dup, 1) := by decide +kernel
theorem dX5_next_27 : decode cX5_next 27 = .ok (.getfield 70, 3) := by decide +kernel
theorem dX5_next_30 : decode cX5_next 30 = .ok (.iconst 1, 1) := by decide +kernel
theorem dX5_next_31 : decode cX5_next 31 = .ok (.iadd, 1) := by decide +kernel
theorem dX5_next_32 : decode cX5_next 32 = .ok (.putfield 70, 3) := by decide +kernel
theorem dX5_next_35 : decode cX5_next 35 = .ok (.goto (-35), 3) := by decide +kernel
theorem dX5_next_38 : decode cX5_next 38 = .ok (.aload_n 0, 1) := by decide +kernel
theorem dX5_next_39 : decode cX5_next 39 = .ok (.aload_n 0, 1) := by decide +kernel
theorem dX5_next_40 : decode cX5_next 40 = .ok (.getfield 70, 3) := by decide +kernel
theorem dX5_next_43 : decode cX5_next 43 = .ok (.putfield 73, 3) := by decide +kernel
theorem dX5_next_46 : decode cX5_next 46 = .ok (.aload_n 0, 1) := by decide +kernel
theorem dX5_next_47 : decode cX5_next 47 = .ok (.getfield 70, 3) := by decide +kernel
theorem dX5_next_50 : decode cX5_next 50 = .ok (.aload_n 0, 1) := by decide +kernel
theorem dX5_next_51 : decode cX5_next 51 = .ok (.getfield 63, 3) := by decide +kernel
theorem dX5_next_54 : decode cX5_next 54 = .ok (.if_icmp .ne 11, 3) := by decide +kernel
theorem dX5_next_57 : decode cX5_next 57 = .ok (.aload_n 0, 1) := by decide +kernel
theorem dX5_next_58 : decode cX5_next 58 = .ok (.iconst (-1), 1) := by decide +kernel
theorem dX5_next_59 : decode cX5_next 59 = .ok (.putfield 76, 3) := by decide +kernel
theorem dX5_next_62 : decode cX5_next 62 = .ok (.goto 226, 3) := by decide +kernel
theorem dX5_next_65 : decode cX5_next 65 = .ok (.aload_n 0, 1) := by decide +kernel
theorem dX5_next_66 : decode cX5_next 66 = .ok (.getfield 41, 3) := by decide +kernel
theorem dX5_next_69 : decode cX5_next 69 = .ok (.aload_n 0, 1) := by decide +kernel
theorem dX5_next_70 : decode cX5_next 70 = .ok (.getfield 70, 3) := by decide +kernel
theorem dX5_next_73 : decode cX5_next 73 = .ok (.iaload, 1) := by decide +kernel
theorem dX5_next_74 : decode cX5_next 74 = .ok (.invokestatic 79, 3) := by decide +kernel
theorem dX5_next_77 : decode cX5_next 77 = .ok (.ifCond .eq 145, 3) := by decide +kernel
theorem dX5_next_80 : decode cX5_next 80 = .ok (.aload_n 0, 1) := by decide +kernel
theorem dX5_next_81 : decode cX5_next 81 = .ok (.iconst 0, 1) := by decide +kernel
theorem dX5_next_82 : decode cX5_next 82 = .ok (.putfield 83, 3) := by decide +kernel
theorem dX5_next_85 : decode cX5_next 85 = .ok (.aload_n 0, 1) := by decide +kernel
theorem dX5_next_86 : decode cX5_next 86 = .ok (.getfield 41, 3) := by decide +kernel
theorem dX5_next_89 : decode cX5_next 89 = .ok (.aload_n 0, 1) := by decide +kernel
theorem dX5_next_90 : decode cX5_next 90 = .ok (.getfield 70, 3) := by decide +kernel
theorem dX5_next_93 : decode cX5_next 93 = .ok (.iaload, 1) := by decide +kernel
theorem dX5_next_94 : decode cX5_next 94 = .ok (.bipush 48, 2) := by decide +kernel
theorem dX5_next_96 : decode cX5_next 96 = .ok (.if_icmp .ne 7, 3) := by decide +kernel
theorem dX5_next_99 : decode cX5_next 99 = .ok (.iconst 1, 1) := by decide +kernel
theorem dX5_next_100 : decode cX5_next 100 = .ok (.goto 4, 3) := by decide +kernel
theorem dX5_next_103 : decode cX5_next 103 = .ok (.iconst 0, 1) := by decide +kernel
theorem dX5_next_104 : decode cX5_next 104 = .ok (.istore_n 1, 1) := by decide +kernel
theorem dX5_next_105 : decode cX5_next 105 = .ok (.iconst 0, 1) := by decide +kernel
theorem dX5_next_106 : decode cX5_next 106 = .ok (.istore_n 2, 1) := by decide +kernel
theorem dX5_next_107 : decode cX5_next 107 = .ok (.aload_n 0, 1) := by decide +kernel
theorem dX5_next_108 : decode cX5_next 108 = .ok (.getfield 70, 3) := by decide +kernel
theorem dX5_next_111 : decode cX5_next 111 = .ok (.aload_n 0, 1) := by decide +kernel
theorem dX5_next_112 : decode cX5_next 112 = .ok (.getfield 63, 3) := by decide +kernel
theorem dX5_next_115 : decode cX5_next 115 = .ok (.if_icmp .ge 75, 3) := by decide +kernel
theorem dX5_next_118 : decode cX5_next 118 = .ok (.aload_n 0, 1) := by decide +kernel
theorem dX5_next_119 : decode cX5_next 119 = .ok (.getfield 41, 3) := by decide +kernel
theorem dX5_next_122 : decode cX5_next 122 = .ok (.aload_n 0, 1) := by decide +kernel
theorem dX5_next_123 : decode cX5_next 123 = .ok (.getfield 70, 3) := by decide +kernel
theorem dX5_next_126 : decode cX5_next 126 = .ok (.iaload, 1) := by decide +kernel
theorem dX5_next_127 : decode cX5_next 127 = .ok (.invokestatic 79, 3) := by decide +kernel
theorem dX5_next_130 : decode cX5_next 130 = .ok (.ifCond .eq 60, 3) := by decide +kernel
theorem dX5_next_133 : decode cX5_next 133 = .ok (.aload_n 0, 1) := by decide +kernel
theorem dX5_next_134 : decode cX5_next 134 = .ok (.aload_n 0, 1) := by decide +kernel
theorem dX5_next_135 : decode cX5_next 135 = .ok (.getfield 83, 3) := by decide +kernel
theorem dX5_next_138 : decode cX5_next 138 = .ok (.sipush 9999, 3) := by decide +kernel
theorem dX5_next_141 : decode cX5_next 141 = .ok (.if_icmp .le 10, 3) := by decide +kernel
theorem dX5_next_144 : decode cX5_next 144 = .ok (.aload_n 0, 1) := by decide +kernel
theorem dX5_next_145 : decode cX5_next 145 = .ok (.getfield 83, 3) := by decide +kernel
theorem dX5_next_148 : decode cX5_next 148 = .ok (.goto 23, 3) := by decide +kernel
theorem dX5_next_151 : decode cX5_next 151 = .ok (.bipush 10, 2) := by decide +kernel
theorem dX5_next_153 : decode cX5_next 153 = .ok (.aload_n 0, 1) := by decide +kernel
theorem dX5_next_154 : decode cX5_next 154 = .ok (.getfield 83, 3) := by decide +kernel
theorem dX5_next_157 : decode cX5_next 157 = .ok (.imul, 1) := by decide +kernel
theorem dX5_next_158 : decode cX5_next 158 = .ok (.aload_n 0, 1) := by decide +kernel
theorem dX5_next_159 : decode cX5_next 159 = .ok (.getfield 41, 3) := by decide +kernel
theorem dX5_next_162 : decode cX5_next 162 = .ok (.aload_n 0, 1) := by decide +kernel
theorem dX5_next_163 : decode cX5_next 163 = .ok (.getfield 70, 3) := by decide +kernel
theorem dX5_next_166 : decode cX5_next 166 = .ok (.iaload, 1) := by decide +kernel
theorem dX5_next_167 : decode cX5_next 167 = .ok (.iadd, 1) := by decide +kernel
theorem dX5_next_168 : decode cX5_next 168 = .ok (.bipush 48, 2) := by decide +kernel
theorem dX5_next_170 : decode cX5_next 170 = .ok (.isub, 1) := by decide +kernel
theorem dX5_next_171 : decode cX5_next 171 = .ok (.putfield 83, 3) := by decide +kernel
theorem dX5_next_174 : decode cX5_next 174 = .ok (.iinc 2 1, 3) := by decide +kernel
theorem dX5_next_177 : decode cX5_next 177 = .ok (.aload_n 0, 1) := by decide +kernel
theorem dX5_next_178 : decode cX5_next 178 = .ok (.dup, 1) := by decide +kernel
theorem dX5_next_179 : decode cX5_next 179 = .ok (.getfield 70, 3) := by decide +kernel
theorem dX5_next_182 : decode cX5_next 182 = .ok (.iconst 1, 1) := by decide +kernel
theorem dX5_next_183 : decode cX5_next 183 = .ok (.iadd, 1) := by decide +kernel
theorem dX5_next_184 : decode cX5_next 184 = .ok (.putfield 70, 3) := by decide +kernel
theorem dX5_next_187 : decode cX5_next 187 = .ok (.goto (-80), 3) := by decide +kernel
theorem dX5_next_190 : decode cX5_next 190 = .ok (.aload_n 0, 1) := by decide +kernel
theorem dX5_next_191 : decode cX5_next 191 = .ok (.aload_n 0, 1) := by decide +kernel
theorem dX5_next_192 : decode cX5_next 192 = .ok (.getfield 83, 3) := by decide +kernel
theorem dX5_next_195 : decode cX5_next 195 = .ok (.sipush 511, 3) := by decide +kernel
theorem dX5_next_198 : decode cX5_next 198 = .ok (.if_icmp .gt 12, 3) := by decide +kernel
theorem dX5_next_201 : decode cX5_next 201 = .ok (.iload_n 1, 1) := by decide +kernel
theorem dX5_next_202 : decode cX5_next 202 = .ok (.ifCond .eq 13, 3) := by decide +kernel
theorem dX5_next_205 : decode cX5_next 205 = .ok (.iload_n 2, 1) := by decide +kernel
theorem dX5_next_206 : decode cX5_next 206 = .ok (.iconst 1, 1) := by decide +kernel
theorem dX5_next_207 : decode cX5_next 207 = .ok (.if_icmp .le 8, 3) := by decide +kernel
theorem dX5_next_210 : decode cX5_next 210 = .ok (.bipush (-2), 2) := by decide +kernel
theorem dX5_next_212 : decode cX5_next 212 = .ok (.goto 4, 3) := by decide +kernel
theorem dX5_next_215 : decode cX5_next 215 = .ok (.iconst 0, 1) := by decide +kernel
theorem dX5_next_216 : decode cX5_next 216 = .ok (.putfield 76, 3) := by decide +kernel
theorem dX5_next_219 : decode cX5_next 219 = .ok (.goto 69, 3) := by decide +kernel
theorem dX5_next_222 : decode cX5_next 222 = .ok (.aload_n 0, 1) := by decide +kernel
theorem dX5_next_223 : decode cX5_next 223 = .ok (.getfield 41, 3) := by decide +kernel
theorem dX5_next_226 : decode cX5_next 226 = .ok (.aload_n 0, 1) := by decide +kernel
theorem dX5_next_227 : decode cX5_next 227 = .ok (.getfield 70, 3) := by decide +kernel
theorem dX5_next_230 : decode cX5_next 230 = .ok (.iaload, 1) := by decide +kernel
theorem dX5_next_231 : decode cX5_next 231 = .ok (.istore_n 1, 1) := by decide +kernel
theorem dX5_next_232 : decode cX5_next 232 = .ok (.aload_n 0, 1) := by decide +kernel
theorem dX5_next_233 : decode cX5_next 233 = .ok (.dup, 1) := by decide +kernel
theorem dX5_next_234 : decode cX5_next 234 = .ok (.getfield 70, 3) := by decide +kernel
theorem dX5_next_237 : decode cX5_next 237 = .ok (.iconst 1, 1) := by decide +kernel
theorem dX5_next_238 : decode cX5_next 238 = .ok (.iadd, 1) := by decide +kernel
theorem dX5_next_239 : decode cX5_next 239 = .ok (.putfield 70, 3) := by decide +kernel
theorem dX5_next_242 : decode cX5_next 242 = .ok (.aload_n 0, 1) := by decide +kernel
theorem dX5_next_243 : decode cX5_next 243 = .ok (.iload_n 1, 1) := by decide +kernel
theorem dX5_next_244 : decode cX5_next 244 = .ok (.bipush 104, 2) := by decide +kernel
theorem dX5_next_246 : decode cX5_next 246 = .ok (.if_icmp .eq 33, 3) := by decide +kernel
theorem dX5_next_249 : decode cX5_next 249 = .ok (.iload_n 1, 1) := by decide +kernel
theorem dX5_next_250 : decode cX5_next 250 = .ok (.bipush 106, 2) := by decide +kernel
theorem dX5_next_252 : decode cX5_next 252 = .ok (.if_icmp .eq 27, 3) := by decide +kernel
theorem dX5_next_255 : decode cX5_next 255 = .ok (.iload_n 1, 1) := by decide +kernel
theorem dX5_next_256 : decode cX5_next 256 = .ok (.bipush 109, 2) := by decide +kernel
theorem dX5_next_258 : decode cX5_next 258 = .ok (.if_icmp .eq 21, 3) := by decide +kernel
theorem dX5_next_261 : decode cX5_next 261 = .ok (.iload_n 1, 1) := by decide +kernel
theorem dX5_next_262 : decode cX5_next 262 = .ok (.bipush 111, 2) := by decide +kernel
theorem dX5_next_264 : decode cX5_next 264 = .ok (.if_icmp .eq 15, 3) := by decide +kernel
theorem dX5_next_267 : decode cX5_next 267 = .ok (.iload_n 1, 1) := by decide +kernel
theorem dX5_next_268 : decode cX5_next 268 = .ok (.bipush 114, 2) := by decide +kernel
theorem dX5_next_270 : decode cX5_next 270 = .ok (.if_icmp .eq 9, 3) := by decide +kernel
theorem dX5_next_273 : decode cX5_next 273 = .ok (.iload_n 1, 1) := by decide +kernel
theorem dX5_next_274 : decode cX5_next 274 = .ok (.bipush 59, 2) := by decide +kernel
theorem dX5_next_276 : decode cX5_next 276 = .ok (.if_icmp .ne 7, 3) := by decide +kernel
theorem dX5_next_279 : decode cX5_next 279 = .ok (.iload_n 1, 1) := by decide +kernel
theorem dX5_next_280 : decode cX5_next 280 = .ok (.goto 5, 3) := by decide +kernel
theorem dX5_next_283 : decode cX5_next 283 = .ok (.bipush (-2), 2) := by decide +kernel
theorem dX5_next_285 : decode cX5_next 285 = .ok (.putfield 76, 3) := by decide +kernel
theorem dX5_next_288 : decode cX5_next 288 = .ok (.return_, 1) := by decide +kernel
theorem dX5_want_0 : decode cX5_want 0 = .ok (.iload_n 1, 1) := by decide +kernel
theorem dX5_want_1 : decode cX5_want 1 = .ok (.ifCond .ne 18, 3) := by decide +kernel
theorem dX5_want_4 : decode cX5_want 4 = .ok (.aload_n 0, 1) := by decide +kernel
theorem dX5_want_5 : decode cX5_want 5 = .ok (.getfield 86, 3) := by decide +kernel
theorem dX5_want_8 : decode cX5_want 8 = .ok (.ifCond .ge 11, 3) := by decide +kernel
theorem dX5_want_11 : decode cX5_want 11 = .ok (.aload_n 0, 1) := by decide +kernel
theorem dX5_want_12 : decode cX5_want 12 = .ok (.aload_n 0, 1) := by decide +kernel
theorem dX5_want_13 : decode cX5_want 13 = .ok (.getfield 73, 3) := by decide +kernel
theorem dX5_want_16 : decode cX5_want 16 = .ok (.putfield 86, 3) := by decide +kernel
theorem dX5_want_19 : decode cX5_want 19 = .ok (.aload_n 0, 1) := by decide +kernel
theorem dX5_want_20 : decode cX5_want 20 = .ok (.getfield 86, 3) := by decide +kernel
theorem dX5_want_23 : decode cX5_want 23 = .ok (.ifCond .ge 7, 3) := by decide +kernel
theorem dX5_want_26 : decode cX5_want 26 = .ok (.iconst 1, 1) := by decide +kernel
theorem dX5_want_27 : decode cX5_want 27 = .ok (.goto 4, 3) := by decide +kernel
theorem dX5_want_30 : decode cX5_want 30 = .ok (.iconst 0, 1) := by decide +kernel
theorem dX5_want_31 : decode cX5_want 31 = .ok (.ireturn, 1) := by decide +kernel
theorem dX5_takeNumber_0 : decode cX5_takeNumber 0 = .ok (.aload_n 0, 1) := by decide +kernel
theorem dX5_takeNumber_1 : decode cX5_takeNumber 1 = .ok (.getfield 86, 3) := by decide +kernel
theorem dX5_takeNumber_4 : decode cX5_takeNumber 4 = .ok (.ifCond .lt 5, 3) := by decide +kernel
theorem dX5_takeNumber_7 : decode cX5_takeNumber 7 = .ok (.iconst 0, 1) := by decide +kernel
theorem dX5_takeNumber_8 : decode cX5_takeNumber 8 = .ok (.ireturn, 1) := by decide +kernel
theorem dX5_takeNumber_9 : decode cX5_takeNumber 9 = .ok (.aload_n 0, 1) := by decide +kernel
theorem dX5_takeNumber_10 : decode cX5_takeNumber 10 = .ok (.invokevirtual 89, 3) := by decide +kernel
theorem dX5_takeNumber_13 : decode cX5_takeNumber 13 = .ok (.aload_n 0, 1) := by decide +kernel
theorem dX5_takeNumber_14 : decode cX5_takeNumber 14 = .ok (.aload_n 0, 1) := by decide +kernel
theorem dX5_takeNumber_15 : decode cX5_takeNumber 15 = .ok (.getfield 76, 3) := by decide +kernel
theorem dX5_takeNumber_18 : decode cX5_takeNumber 18 = .ok (.ifCond .ne 22, 3) := by decide +kernel
theorem dX5_takeNumber_21 : decode cX5_takeNumber 21 = .ok (.aload_n 0, 1) := by decide +kernel
theorem dX5_takeNumber_22 : decode cX5_takeNumber 22 = .ok (.getfield 83, 3) := by decide +kernel
theorem dX5_takeNumber_25 : decode cX5_takeNumber 25 = .ok (.i2l, 1) := by decide +kernel
theorem dX5_takeNumber_26 : decode cX5_takeNumber 26 = .ok (.iload_n 1, 1) := by decide +kernel
theorem dX5_takeNumber_27 : decode cX5_takeNumber 27 = .ok (.i2l, 1) := by decide +kernel
theorem dX5_takeNumber_28 : decode cX5_takeNumber 28 = .ok (.iload_n 2, 1) := by decide +kernel
theorem dX5_takeNumber_29 : decode cX5_takeNumber 29 = .ok (.i2l, 1) := by decide +kernel
theorem dX5_takeNumber_30 : decode cX5_takeNumber 30 = .ok (.invokestatic 59, 3) := by decide +kernel
theorem dX5_takeNumber_33 : decode cX5_takeNumber 33 = .ok (.ifCond .eq 7, 3) := by decide +kernel
theorem dX5_takeNumber_36 : decode cX5_takeNumber 36 = .ok (.iconst 1, 1) := by decide +kernel
theorem dX5_takeNumber_37 : decode cX5_takeNumber 37 = .ok (.goto 4, 3) := by decide +kernel
theorem dX5_takeNumber_40 : decode cX5_takeNumber 40 = .ok (.iconst 0, 1) := by decide +kernel
theorem dX5_takeNumber_41 : decode cX5_takeNumber 41 = .ok (.invokevirtual 92, 3) := by decide +kernel
theorem dX5_takeNumber_44 : decode cX5_takeNumber 44 = .ok (.ifCond .eq 10, 3) := by decide +kernel
theorem dX5_takeNumber_47 : decode cX5_takeNumber 47 = .ok (.aload_n 0, 1) := by decide +kernel
theorem dX5_takeNumber_48 : decode cX5_takeNumber 48 = .ok (.getfield 83, 3) := by decide +kernel
theorem dX5_takeNumber_51 : decode cX5_takeNumber 51 = .ok (.goto 4, 3) := by decide +kernel
theorem dX5_takeNumber_54 : decode cX5_takeNumber 54 = .ok (.iconst 0, 1) := by decide +kernel
theorem dX5_takeNumber_55 : decode cX5_takeNumber 55 = .ok (.ireturn, 1) := by decide +kernel
theorem dX5_takeHill_0 : decode cX5_takeHill 0 = .ok (.iconst 4, 1) := by decide +kernel
theorem dX5_takeHill_1 : decode cX5_takeHill 1 = .ok (.aload_n 0, 1) := by decide +kernel
theorem dX5_takeHill_2 : decode cX5_takeHill 2 = .ok (.getfield 96, 3) := by decide +kernel
theorem dX5_takeHill_5 : decode cX5_takeHill 5 = .ok (.iadd, 1) := by decide +kernel
theorem dX5_takeHill_6 : decode cX5_takeHill 6 = .ok (.istore_n 1, 1) := by decide +kernel
theorem dX5_takeHill_7 : decode cX5_takeHill 7 = .ok (.aload_n 0, 1) := by decide +kernel
theorem dX5_takeHill_8 : decode cX5_takeHill 8 = .ok (.getfield 17, 3) := by decide +kernel
theorem dX5_takeHill_11 : decode cX5_takeHill 11 = .ok (.iload_n 1, 1) := by decide +kernel
theorem dX5_takeHill_12 : decode cX5_takeHill 12 = .ok (.aload_n 0, 1) := by decide +kernel
theorem dX5_takeHill_13 : decode cX5_takeHill 13 = .ok (.iconst 2, 1) := by decide +kernel
theorem dX5_takeHill_14 : decode cX5_takeHill 14 = .ok (.bipush 9, 2) := by decide +kernel
theorem dX5_takeHill_16 : decode cX5_takeHill 16 = .ok (.invokevirtual 99, 3) := by decide +kernel
theorem dX5_takeHill_19 : decode cX5_takeHill 19 = .ok (.iastore, 1) := by decide +kernel
theorem dX5_takeHill_20 : decode cX5_takeHill 20 = .ok (.aload_n 0, 1) := by decide +kernel
theorem dX5_takeHill_21 : decode cX5_takeHill 21 = .ok (.getfield 20, 3) := by decide +kernel
theorem dX5_takeHill_24 : decode cX5_takeHill 24 = .ok (.iload_n 1, 1) := by decide +kernel
theorem dX5_takeHill_25 : decode cX5_takeHill 25 = .ok (.aload_n 0, 1) := by decide +kernel
theorem dX5_takeHill_26 : decode cX5_takeHill 26 = .ok (.iconst 0, 1) := by decide +kernel
theorem dX5_takeHill_27 : decode cX5_takeHill 27 = .ok (.iconst 5, 1) := by decide +kernel
theorem dX5_takeHill_28 : decode cX5_takeHill 28 = .ok (.invokevirtual 99, 3) := by decide +kernel
theorem dX5_takeHill_31 : decode cX5_takeHill 31 = .ok (.iastore, 1) := by decide +kernel
theorem dX5_takeHill_32 : decode cX5_takeHill 32 = .ok (.aload_n 0, 1) := by decide +kernel
theorem dX5_takeHill_33 : decode cX5_takeHill 33 = .ok (.getfield 23, 3) := by decide +kernel
theorem dX5_takeHill_36 : decode cX5_takeHill 36 = .ok (.iload_n 1, 1) := by decide +kernel
theorem dX5_takeHill_37 : decode cX5_takeHill 37 = .ok (.aload_n 0, 1) := by decide +kernel
theorem dX5_takeHill_38 : decode cX5_takeHill 38 = .ok (.iconst 0, 1) := by decide +kernel
theorem dX5_takeHill_39 : decode cX5_takeHill 39 = .ok (.sipush 511, 3) := by decide +kernel
theorem dX5_takeHill_42 : decode cX5_takeHill 42 = .ok (.invokevirtual 99, 3) := by decide +kernel
theorem dX5_takeHill_45 : decode cX5_takeHill 45 = .ok (.iastore, 1) := by decide +kernel
theorem dX5_takeHill_46 : decode cX5_takeHill 46 = .ok (.aload_n 0, 1) := by decide +kernel
theorem dX5_takeHill_47 : decode cX5_takeHill 47 = .ok (.getfield 26, 3) := by decide +kernel
theorem dX5_takeHill_50 : decode cX5_takeHill 50 = .ok (.iload_n 1, 1) := by decide +kernel
theorem dX5_takeHill_51 : decode cX5_takeHill 51 = .ok (.aload_n 0, 1) := by decide +kernel
theorem dX5_takeHill_52 : decode cX5_takeHill 52 = .ok (.iconst 1, 1) := by decide +kernel
theorem dX5_takeHill_53 : decode cX5_takeHill 53 = .ok (.bipush 9, 2) := by decide +kernel
theorem dX5_takeHill_55 : decode cX5_takeHill 55 = .ok (.invokevirtual 99, 3) := by decide +kernel
theorem dX5_takeHill_58 : decode cX5_takeHill 58 = .ok (.iastore, 1) := by decide +kernel
theorem dX5_takeHill_59 : decode cX5_takeHill 59 = .ok (.aload_n 0, 1) := by decide +kernel
theorem dX5_takeHill_60 : decode cX5_takeHill 60 = .ok (.dup, 1) := by decide +kernel
theorem dX5_takeHill_61 : decode cX5_takeHill 61 = .ok (.getfield 96, 3) := by decide +kernel
theorem dX5_takeHill_64 : decode cX5_takeHill 64 = .ok (.iconst 1, 1) := by decide +kernel
theorem dX5_takeHill_65 : decode cX5_takeHill 65 = .ok (.iadd, 1) := by decide +kernel
theorem dX5_takeHill_66 : decode cX5_takeHill 66 = .ok (.putfield 96, 3) := by decide +kernel
theorem dX5_takeHill_69 : decode cX5_takeHill 69 = .ok (.return_, 1) := by decide +kernel
theorem dX5_takeJoin_0 : decode cX5_takeJoin 0 = .ok (.iconst 4, 1) := by decide +kernel
theorem dX5_takeJoin_1 : decode cX5_takeJoin 1 = .ok (.aload_n 0, 1) := by decide +kernel
theorem dX5_takeJoin_2 : decode cX5_takeJoin 2 = .ok (.getfield 103, 3) := by decide +kernel
theorem dX5_takeJoin_5 : decode cX5_takeJoin 5 = .ok (.iadd, 1) := by decide +kernel
theorem dX5_takeJoin_6 : decode cX5_takeJoin 6 = .ok (.istore_n 1, 1) := by decide +kernel
theorem dX5_takeJoin_7 : decode cX5_takeJoin 7 = .ok (.aload_n 0, 1) := by decide +kernel
theorem dX5_takeJoin_8 : decode cX5_takeJoin 8 = .ok (.getfield 29, 3) := by decide +kernel
theorem dX5_takeJoin_11 : decode cX5_takeJoin 11 = .ok (.iload_n 1, 1) := by decide +kernel
theorem dX5_takeJoin_12 : decode cX5_takeJoin 12 = .ok (.aload_n 0, 1) := by decide +kernel
theorem dX5_takeJoin_13 : decode cX5_takeJoin 13 = .ok (.iconst 0, 1) := by decide +kernel
theorem dX5_takeJoin_14 : decode cX5_takeJoin 14 = .ok (.aload_n 0, 1) := by decide +kernel
theorem dX5_takeJoin_15 : decode cX5_takeJoin 15 = .ok (.getfield 96, 3) := by decide +kernel
theorem dX5_takeJoin_18 : decode cX5_takeJoin 18 = .ok (.iconst 1, 1) := by decide +kernel
theorem dX5_takeJoin_19 : decode cX5_takeJoin 19 = .ok (.isub, 1) := by decide +kernel
theorem dX5_takeJoin_20 : decode cX5_takeJoin 20 = .ok (.invokevirtual 99, 3) := by decide +kernel
theorem dX5_takeJoin_23 : decode cX5_takeJoin 23 = .ok (.iastore, 1) := by decide +kernel
theorem dX5_takeJoin_24 : decode cX5_takeJoin 24 = .ok (.aload_n 0, 1) := by decide +kernel
theorem dX5_takeJoin_25 : decode cX5_takeJoin 25 = .ok (.getfield 32, 3) := by decide +kernel
theorem dX5_takeJoin_28 : decode cX5_takeJoin 28 = .ok (.iload_n 1, 1) := by decide +kernel
theorem dX5_takeJoin_29 : decode cX5_takeJoin 29 = .ok (.aload_n 0, 1) := by decide +kernel
theorem dX5_takeJoin_30 : decode cX5_takeJoin 30 = .ok (.iconst 0, 1) := by decide +kernel
theorem dX5_takeJoin_31 : decode cX5_takeJoin 31 = .ok (.aload_n 0, 1) := by decide +kernel
theorem dX5_takeJoin_32 : decode cX5_takeJoin 32 = .ok (.getfield 96, 3) := by decide +kernel
theorem dX5_takeJoin_35 : decode cX5_takeJoin 35 = .ok (.iconst 1, 1) := by decide +kernel
theorem dX5_takeJoin_36 : decode cX5_takeJoin 36 = .ok (.isub, 1) := by decide +kernel
theorem dX5_takeJoin_37 : decode cX5_takeJoin 37 = .ok (.invokevirtual 99, 3) := by decide +kernel
theorem dX5_takeJoin_40 : decode cX5_takeJoin 40 = .ok (.iastore, 1) := by decide +kernel
theorem dX5_takeJoin_41 : decode cX5_takeJoin 41 = .ok (.aload_n 0, 1) := by decide +kernel
theorem dX5_takeJoin_42 : decode cX5_takeJoin 42 = .ok (.aload_n 0, 1) := by decide +kernel
theorem dX5_takeJoin_43 : decode cX5_takeJoin 43 = .ok (.getfield 86, 3) := by decide +kernel
theorem dX5_takeJoin_46 : decode cX5_takeJoin 46 = .ok (.ifCond .ge 18, 3) := by decide +kernel
theorem dX5_takeJoin_49 : decode cX5_takeJoin 49 = .ok (.aload_n 0, 1) := by decide +kernel
theorem dX5_takeJoin_50 : decode cX5_takeJoin 50 = .ok (.getfield 29, 3) := by decide +kernel
theorem dX5_takeJoin_53 : decode cX5_takeJoin 53 = .ok (.iload_n 1, 1) := by decide +kernel
theorem dX5_takeJoin_54 : decode cX5_takeJoin 54 = .ok (.iaload, 1) := by decide +kernel
theorem dX5_takeJoin_55 : decode cX5_takeJoin 55 = .ok (.aload_n 0, 1) := by decide +kernel
theorem dX5_takeJoin_56 : decode cX5_takeJoin 56 = .ok (.getfield 32, 3) := by decide +kernel
theorem dX5_takeJoin_59 : decode cX5_takeJoin 59 = .ok (.iload_n 1, 1) := by decide +kernel
theorem dX5_takeJoin_60 : decode cX5_takeJoin 60 = .ok (.iaload, 1) := by decide +kernel
theorem dX5_takeJoin_61 : decode cX5_takeJoin 61 = .ok (.if_icmp .eq 7, 3) := by decide +kernel
theorem dX5_takeJoin_64 : decode cX5_takeJoin 64 = .ok (.iconst 1, 1) := by decide +kernel
theorem dX5_takeJoin_65 : decode cX5_takeJoin 65 = .ok (.goto 4, 3) := by decide +kernel
theorem dX5_takeJoin_68 : decode cX5_takeJoin 68 = .ok (.iconst 0, 1) := by decide +kernel
theorem dX5_takeJoin_69 : decode cX5_takeJoin 69 = .ok (.invokevirtual 92, 3) := by decide +kernel
theorem dX5_takeJoin_72 : decode cX5_takeJoin 72 = .ok (.istore_n 2, 1) := by decide +kernel
theorem dX5_takeJoin_73 : decode cX5_takeJoin 73 = .ok (.aload_n 0, 1) := by decide +kernel
theorem dX5_takeJoin_74 : decode cX5_takeJoin 74 = .ok (.getfield 35, 3) := by decide +kernel
theorem dX5_takeJoin_77 : decode cX5_takeJoin 77 = .ok (.iload_n 1, 1) := by decide +kernel
theorem dX5_takeJoin_78 : decode cX5_takeJoin 78 = .ok (.aload_n 0, 1) := by decide +kernel
theorem dX5_takeJoin_79 : decode cX5_takeJoin 79 = .ok (.iconst 1, 1) := by decide +kernel
theorem dX5_takeJoin_80 : decode cX5_takeJoin 80 = .ok (.bipush 9, 2) := by decide +kernel
theorem dX5_takeJoin_82 : decode cX5_takeJoin 82 = .ok (.invokevirtual 99, 3) := by decide +kernel
theorem dX5_takeJoin_85 : decode cX5_takeJoin 85 = .ok (.iastore, 1) := by decide +kernel
theorem dX5_takeJoin_86 : decode cX5_takeJoin 86 = .ok (.aload_n 0, 1) := by decide +kernel
theorem dX5_takeJoin_87 : decode cX5_takeJoin 87 = .ok (.dup, 1) := by decide +kernel
theorem dX5_takeJoin_88 : decode cX5_takeJoin 88 = .ok (.getfield 103, 3) := by decide +kernel
theorem dX5_takeJoin_91 : decode cX5_takeJoin 91 = .ok (.iconst 1, 1) := by decide +kernel
theorem dX5_takeJoin_92 : decode cX5_takeJoin 92 = .ok (.iadd, 1) := by decide +kernel
theorem dX5_takeJoin_93 : decode cX5_takeJoin 93 = .ok (.putfield 103, 3) := by decide +kernel
theorem dX5_takeJoin_96 : decode cX5_takeJoin 96 = .ok (.return_, 1) := by decide +kernel
theorem dX5_takeItem_0 : decode cX5_takeItem 0 = .ok (.aload_n 0, 1) := by decide +kernel
theorem dX5_takeItem_1 : decode cX5_takeItem 1 = .ok (.getfield 76, 3) := by decide +kernel
theorem dX5_takeItem_4 : decode cX5_takeItem 4 = .ok (.bipush 104, 2) := by decide +kernel
theorem dX5_takeItem_6 : decode cX5_takeItem 6 = .ok (.if_icmp .ne 30, 3) := by decide +kernel
theorem dX5_takeItem_9 : decode cX5_takeItem 9 = .ok (.aload_n 0, 1) := by decide +kernel
theorem dX5_takeItem_10 : decode cX5_takeItem 10 = .ok (.aload_n 0, 1) := by decide +kernel
theorem dX5_takeItem_11 : decode cX5_takeItem 11 = .ok (.getfield 96, 3) := by decide +kernel
theorem dX5_takeItem_14 : decode cX5_takeItem 14 = .ok (.iconst 4, 1) := by decide +kernel
theorem dX5_takeItem_15 : decode cX5_takeItem 15 = .ok (.if_icmp .ge 7, 3) := by decide +kernel
theorem dX5_takeItem_18 : decode cX5_takeItem 18 = .ok (.iconst 1, 1) := by decide +kernel
theorem dX5_takeItem_19 : decode cX5_takeItem 19 = .ok (.goto 4, 3) := by decide +kernel
theorem dX5_takeItem_22 : decode cX5_takeItem 22 = .ok (.iconst 0, 1) := by decide +kernel
theorem dX5_takeItem_23 : decode cX5_takeItem 23 = .ok (.invokevirtual 92, 3) := by decide +kernel
theorem dX5_takeItem_26 : decode cX5_takeItem 26 = .ok (.ifCond .eq 215, 3) := by decide +kernel
theorem dX5_takeItem_29 : decode cX5_takeItem 29 = .ok (.aload_n 0, 1) := by decide +kernel
theorem dX5_takeItem_30 : decode cX5_takeItem 30 = .ok (.invokevirtual 106, 3) := by decide +kernel
theorem dX5_takeItem_33 : decode cX5_takeItem 33 = .ok (.goto 208, 3) := by decide +kernel
theorem dX5_takeItem_36 : decode cX5_takeItem 36 = .ok (.aload_n 0, 1) := by decide +kernel
theorem dX5_takeItem_37 : decode cX5_takeItem 37 = .ok (.getfield 76, 3) := by decide +kernel
theorem dX5_takeItem_40 : decode cX5_takeItem 40 = .ok (.bipush 106, 2) := by decide +kernel
theorem dX5_takeItem_42 : decode cX5_takeItem 42 = .ok (.if_icmp .ne 30, 3) := by decide +kernel
theorem dX5_takeItem_45 : decode cX5_takeItem 45 = .ok (.aload_n 0, 1) := by decide +kernel
theorem dX5_takeItem_46 : decode cX5_takeItem 46 = .ok (.aload_n 0, 1) := by decide +kernel
theorem dX5_takeItem_47 : decode cX5_takeItem 47 = .ok (.getfield 103, 3) := by decide +kernel
theorem dX5_takeItem_50 : decode cX5_takeItem 50 = .ok (.iconst 4, 1) := by decide +kernel
theorem dX5_takeItem_51 : decode cX5_takeItem 51 = .ok (.if_icmp .ge 7, 3) := by decide +kernel
theorem dX5_takeItem_54 : decode cX5_takeItem 54 = .ok (.iconst 1, 1) := by decide +kernel
theorem dX5_takeItem_55 : decode cX5_takeItem 55 = .ok (.goto 4, 3) := by decide +kernel
theorem dX5_takeItem_58 : decode cX5_takeItem 58 = .ok (.iconst 0, 1) := by decide +kernel
theorem dX5_takeItem_59 : decode cX5_takeItem 59 = .ok (.invokevirtual 92, 3) := by decide +kernel
theorem dX5_takeItem_62 : decode cX5_takeItem 62 = .ok (.ifCond .eq 179, 3) := by decide +kernel
theorem dX5_takeItem_65 : decode cX5_takeItem 65 = .ok (.aload_n 0, 1) := by decide +kernel
theorem dX5_takeItem_66 : decode cX5_takeItem 66 = .ok (.invokevirtual 109, 3) := by decide +kernel
theorem dX5_takeItem_69 : decode cX5_takeItem 69 = .ok (.goto 172, 3) := by decide +kernel
theorem dX5_takeItem_72 : decode cX5_takeItem 72 = .ok (.aload_n 0, 1) := by decide +kernel
theorem dX5_takeItem_73 : decode cX5_takeItem 73 = .ok (.getfield 76, 3) := by decide +kernel
theorem dX5_takeItem_76 : decode cX5_takeItem 76 = .ok (.bipush 109, 2) := by decide +kernel
theorem dX5_takeItem_78 : decode cX5_takeItem 78 = .ok (.if_icmp .ne 54, 3) := by decide +kernel
theorem dX5_takeItem_81 : decode cX5_takeItem 81 = .ok (.aload_n 0, 1) := by decide +kernel
theorem dX5_takeItem_82 : decode cX5_takeItem 82 = .ok (.aload_n 0, 1) := by decide +kernel
theorem dX5_takeItem_83 : decode cX5_takeItem 83 = .ok (.getfield 112, 3) := by decide +kernel
theorem dX5_takeItem_86 : decode cX5_takeItem 86 = .ok (.iconst 3, 1) := by decide +kernel
theorem dX5_takeItem_87 : decode cX5_takeItem 87 = .ok (.if_icmp .ge 7, 3) := by decide +kernel
theorem dX5_takeItem_90 : decode cX5_takeItem 90 = .ok (.iconst 1, 1) := by decide +kernel
theorem dX5_takeItem_91 : decode cX5_takeItem 91 = .ok (.goto 4, 3) := by decide +kernel
theorem dX5_takeItem_94 : decode cX5_takeItem 94 = .ok (.iconst 0, 1) := by decide +kernel
theorem dX5_takeItem_95 : decode cX5_takeItem 95 = .ok (.invokevirtual 92, 3) := by decide +kernel
theorem dX5_takeItem_98 : decode cX5_takeItem 98 = .ok (.ifCond .eq 143, 3) := by decide +kernel
theorem dX5_takeItem_101 : decode cX5_takeItem 101 = .ok (.aload_n 0, 1) := by decide +kernel
theorem dX5_takeItem_102 : decode cX5_takeItem 102 = .ok (.getfield 38, 3) := by decide +kernel
theorem dX5_takeItem_105 : decode cX5_takeItem 105 = .ok (.iconst 3, 1) := by decide +kernel
theorem dX5_takeItem_106 : decode cX5_takeItem 106 = .ok (.aload_n 0, 1) := by decide +kernel
theorem dX5_takeItem_107 : decode cX5_takeItem 107 = .ok (.getfield 112, 3) := by decide +kernel
theorem dX5_takeItem_110 : decode cX5_takeItem 110 = .ok (.iadd, 1) := by decide +kernel
theorem dX5_takeItem_111 : decode cX5_takeItem 111 = .ok (.aload_n 0, 1) := by decide +kernel
theorem dX5_takeItem_112 : decode cX5_takeItem 112 = .ok (.iconst 1, 1) := by decide +kernel
theorem dX5_takeItem_113 : decode cX5_takeItem 113 = .ok (.bipush 9, 2) := by decide +kernel
theorem dX5_takeItem_115 : decode cX5_takeItem 115 = .ok (.invokevirtual 99, 3) := by decide +kernel
theorem dX5_takeItem_118 : decode cX5_takeItem 118 = .ok (.iastore, 1) := by decide +kernel
theorem dX5_takeItem_119 : decode cX5_takeItem 119 = .ok (.aload_n 0, 1) := by decide +kernel
theorem dX5_takeItem_120 : decode cX5_takeItem 120 = .ok (.dup, 1) := by decide +kernel
theorem dX5_takeItem_121 : decode cX5_takeItem 121 = .ok (.getfield 112, 3) := by decide +kernel
theorem dX5_takeItem_124 : decode cX5_takeItem 124 = .ok (.iconst 1, 1) := by decide +kernel
theorem dX5_takeItem_125 : decode cX5_takeItem 125 = .ok (.iadd, 1) := by decide +kernel
theorem dX5_takeItem_126 : decode cX5_takeItem 126 = .ok (.putfield 112, 3) := by decide +kernel
theorem dX5_takeItem_129 : decode cX5_takeItem 129 = .ok (.goto 112, 3) := by decide +kernel
theorem dX5_takeItem_132 : decode cX5_takeItem 132 = .ok (.aload_n 0, 1) := by decide +kernel
theorem dX5_takeItem_133 : decode cX5_takeItem 133 = .ok (.getfield 76, 3) := by decide +kernel
theorem dX5_takeItem_136 : decode cX5_takeItem 136 = .ok (.bipush 111, 2) := by decide +kernel
theorem dX5_takeItem_138 : decode cX5_takeItem 138 = .ok (.if_icmp .ne 50, 3) := by decide +kernel
theorem dX5_takeItem_141 : decode cX5_takeItem 141 = .ok (.aload_n 0, 1) := by decide +kernel
theorem dX5_takeItem_142 : decode cX5_takeItem 142 = .ok (.aload_n 0, 1) := by decide +kernel
theorem dX5_takeItem_143 : decode cX5_takeItem 143 = .ok (.getfield 115, 3) := by decide +kernel
theorem dX5_takeItem_146 : decode cX5_takeItem 146 = .ok (.iconst 0, 1) := by decide +kernel
theorem dX5_takeItem_147 : decode cX5_takeItem 147 = .ok (.invokestatic 118, 3) := by decide +kernel
theorem dX5_takeItem_150 : decode cX5_takeItem 150 = .ok (.ifCond .ne 7, 3) := by decide +kernel
theorem dX5_takeItem_153 : decode cX5_takeItem 153 = .ok (.iconst 1, 1) := by decide +kernel
theorem dX5_takeItem_154 : decode cX5_takeItem 154 = .ok (.goto 4, 3) := by decide +kernel
theorem dX5_takeItem_157 : decode cX5_takeItem 157 = .ok (.iconst 0, 1) := by decide +kernel
theorem dX5_takeItem_158 : decode cX5_takeItem 158 = .ok (.invokevirtual 92, 3) := by decide +kernel
theorem dX5_takeItem_161 : decode cX5_takeItem 161 = .ok (.ifCond .eq 80, 3) := by decide +kernel
theorem dX5_takeItem_164 : decode cX5_takeItem 164 = .ok (.aload_n 0, 1) := by decide +kernel
theorem dX5_takeItem_165 : decode cX5_takeItem 165 = .ok (.dup, 1) := by decide +kernel
theorem dX5_takeItem_166 : decode cX5_takeItem 166 = .ok (.getfield 115, 3) := by decide +kernel
theorem dX5_takeItem_169 : decode cX5_takeItem 169 = .ok (.iconst 1, 1) := by decide +kernel
theorem dX5_takeItem_170 : decode cX5_takeItem 170 = .ok (.ior, 1) := by decide +kernel
theorem dX5_takeItem_171 : decode cX5_takeItem 171 = .ok (.putfield 115, 3) := by decide +kernel
theorem dX5_takeItem_174 : decode cX5_takeItem 174 = .ok (.aload_n 0, 1) := by decide +kernel
theorem dX5_takeItem_175 : decode cX5_takeItem 175 = .ok (.aload_n 0, 1) := by decide +kernel
theorem dX5_takeItem_176 : decode cX5_takeItem 176 = .ok (.iconst 1, 1) := by decide +kernel
theorem dX5_takeItem_177 : decode cX5_takeItem 177 = .ok (.bipush 6, 2) := by decide +kernel
theorem dX5_takeItem_179 : decode cX5_takeItem 179 = .ok (.invokevirtual 99, 3) := by decide +kernel
theorem dX5_takeItem_182 : decode cX5_takeItem 182 = .ok (.putfield 122, 3) := by decide +kernel
theorem dX5_takeItem_185 : decode cX5_takeItem 185 = .ok (.goto 56, 3) := by decide +kernel
theorem dX5_takeItem_188 : decode cX5_takeItem 188 = .ok (.aload_n 0, 1) := by decide +kernel
theorem dX5_takeItem_189 : decode cX5_takeItem 189 = .ok (.aload_n 0, 1) := by decide +kernel
theorem dX5_takeItem_190 : decode cX5_takeItem 190 = .ok (.getfield 76, 3) := by decide +kernel
theorem dX5_takeItem_193 : decode cX5_takeItem 193 = .ok (.bipush 114, 2) := by decide +kernel
theorem dX5_takeItem_195 : decode cX5_takeItem 195 = .ok (.if_icmp .ne 18, 3) := by decide +kernel
theorem dX5_takeItem_198 : decode cX5_takeItem 198 = .ok (.aload_n 0, 1) := by decide +kernel
theorem dX5_takeItem_199 : decode cX5_takeItem 199 = .ok (.getfield 115, 3) := by decide +kernel
theorem dX5_takeItem_202 : decode cX5_takeItem 202 = .ok (.iconst 1, 1) := by decide +kernel
theorem dX5_takeItem_203 : decode cX5_takeItem 203 = .ok (.invokestatic 118, 3) := by decide +kernel
theorem dX5_takeItem_206 : decode cX5_takeItem 206 = .ok (.ifCond .ne 7, 3) := by decide +kernel
theorem dX5_takeItem_209 : decode cX5_takeItem 209 = .ok (.iconst 1, 1) := by decide +kernel
theorem dX5_takeItem_210 : decode cX5_takeItem 210 = .ok (.goto 4, 3) := by decide +kernel
theorem dX5_takeItem_213 : decode cX5_takeItem 213 = .ok (.iconst 0, 1) := by decide +kernel
theorem dX5_takeItem_214 : decode cX5_takeItem 214 = .ok (.invokevirtual 92, 3) := by decide +kernel
theorem dX5_takeItem_217 : decode cX5_takeItem 217 = .ok (.ifCond .eq 24, 3) := by decide +kernel
theorem dX5_takeItem_220 : decode cX5_takeItem 220 = .ok (.aload_n 0, 1) := by decide +kernel
theorem dX5_takeItem_221 : decode cX5_takeItem 221 = .ok (.dup, 1) := by decide +kernel
theorem dX5_takeItem_222 : decode cX5_takeItem 222 = .ok (.getfield 115, 3) := by decide +kernel
theorem dX5_takeItem_225 : decode cX5_takeItem 225 = .ok (.iconst 2, 1) := by decide +kernel
theorem dX5_takeItem_226 : decode cX5_takeItem 226 = .ok (.ior, 1) := by decide +kernel
theorem dX5_takeItem_227 : decode cX5_takeItem 227 = .ok (.putfield 115, 3) := by decide +kernel
theorem dX5_takeItem_230 : decode cX5_takeItem 230 = .ok (.aload_n 0, 1) := by decide +kernel
theorem dX5_takeItem_231 : decode cX5_takeItem 231 = .ok (.aload_n 0, 1) := by decide +kernel
theorem dX5_takeItem_232 : decode cX5_takeItem 232 = .ok (.iconst 0, 1) := by decide +kernel
theorem dX5_takeItem_233 : decode cX5_takeItem 233 = .ok (.bipush 127, 2) := by decide +kernel
theorem dX5_takeItem_235 : decode cX5_takeItem 235 = .ok (.invokevirtual 99, 3) := by decide +kernel
theorem dX5_takeItem_238 : decode cX5_takeItem 238 = .ok (.putfield 125, 3) := by decide +kernel
theorem dX5_takeItem_241 : decode cX5_takeItem 241 = .ok (.return_, 1) := by decide +kernel
theorem dX5_hills_0 : decode cX5_hills 0 = .ok (.aload_n 0, 1) := by decide +kernel
theorem dX5_hills_1 : decode cX5_hills 1 = .ok (.iconst 0, 1) := by decide +kernel
theorem dX5_hills_2 : decode cX5_hills 2 = .ok (.putfield 70, 3) := by decide +kernel
theorem dX5_hills_5 : decode cX5_hills 5 = .ok (.aload_n 0, 1) := by decide +kernel
theorem dX5_hills_6 : decode cX5_hills 6 = .ok (.iconst (-1), 1) := by decide +kernel
theorem dX5_hills_7 : decode cX5_hills 7 = .ok (.putfield 86, 3) := by decide +kernel
theorem dX5_hills_10 : decode cX5_hills 10 = .ok (.aload_n 0, 1) := by decide +kernel
theorem dX5_hills_11 : decode cX5_hills 11 = .ok (.iconst 0, 1) := by decide +kernel
theorem dX5_hills_12 : decode cX5_hills 12 = .ok (.putfield 96, 3) := by decide +kernel
theorem dX5_hills_15 : decode cX5_hills 15 = .ok (.aload_n 0, 1) := by decide +kernel
theorem dX5_hills_16 : decode cX5_hills 16 = .ok (.iconst 0, 1) := by decide +kernel
theorem dX5_hills_17 : decode cX5_hills 17 = .ok (.putfield 103, 3) := by decide +kernel
theorem dX5_hills_20 : decode cX5_hills 20 = .ok (.aload_n 0, 1) := by decide +kernel
theorem dX5_hills_21 : decode cX5_hills 21 = .ok (.iconst 0, 1) := by decide +kernel
theorem dX5_hills_22 : decode cX5_hills 22 = .ok (.putfield 112, 3) := by decide +kernel
theorem dX5_hills_25 : decode cX5_hills 25 = .ok (.aload_n 0, 1) := by decide +kernel
theorem dX5_hills_26 : decode cX5_hills 26 = .ok (.iconst 4, 1) := by decide +kernel
theorem dX5_hills_27 : decode cX5_hills 27 = .ok (.putfield 122, 3) := by decide +kernel
theorem dX5_hills_30 : decode cX5_hills 30 = .ok (.aload_n 0, 1) := by decide +kernel
theorem dX5_hills_31 : decode cX5_hills 31 = .ok (.iconst 0, 1) := by decide +kernel
theorem dX5_hills_32 : decode cX5_hills 32 = .ok (.putfield 125, 3) := by decide +kernel
theorem dX5_hills_35 : decode cX5_hills 35 = .ok (.aload_n 0, 1) := by decide +kernel
theorem dX5_hills_36 : decode cX5_hills 36 = .ok (.iconst 0, 1) := by decide +kernel
theorem dX5_hills_37 : decode cX5_hills 37 = .ok (.putfield 115, 3) := by decide +kernel
theorem dX5_hills_40 : decode cX5_hills 40 = .ok (.iconst 0, 1) := by decide +kernel
theorem dX5_hills_41 : decode cX5_hills 41 = .ok (.istore_n 1, 1) := by decide +kernel
theorem dX5_hills_42 : decode cX5_hills 42 = .ok (.aload_n 0, 1) := by decide +kernel
theorem dX5_hills_43 : decode cX5_hills 43 = .ok (.invokevirtual 89, 3) := by decide +kernel
theorem dX5_hills_46 : decode cX5_hills 46 = .ok (.aload_n 0, 1) := by decide +kernel
theorem dX5_hills_47 : decode cX5_hills 47 = .ok (.getfield 86, 3) := by decide +kernel
theorem dX5_hills_50 : decode cX5_hills 50 = .ok (.ifCond .ge 57, 3) := by decide +kernel
theorem dX5_hills_53 : decode cX5_hills 53 = .ok (.aload_n 0, 1) := by decide +kernel
theorem dX5_hills_54 : decode cX5_hills 54 = .ok (.getfield 76, 3) := by decide +kernel
theorem dX5_hills_57 : decode cX5_hills 57 = .ok (.iconst (-1), 1) := by decide +kernel
theorem dX5_hills_58 : decode cX5_hills 58 = .ok (.if_icmp .eq 49, 3) := by decide +kernel
theorem dX5_hills_61 : decode cX5_hills 61 = .ok (.aload_n 0, 1) := by decide +kernel
theorem dX5_hills_62 : decode cX5_hills 62 = .ok (.invokevirtual 128, 3) := by decide +kernel
theorem dX5_hills_65 : decode cX5_hills 65 = .ok (.aload_n 0, 1) := by decide +kernel
theorem dX5_hills_66 : decode cX5_hills 66 = .ok (.getfield 86, 3) := by decide +kernel
theorem dX5_hills_69 : decode cX5_hills 69 = .ok (.ifCond .ge (-23), 3) := by decide +kernel
theorem dX5_hills_72 : decode cX5_hills 72 = .ok (.aload_n 0, 1) := by decide +kernel
theorem dX5_hills_73 : decode cX5_hills 73 = .ok (.invokevirtual 89, 3) := by decide +kernel
theorem dX5_hills_76 : decode cX5_hills 76 = .ok (.aload_n 0, 1) := by decide +kernel
theorem dX5_hills_77 : decode cX5_hills 77 = .ok (.aload_n 0, 1) := by decide +kernel
theorem dX5_hills_78 : decode cX5_hills 78 = .ok (.getfield 76, 3) := by decide +kernel
theorem dX5_hills_81 : decode cX5_hills 81 = .ok (.bipush 59, 2) := by decide +kernel
theorem dX5_hills_83 : decode cX5_hills 83 = .ok (.if_icmp .ne 7, 3) := by decide +kernel
theorem dX5_hills_86 : decode cX5_hills 86 = .ok (.iconst 1, 1) := by decide +kernel
theorem dX5_hills_87 : decode cX5_hills 87 = .ok (.goto 4, 3) := by decide +kernel
theorem dX5_hills_90 : decode cX5_hills 90 = .ok (.iconst 0, 1) := by decide +kernel
theorem dX5_hills_91 : decode cX5_hills 91 = .ok (.invokevirtual 92, 3) := by decide +kernel
theorem dX5_hills_94 : decode cX5_hills 94 = .ok (.ifCond .eq (-48), 3) := by decide +kernel
theorem dX5_hills_97 : decode cX5_hills 97 = .ok (.iinc 1 1, 3) := by decide +kernel
theorem dX5_hills_100 : decode cX5_hills 100 = .ok (.aload_n 0, 1) := by decide +kernel
theorem dX5_hills_101 : decode cX5_hills 101 = .ok (.invokevirtual 89, 3) := by decide +kernel
theorem dX5_hills_104 : decode cX5_hills 104 = .ok (.goto (-58), 3) := by decide +kernel
theorem dX5_hills_107 : decode cX5_hills 107 = .ok (.aload_n 0, 1) := by decide +kernel
theorem dX5_hills_108 : decode cX5_hills 108 = .ok (.getfield 86, 3) := by decide +kernel
theorem dX5_hills_111 : decode cX5_hills 111 = .ok (.ifCond .lt 11, 3) := by decide +kernel
theorem dX5_hills_114 : decode cX5_hills 114 = .ok (.bipush (-10), 2) := by decide +kernel
theorem dX5_hills_116 : decode cX5_hills 116 = .ok (.aload_n 0, 1) := by decide +kernel
theorem dX5_hills_117 : decode cX5_hills 117 = .ok (.getfield 86, 3) := by decide +kernel
theorem dX5_hills_120 : decode cX5_hills 120 = .ok (.isub, 1) := by decide +kernel
theorem dX5_hills_121 : decode cX5_hills 121 = .ok (.ireturn, 1) := by decide +kernel
theorem dX5_hills_122 : decode cX5_hills 122 = .ok (.aload_n 0, 1) := by decide +kernel
theorem dX5_hills_123 : decode cX5_hills 123 = .ok (.iconst 0, 1) := by decide +kernel
theorem dX5_hills_124 : decode cX5_hills 124 = .ok (.putfield 63, 3) := by decide +kernel
theorem dX5_hills_127 : decode cX5_hills 127 = .ok (.aload_n 0, 1) := by decide +kernel
theorem dX5_hills_128 : decode cX5_hills 128 = .ok (.aload_n 0, 1) := by decide +kernel
theorem dX5_hills_129 : decode cX5_hills 129 = .ok (.getfield 96, 3) := by decide +kernel
theorem dX5_hills_132 : decode cX5_hills 132 = .ok (.putfield 131, 3) := by decide +kernel
theorem dX5_hills_135 : decode cX5_hills 135 = .ok (.aload_n 0, 1) := by decide +kernel
theorem dX5_hills_136 : decode cX5_hills 136 = .ok (.aload_n 0, 1) := by decide +kernel
theorem dX5_hills_137 : decode cX5_hills 137 = .ok (.getfield 103, 3) := by decide +kernel
theorem dX5_hills_140 : decode cX5_hills 140 = .ok (.putfield 134, 3) := by decide +kernel
theorem dX5_hills_143 : decode cX5_hills 143 = .ok (.aload_n 0, 1) := by decide +kernel
theorem dX5_hills_144 : decode cX5_hills 144 = .ok (.aload_n 0, 1) := by decide +kernel
theorem dX5_hills_145 : decode cX5_hills 145 = .ok (.getfield 112, 3) := by decide +kernel
theorem dX5_hills_148 : decode cX5_hills 148 = .ok (.putfield 137, 3) := by decide +kernel
theorem dX5_hills_151 : decode cX5_hills 151 = .ok (.aload_n 0, 1) := by decide +kernel
theorem dX5_hills_152 : decode cX5_hills 152 = .ok (.aload_n 0, 1) := by decide +kernel
theorem dX5_hills_153 : decode cX5_hills 153 = .ok (.getfield 122, 3) := by decide +kernel
theorem dX5_hills_156 : decode cX5_hills 156 = .ok (.putfield 50, 3) := by decide +kernel
theorem dX5_hills_159 : decode cX5_hills 159 = .ok (.aload_n 0, 1) := by decide +kernel
theorem dX5_hills_160 : decode cX5_hills 160 = .ok (.aload_n 0, 1) := by decide +kernel
theorem dX5_hills_161 : decode cX5_hills 161 = .ok (.getfield 125, 3) := by decide +kernel
theorem dX5_hills_164 : decode cX5_hills 164 = .ok (.putfield 140, 3) := by decide +kernel
theorem dX5_hills_167 : decode cX5_hills 167 = .ok (.iconst 0, 1) := by decide +kernel
theorem dX5_hills_168 : decode cX5_hills 168 = .ok (.istore_n 2, 1) := by decide +kernel
theorem dX5_hills_169 : decode cX5_hills 169 = .ok (.iload_n 2, 1) := by decide +kernel
theorem dX5_hills_170 : decode cX5_hills 170 = .ok (.iconst 4, 1) := by decide +kernel
theorem dX5_hills_171 : decode cX5_hills 171 = .ok (.if_icmp .ge 107, 3) := by decide +kernel
theorem dX5_hills_174 : decode cX5_hills 174 = .ok (.aload_n 0, 1) := by decide +kernel
theorem dX5_hills_175 : decode cX5_hills 175 = .ok (.getfield 17, 3) := by decide +kernel
theorem dX5_hills_178 : decode cX5_hills 178 = .ok (.iload_n 2, 1) := by decide +kernel
theorem dX5_hills_179 : decode cX5_hills 179 = .ok (.aload_n 0, 1) := by decide +kernel
theorem dX5_hills_180 : decode cX5_hills 180 = .ok (.getfield 17, 3) := by decide +kernel
theorem dX5_hills_183 : decode cX5_hills 183 = .ok (.iconst 4, 1) := by decide +kernel
theorem dX5_hills_184 : decode cX5_hills 184 = .ok (.iload_n 2, 1) := by decide +kernel
theorem dX5_hills_185 : decode cX5_hills 185 = .ok (.iadd, 1) := by decide +kernel
theorem dX5_hills_186 : decode cX5_hills 186 = .ok (.iaload, 1) := by decide +kernel
theorem dX5_hills_187 : decode cX5_hills 187 = .ok (.iastore, 1) := by decide +kernel
theorem dX5_hills_188 : decode cX5_hills 188 = .ok (.aload_n 0, 1) := by decide +kernel
theorem dX5_hills_189 : decode cX5_hills 189 = .ok (.getfield 20, 3) := by decide +kernel
theorem dX5_hills_192 : decode cX5_hills 192 = .ok (.iload_n 2, 1) := by decide +kernel
theorem dX5_hills_193 : decode cX5_hills 193 = .ok (.aload_n 0, 1) := by decide +kernel
theorem dX5_hills_194 : decode cX5_hills 194 = .ok (.getfield 20, 3) := by decide +kernel
theorem dX5_hills_197 : decode cX5_hills 197 = .ok (.iconst 4, 1) := by decide +kernel
theorem dX5_hills_198 : decode cX5_hills 198 = .ok (.iload_n 2, 1) := by decide +kernel
theorem dX5_hills_199 : decode cX5_hills 199 = .ok (.iadd, 1) := by decide +kernel
theorem dX5_hills_200 : decode cX5_hills 200 = .ok (.iaload, 1) := by decide +kernel
theorem dX5_hills_201 : decode cX5_hills 201 = .ok (.iastore, 1) := by decide +kernel
theorem dX5_hills_202 : decode cX5_hills 202 = .ok (.aload_n 0, 1) := by decide +kernel
theorem dX5_hills_203 : decode cX5_hills 203 = .ok (.getfield 23, 3) := by decide +kernel
theorem dX5_hills_206 : decode cX5_hills 206 = .ok (.iload_n 2, 1) := by decide +kernel
theorem dX5_hills_207 : decode cX5_hills 207 = .ok (.aload_n 0, 1) := by decide +kernel
theorem dX5_hills_208 : decode cX5_hills 208 = .ok (.getfield 23, 3) := by decide +kernel
theorem dX5_hills_211 : decode cX5_hills 211 = .ok (.iconst 4, 1) := by decide +kernel
theorem dX5_hills_212 : decode cX5_hills 212 = .ok (.iload_n 2, 1) := by decide +kernel
theorem dX5_hills_213 : decode cX5_hills 213 = .ok (.iadd, 1) := by decide +kernel
theorem dX5_hills_214 : decode cX5_hills 214 = .ok (.iaload, 1) := by decide +kernel
theorem dX5_hills_215 : decode cX5_hills 215 = .ok (.iastore, 1) := by decide +kernel
theorem dX5_hills_216 : decode cX5_hills 216 = .ok (.aload_n 0, 1) := by decide +kernel
theorem dX5_hills_217 : decode cX5_hills 217 = .ok (.getfield 26, 3) := by decide +kernel
theorem dX5_hills_220 : decode cX5_hills 220 = .ok (.iload_n 2, 1) := by decide +kernel
theorem dX5_hills_221 : decode cX5_hills 221 = .ok (.aload_n 0, 1) := by decide +kernel
theorem dX5_hills_222 : decode cX5_hills 222 = .ok (.getfield 26, 3) := by decide +kernel
theorem dX5_hills_225 : decode cX5_hills 225 = .ok (.iconst 4, 1) := by decide +kernel
theorem dX5_hills_226 : decode cX5_hills 226 = .ok (.iload_n 2, 1) := by decide +kernel
theorem dX5_hills_227 : decode cX5_hills 227 = .ok (.iadd, 1) := by decide +kernel
theorem dX5_hills_228 : decode cX5_hills 228 = .ok (.iaload, 1) := by decide +kernel
theorem dX5_hills_229 : decode cX5_hills 229 = .ok (.iastore, 1) := by decide +kernel
theorem dX5_hills_230 : decode cX5_hills 230 = .ok (.aload_n 0, 1) := by decide +kernel
theorem dX5_hills_231 : decode cX5_hills 231 = .ok (.getfield 29, 3) := by decide +kernel
theorem dX5_hills_234 : decode cX5_hills 234 = .ok (.iload_n 2, 1) := by decide +kernel
theorem dX5_hills_235 : decode cX5_hills 235 = .ok (.aload_n 0, 1) := by decide +kernel
theorem dX5_hills_236 : decode cX5_hills 236 = .ok (.getfield 29, 3) := by decide +kernel
theorem dX5_hills_239 : decode cX5_hills 239 = .ok (.iconst 4, 1) := by decide +kernel
theorem dX5_hills_240 : decode cX5_hills 240 = .ok (.iload_n 2, 1) := by decide +kernel
theorem dX5_hills_241 : decode cX5_hills 241 = .ok (.iadd, 1) := by decide +kernel
theorem dX5_hills_242 : decode cX5_hills 242 = .ok (.iaload, 1) := by decide +kernel
theorem dX5_hills_243 : decode cX5_hills 243 = .ok (.iastore, 1) := by decide +kernel
theorem dX5_hills_244 : decode cX5_hills 244 = .ok (.aload_n 0, 1) := by decide +kernel
theorem dX5_hills_245 : decode cX5_hills 245 = .ok (.getfield 32, 3) := by decide +kernel
theorem dX5_hills_248 : decode cX5_hills 248 = .ok (.iload_n 2, 1) := by decide +kernel
theorem dX5_hills_249 : decode cX5_hills 249 = .ok (.aload_n 0, 1) := by decide +kernel
theorem dX5_hills_250 : decode cX5_hills 250 = .ok (.getfield 32, 3) := by decide +kernel
theorem dX5_hills_253 : decode cX5_hills 253 = .ok (.iconst 4, 1) := by decide +kernel
theorem dX5_hills_254 : decode cX5_hills 254 = .ok (.iload_n 2, 1) := by decide +kernel
theorem dX5_hills_255 : decode cX5_hills 255 = .ok (.iadd, 1) := by decide +kernel
theorem dX5_hills_256 : decode cX5_hills 256 = .ok (.iaload, 1) := by decide +kernel
theorem dX5_hills_257 : decode cX5_hills 257 = .ok (.iastore, 1) := by decide +kernel
theorem dX5_hills_258 : decode cX5_hills 258 = .ok (.aload_n 0, 1) := by decide +kernel
theorem dX5_hills_259 : decode cX5_hills 259 = .ok (.getfield 35, 3) := by decide +kernel
theorem dX5_hills_262 : decode cX5_hills 262 = .ok (.iload_n 2, 1) := by decide +kernel
theorem dX5_hills_263 : decode cX5_hills 263 = .ok (.aload_n 0, 1) := by decide +kernel
theorem dX5_hills_264 : decode cX5_hills 264 = .ok (.getfield 35, 3) := by decide +kernel
theorem dX5_hills_267 : decode cX5_hills 267 = .ok (.iconst 4, 1) := by decide +kernel
theorem dX5_hills_268 : decode cX5_hills 268 = .ok (.iload_n 2, 1) := by decide +kernel
theorem dX5_hills_269 : decode cX5_hills 269 = .ok (.iadd, 1) := by decide +kernel
theorem dX5_hills_270 : decode cX5_hills 270 = .ok (.iaload, 1) := by decide +kernel
theorem dX5_hills_271 : decode cX5_hills 271 = .ok (.iastore, 1) := by decide +kernel
theorem dX5_hills_272 : decode cX5_hills 272 = .ok (.iinc 2 1, 3) := by decide +kernel
theorem dX5_hills_275 : decode cX5_hills 275 = .ok (.goto (-106), 3) := by decide +kernel
theorem dX5_hills_278 : decode cX5_hills 278 = .ok (.iconst 0, 1) := by decide +kernel
theorem dX5_hills_279 : decode cX5_hills 279 = .ok (.istore_n 2, 1) := by decide +kernel
theorem dX5_hills_280 : decode cX5_hills 280 = .ok (.iload_n 2, 1) := by decide +kernel
theorem dX5_hills_281 : decode cX5_hills 281 = .ok (.iconst 3, 1) := by decide +kernel
theorem dX5_hills_282 : decode cX5_hills 282 = .ok (.if_icmp .ge 23, 3) := by decide +kernel
theorem dX5_hills_285 : decode cX5_hills 285 = .ok (.aload_n 0, 1) := by decide +kernel
theorem dX5_hills_286 : decode cX5_hills 286 = .ok (.getfield 38, 3) := by decide +kernel
theorem dX5_hills_289 : decode cX5_hills 289 = .ok (.iload_n 2, 1) := by decide +kernel
theorem dX5_hills_290 : decode cX5_hills 290 = .ok (.aload_n 0, 1) := by decide +kernel
theorem dX5_hills_291 : decode cX5_hills 291 = .ok (.getfield 38, 3) := by decide +kernel
theorem dX5_hills_294 : decode cX5_hills 294 = .ok (.iconst 3, 1) := by decide +kernel
theorem dX5_hills_295 : decode cX5_hills 295 = .ok (.iload_n 2, 1) := by decide +kernel
theorem dX5_hills_296 : decode cX5_hills 296 = .ok (.iadd, 1) := by decide +kernel
theorem dX5_hills_297 : decode cX5_hills 297 = .ok (.iaload, 1) := by decide +kernel
theorem dX5_hills_298 : decode cX5_hills 298 = .ok (.iastore, 1) := by decide +kernel
theorem dX5_hills_299 : decode cX5_hills 299 = .ok (.iinc 2 1, 3) := by decide +kernel
theorem dX5_hills_302 : decode cX5_hills 302 = .ok (.goto (-22), 3) := by decide +kernel
theorem dX5_hills_305 : decode cX5_hills 305 = .ok (.aload_n 0, 1) := by decide +kernel
theorem dX5_hills_306 : decode cX5_hills 306 = .ok (.invokevirtual 54, 3) := by decide +kernel
theorem dX5_hills_309 : decode cX5_hills 309 = .ok (.iload_n 1, 1) := by decide +kernel
theorem dX5_hills_310 : decode cX5_hills 310 = .ok (.ireturn, 1) := by decide +kernel
theorem dX5_begin_0 : decode cX5_begin 0 = .ok (.iconst 0, 1) := by decide +kernel
theorem dX5_begin_1 : decode cX5_begin 1 = .ok (.istore_n 1, 1) := by decide +kernel
theorem dX5_begin_2 : decode cX5_begin 2 = .ok (.iload_n 1, 1) := by decide +kernel
theorem dX5_begin_3 : decode cX5_begin 3 = .ok (.bipush 100, 2) := by decide +kernel
theorem dX5_begin_5 : decode cX5_begin 5 = .ok (.if_icmp .ge 16, 3) := by decide +kernel
theorem dX5_begin_8 : decode cX5_begin 8 = .ok (.aload_n 0, 1) := by decide +kernel
theorem dX5_begin_9 : decode cX5_begin 9 = .ok (.getfield 7, 3) := by decide +kernel
theorem dX5_begin_12 : decode cX5_begin 12 = .ok (.iload_n 1, 1) := by decide +kernel
theorem dX5_begin_13 : decode cX5_begin 13 = .ok (.iconst 0, 1) := by decide +kernel
theorem dX5_begin_14 : decode cX5_begin 14 = .ok (.iastore, 1) := by decide +kernel
theorem dX5_begin_15 : decode cX5_begin 15 = .ok (.iinc 1 1, 3) := by decide +kernel
theorem dX5_begin_18 : decode cX5_begin 18 = .ok (.goto (-16), 3) := by decide +kernel
theorem dX5_begin_21 : decode cX5_begin 21 = .ok (.iconst 0, 1) := by decide +kernel
theorem dX5_begin_22 : decode cX5_begin 22 = .ok (.istore_n 1, 1) := by decide +kernel
theorem dX5_begin_23 : decode cX5_begin 23 = .ok (.iload_n 1, 1) := by decide +kernel
theorem dX5_begin_24 : decode cX5_begin 24 = .ok (.iconst 3, 1) := by decide +kernel
theorem dX5_begin_25 : decode cX5_begin 25 = .ok (.if_icmp .ge 35, 3) := by decide +kernel
theorem dX5_begin_28 : decode cX5_begin 28 = .ok (.aload_n 0, 1) := by decide +kernel
theorem dX5_begin_29 : decode cX5_begin 29 = .ok (.getfield 7, 3) := by decide +kernel
theorem dX5_begin_32 : decode cX5_begin 32 = .ok (.bipush 8, 2) := by decide +kernel
theorem dX5_begin_34 : decode cX5_begin 34 = .ok (.iload_n 1, 1) := by decide +kernel
theorem dX5_begin_35 : decode cX5_begin 35 = .ok (.iadd, 1) := by decide +kernel
theorem dX5_begin_36 : decode cX5_begin 36 = .ok (.aload_n 0, 1) := by decide +kernel
theorem dX5_begin_37 : decode cX5_begin 37 = .ok (.getfield 38, 3) := by decide +kernel
theorem dX5_begin_40 : decode cX5_begin 40 = .ok (.iload_n 1, 1) := by decide +kernel
theorem dX5_begin_41 : decode cX5_begin 41 = .ok (.iaload, 1) := by decide +kernel
theorem dX5_begin_42 : decode cX5_begin 42 = .ok (.iastore, 1) := by decide +kernel
theorem dX5_begin_43 : decode cX5_begin 43 = .ok (.aload_n 0, 1) := by decide +kernel
theorem dX5_begin_44 : decode cX5_begin 44 = .ok (.getfield 7, 3) := by decide +kernel
theorem dX5_begin_47 : decode cX5_begin 47 = .ok (.bipush 11, 2) := by decide +kernel
theorem dX5_begin_49 : decode cX5_begin 49 = .ok (.iload_n 1, 1) := by decide +kernel
theorem dX5_begin_50 : decode cX5_begin 50 = .ok (.iadd, 1) := by decide +kernel
theorem dX5_begin_51 : decode cX5_begin 51 = .ok (.bipush (-9), 2) := by decide +kernel
theorem dX5_begin_53 : decode cX5_begin 53 = .ok (.iastore, 1) := by decide +kernel
theorem dX5_begin_54 : decode cX5_begin 54 = .ok (.iinc 1 1, 3) := by decide +kernel
theorem dX5_begin_57 : decode cX5_begin 57 = .ok (.goto (-34), 3) := by decide +kernel
theorem dX5_begin_60 : decode cX5_begin 60 = .ok (.aload_n 0, 1) := by decide +kernel
theorem dX5_begin_61 : decode cX5_begin 61 = .ok (.iconst 0, 1) := by decide +kernel
theorem dX5_begin_62 : decode cX5_begin 62 = .ok (.putfield 143, 3) := by decide +kernel
theorem dX5_begin_65 : decode cX5_begin 65 = .ok (.aload_n 0, 1) := by decide +kernel
theorem dX5_begin_66 : decode cX5_begin 66 = .ok (.iconst 0, 1) := by decide +kernel
theorem dX5_begin_67 : decode cX5_begin 67 = .ok (.putfield 146, 3) := by decide +kernel
theorem dX5_begin_70 : decode cX5_begin 70 = .ok (.aload_n 0, 1) := by decide +kernel
theorem dX5_begin_71 : decode cX5_begin 71 = .ok (.getfield 13, 3) := by decide +kernel
theorem dX5_begin_74 : decode cX5_begin 74 = .ok (.iconst 0, 1) := by decide +kernel
theorem dX5_begin_75 : decode cX5_begin 75 = .ok (.iconst 0, 1) := by decide +kernel
theorem dX5_begin_76 : decode cX5_begin 76 = .ok (.bastore, 1) := by decide +kernel
theorem dX5_begin_77 : decode cX5_begin 77 = .ok (.aload_n 0, 1) := by decide +kernel
theorem dX5_begin_78 : decode cX5_begin 78 = .ok (.getfield 13, 3) := by decide +kernel
theorem dX5_begin_81 : decode cX5_begin 81 = .ok (.iconst 1, 1) := by decide +kernel
theorem dX5_begin_82 : decode cX5_begin 82 = .ok (.iconst 0, 1) := by decide +kernel
theorem dX5_begin_83 : decode cX5_begin 83 = .ok (.bastore, 1) := by decide +kernel
theorem dX5_begin_84 : decode cX5_begin 84 = .ok (.return_, 1) := by decide +kernel
theorem dX5_isHill_0 : decode cX5_isHill 0 = .ok (.iload_n 1, 1) := by decide +kernel
theorem dX5_isHill_1 : decode cX5_isHill 1 = .ok (.i2l, 1) := by decide +kernel
theorem dX5_isHill_2 : decode cX5_isHill 2 = .ok (.lconst 0, 1) := by decide +kernel
theorem dX5_isHill_3 : decode cX5_isHill 3 = .ok (.aload_n 0, 1) := by decide +kernel
theorem dX5_isHill_4 : decode cX5_isHill 4 = .ok (.getfield 131, 3) := by decide +kernel
theorem dX5_isHill_7 : decode cX5_isHill 7 = .ok (.iconst 1, 1) := by decide +kernel
theorem dX5_isHill_8 : decode cX5_isHill 8 = .ok (.isub, 1) := by decide +kernel
theorem dX5_isHill_9 : decode cX5_isHill 9 = .ok (.i2l, 1) := by decide +kernel
theorem dX5_isHill_10 : decode cX5_isHill 10 = .ok (.invokestatic 59, 3) := by decide +kernel
theorem dX5_isHill_13 : decode cX5_isHill 13 = .ok (.ireturn, 1) := by decide +kernel
theorem dX5_isMan_0 : decode cX5_isMan 0 = .ok (.iload_n 1, 1) := by decide +kernel
theorem dX5_isMan_1 : decode cX5_isMan 1 = .ok (.i2l, 1) := by decide +kernel
theorem dX5_isMan_2 : decode cX5_isMan 2 = .ok (.lconst 0, 1) := by decide +kernel
theorem dX5_isMan_3 : decode cX5_isMan 3 = .ok (.aload_n 0, 1) := by decide +kernel
theorem dX5_isMan_4 : decode cX5_isMan 4 = .ok (.getfield 137, 3) := by decide +kernel
theorem dX5_isMan_7 : decode cX5_isMan 7 = .ok (.iconst 1, 1) := by decide +kernel
theorem dX5_isMan_8 : decode cX5_isMan 8 = .ok (.isub, 1) := by decide +kernel
theorem dX5_isMan_9 : decode cX5_isMan 9 = .ok (.i2l, 1) := by decide +kernel
theorem dX5_isMan_10 : decode cX5_isMan 10 = .ok (.invokestatic 59, 3) := by decide +kernel
theorem dX5_isMan_13 : decode cX5_isMan 13 = .ok (.ireturn, 1) := by decide +kernel
theorem dX5_hill_0 : decode cX5_hill 0 = .ok (.aload_n 0, 1) := by decide +kernel
theorem dX5_hill_1 : decode cX5_hill 1 = .ok (.iload_n 1, 1) := by decide +kernel
theorem dX5_hill_2 : decode cX5_hill 2 = .ok (.invokevirtual 149, 3) := by decide +kernel
theorem dX5_hill_5 : decode cX5_hill 5 = .ok (.ifCond .ne 5, 3) := by decide +kernel
theorem dX5_hill_8 : decode cX5_hill 8 = .ok (.iconst (-1), 1) := by decide +kernel
theorem dX5_hill_9 : decode cX5_hill 9 = .ok (.ireturn, 1) := by decide +kernel
theorem dX5_hill_10 : decode cX5_hill 10 = .ok (.iload_n 2, 1) := by decide +kernel
theorem dX5_hill_11 : decode cX5_hill 11 = .ok (.ifCond .ne 12, 3) := by decide +kernel
theorem dX5_hill_14 : decode cX5_hill 14 = .ok (.aload_n 0, 1) := by decide +kernel
theorem dX5_hill_15 : decode cX5_hill 15 = .ok (.getfield 17, 3) := by decide +kernel
theorem dX5_hill_18 : decode cX5_hill 18 = .ok (.iload_n 1, 1) := by decide +kernel
theorem dX5_hill_19 : decode cX5_hill 19 = .ok (.iaload, 1) := by decide +kernel
theorem dX5_hill_20 : decode cX5_hill 20 = .ok (.goto 46, 3) := by decide +kernel
theorem dX5_hill_23 : decode cX5_hill 23 = .ok (.iload_n 2, 1) := by decide +kernel
theorem dX5_hill_24 : decode cX5_hill 24 = .ok (.iconst 1, 1) := by decide +kernel
theorem dX5_hill_25 : decode cX5_hill 25 = .ok (.if_icmp .ne 12, 3) := by decide +kernel
theorem dX5_hill_28 : decode cX5_hill 28 = .ok (.aload_n 0, 1) := by decide +kernel
theorem dX5_hill_29 : decode cX5_hill 29 = .ok (.getfield 20, 3) := by decide +kernel
theorem dX5_hill_32 : decode cX5_hill 32 = .ok (.iload_n 1, 1) := by decide +kernel
theorem dX5_hill_33 : decode cX5_hill 33 = .ok (.iaload, 1) := by decide +kernel
theorem dX5_hill_34 : decode cX5_hill 34 = .ok (.goto 32, 3) := by decide +kernel
theorem dX5_hill_37 : decode cX5_hill 37 = .ok (.iload_n 2, 1) := by decide +kernel
theorem dX5_hill_38 : decode cX5_hill 38 = .ok (.iconst 2, 1) := by decide +kernel
theorem dX5_hill_39 : decode cX5_hill 39 = .ok (.if_icmp .ne 12, 3) := by decide +kernel
theorem dX5_hill_42 : decode cX5_hill 42 = .ok (.aload_n 0, 1) := by decide +kernel
theorem dX5_hill_43 : decode cX5_hill 43 = .ok (.getfield 23, 3) := by decide +kernel
theorem dX5_hill_46 : decode cX5_hill 46 = .ok (.iload_n 1, 1) := by decide +kernel
theorem dX5_hill_47 : decode cX5_hill 47 = .ok (.iaload, 1) := by decide +kernel
theorem dX5_hill_48 : decode cX5_hill 48 = .ok (.goto 18, 3) := by decide +kernel
theorem dX5_hill_51 : decode cX5_hill 51 = .ok (.iload_n 2, 1) := by decide +kernel
theorem dX5_hill_52 : decode cX5_hill 52 = .ok (.iconst 3, 1) := by decide +kernel
theorem dX5_hill_53 : decode cX5_hill 53 = .ok (.if_icmp .ne 12, 3) := by decide +kernel
theorem dX5_hill_56 : decode cX5_hill 56 = .ok (.aload_n 0, 1) := by decide +kernel
theorem dX5_hill_57 : decode cX5_hill 57 = .ok (.getfield 26, 3) := by decide +kernel
theorem dX5_hill_60 : decode cX5_hill 60 = .ok (.iload_n 1, 1) := by decide +kernel
theorem dX5_hill_61 : decode cX5_hill 61 = .ok (.iaload, 1) := by decide +kernel
theorem dX5_hill_62 : decode cX5_hill 62 = .ok (.goto 4, 3) := by decide +kernel
theorem dX5_hill_65 : decode cX5_hill 65 = .ok (.iconst (-1), 1) := by decide +kernel
theorem dX5_hill_66 : decode cX5_hill 66 = .ok (.ireturn, 1) := by decide +kernel
theorem dX5_sizeBy_0 : decode cX5_sizeBy 0 = .ok (.aload_n 0, 1) := by decide +kernel
theorem dX5_sizeBy_1 : decode cX5_sizeBy 1 = .ok (.getfield 26, 3) := by decide +kernel
theorem dX5_sizeBy_4 : decode cX5_sizeBy 4 = .ok (.iload_n 1, 1) := by decide +kernel
theorem dX5_sizeBy_5 : decode cX5_sizeBy 5 = .ok (.iaload, 1) := by decide +kernel
theorem dX5_sizeBy_6 : decode cX5_sizeBy 6 = .ok (.iload_n 2, 1) := by decide +kernel
theorem dX5_sizeBy_7 : decode cX5_sizeBy 7 = .ok (.bipush 8, 2) := by decide +kernel
theorem dX5_sizeBy_9 : decode cX5_sizeBy 9 = .ok (.idiv, 1) := by decide +kernel
theorem dX5_sizeBy_10 : decode cX5_sizeBy 10 = .ok (.isub, 1) := by decide +kernel
theorem dX5_sizeBy_11 : decode cX5_sizeBy 11 = .ok (.istore_n 3, 1) := by decide +kernel
theorem dX5_sizeBy_12 : decode cX5_sizeBy 12 = .ok (.iload_n 3, 1) := by decide +kernel
theorem dX5_sizeBy_13 : decode cX5_sizeBy 13 = .ok (.iconst 1, 1) := by decide +kernel
theorem dX5_sizeBy_14 : decode cX5_sizeBy 14 = .ok (.if_icmp .ge 7, 3) := by decide +kernel
theorem dX5_sizeBy_17 : decode cX5_sizeBy 17 = .ok (.iconst 1, 1) := by decide +kernel
theorem dX5_sizeBy_18 : decode cX5_sizeBy 18 = .ok (.goto 4, 3) := by decide +kernel
theorem dX5_sizeBy_21 : decode cX5_sizeBy 21 = .ok (.iload_n 3, 1) := by decide +kernel
theorem dX5_sizeBy_22 : decode cX5_sizeBy 22 = .ok (.ireturn, 1) := by decide +kernel
theorem dX5_sizeIn_0 : decode cX5_sizeIn 0 = .ok (.aload_n 0, 1) := by decide +kernel
theorem dX5_sizeIn_1 : decode cX5_sizeIn 1 = .ok (.iload_n 2, 1) := by decide +kernel
theorem dX5_sizeIn_2 : decode cX5_sizeIn 2 = .ok (.aload_n 0, 1) := by decide +kernel
theorem dX5_sizeIn_3 : decode cX5_sizeIn 3 = .ok (.getfield 7, 3) := by decide +kernel
theorem dX5_sizeIn_6 : decode cX5_sizeIn 6 = .ok (.iload_n 1, 1) := by decide +kernel
theorem dX5_sizeIn_7 : decode cX5_sizeIn 7 = .ok (.iconst 4, 1) := by decide +kernel
theorem dX5_sizeIn_8 : decode cX5_sizeIn 8 = .ok (.iadd, 1) := by decide +kernel
theorem dX5_sizeIn_9 : decode cX5_sizeIn 9 = .ok (.iload_n 2, 1) := by decide +kernel
theorem dX5_sizeIn_10 : decode cX5_sizeIn 10 = .ok (.iadd, 1) := by decide +kernel
theorem dX5_sizeIn_11 : decode cX5_sizeIn 11 = .ok (.iaload, 1) := by decide +kernel
theorem dX5_sizeIn_12 : decode cX5_sizeIn 12 = .ok (.invokevirtual 152, 3) := by decide +kernel
theorem dX5_sizeIn_15 : decode cX5_sizeIn 15 = .ok (.ireturn, 1) := by decide +kernel
theorem dX5_isOver_0 : decode cX5_isOver 0 = .ok (.aload_n 0, 1) := by decide +kernel
theorem dX5_isOver_1 : decode cX5_isOver 1 = .ok (.getfield 7, 3) := by decide +kernel
theorem dX5_isOver_4 : decode cX5_isOver 4 = .ok (.iload_n 1, 1) := by decide +kernel
theorem dX5_isOver_5 : decode cX5_isOver 5 = .ok (.iload_n 2, 1) := by decide +kernel
theorem dX5_isOver_6 : decode cX5_isOver 6 = .ok (.iadd, 1) := by decide +kernel
theorem dX5_isOver_7 : decode cX5_isOver 7 = .ok (.iaload, 1) := by decide +kernel
theorem dX5_isOver_8 : decode cX5_isOver 8 = .ok (.aload_n 0, 1) := by decide +kernel
theorem dX5_isOver_9 : decode cX5_isOver 9 = .ok (.getfield 17, 3) := by decide +kernel
theorem dX5_isOver_12 : decode cX5_isOver 12 = .ok (.iload_n 2, 1) := by decide +kernel
theorem dX5_isOver_13 : decode cX5_isOver 13 = .ok (.iaload, 1) := by decide +kernel
theorem dX5_isOver_14 : decode cX5_isOver 14 = .ok (.if_icmp .ne 7, 3) := by decide +kernel
theorem dX5_isOver_17 : decode cX5_isOver 17 = .ok (.iconst 1, 1) := by decide +kernel
theorem dX5_isOver_18 : decode cX5_isOver 18 = .ok (.goto 4, 3) := by decide +kernel
theorem dX5_isOver_21 : decode cX5_isOver 21 = .ok (.iconst 0, 1) := by decide +kernel
theorem dX5_isOver_22 : decode cX5_isOver 22 = .ok (.ireturn, 1) := by decide +kernel
theorem dX5_stone_0 : decode cX5_stone 0 = .ok (.aload_n 0, 1) := by decide +kernel
theorem dX5_stone_1 : decode cX5_stone 1 = .ok (.iload_n 1, 1) := by decide +kernel
theorem dX5_stone_2 : decode cX5_stone 2 = .ok (.invokevirtual 149, 3) := by decide +kernel
theorem dX5_stone_5 : decode cX5_stone 5 = .ok (.ifCond .ne 5, 3) := by decide +kernel
theorem dX5_stone_8 : decode cX5_stone 8 = .ok (.iconst (-1), 1) := by decide +kernel
theorem dX5_stone_9 : decode cX5_stone 9 = .ok (.ireturn, 1) := by decide +kernel
theorem dX5_stone_10 : decode cX5_stone 10 = .ok (.iload_n 2, 1) := by decide +kernel
theorem dX5_stone_11 : decode cX5_stone 11 = .ok (.ifCond .ne 12, 3) := by decide +kernel
theorem dX5_stone_14 : decode cX5_stone 14 = .ok (.aload_n 0, 1) := by decide +kernel
theorem dX5_stone_15 : decode cX5_stone 15 = .ok (.getfield 7, 3) := by decide +kernel
theorem dX5_stone_18 : decode cX5_stone 18 = .ok (.iload_n 1, 1) := by decide +kernel
theorem dX5_stone_19 : decode cX5_stone 19 = .ok (.iaload, 1) := by decide +kernel
theorem dX5_stone_20 : decode cX5_stone 20 = .ok (.goto 51, 3) := by decide +kernel
theorem dX5_stone_23 : decode cX5_stone 23 = .ok (.iload_n 2, 1) := by decide +kernel
theorem dX5_stone_24 : decode cX5_stone 24 = .ok (.iconst 1, 1) := by decide +kernel
theorem dX5_stone_25 : decode cX5_stone 25 = .ok (.if_icmp .ne 12, 3) := by decide +kernel
theorem dX5_stone_28 : decode cX5_stone 28 = .ok (.aload_n 0, 1) := by decide +kernel
theorem dX5_stone_29 : decode cX5_stone 29 = .ok (.iconst 0, 1) := by decide +kernel
theorem dX5_stone_30 : decode cX5_stone 30 = .ok (.iload_n 1, 1) := by decide +kernel
theorem dX5_stone_31 : decode cX5_stone 31 = .ok (.invokevirtual 155, 3) := by decide +kernel
theorem dX5_stone_34 : decode cX5_stone 34 = .ok (.goto 37, 3) := by decide +kernel
theorem dX5_stone_37 : decode cX5_stone 37 = .ok (.iload_n 2, 1) := by decide +kernel
theorem dX5_stone_38 : decode cX5_stone 38 = .ok (.iconst 2, 1) := by decide +kernel
theorem dX5_stone_39 : decode cX5_stone 39 = .ok (.if_icmp .ne 14, 3) := by decide +kernel
theorem dX5_stone_42 : decode cX5_stone 42 = .ok (.aload_n 0, 1) := by decide +kernel
theorem dX5_stone_43 : decode cX5_stone 43 = .ok (.getfield 7, 3) := by decide +kernel
theorem dX5_stone_46 : decode cX5_stone 46 = .ok (.iconst 4, 1) := by decide +kernel
theorem dX5_stone_47 : decode cX5_stone 47 = .ok (.iload_n 1, 1) := by decide +kernel
theorem dX5_stone_48 : decode cX5_stone 48 = .ok (.iadd, 1) := by decide +kernel
theorem dX5_stone_49 : decode cX5_stone 49 = .ok (.iaload, 1) := by decide +kernel
theorem dX5_stone_50 : decode cX5_stone 50 = .ok (.goto 21, 3) := by decide +kernel
theorem dX5_stone_53 : decode cX5_stone 53 = .ok (.iload_n 2, 1) := by decide +kernel
theorem dX5_stone_54 : decode cX5_stone 54 = .ok (.iconst 3, 1) := by decide +kernel
theorem dX5_stone_55 : decode cX5_stone 55 = .ok (.if_icmp .ne 15, 3) := by decide +kernel
theorem dX5_stone_58 : decode cX5_stone 58 = .ok (.aload_n 0, 1) := by decide +kernel
theorem dX5_stone_59 : decode cX5_stone 59 = .ok (.iconst 0, 1) := by decide +kernel
theorem dX5_stone_60 : decode cX5_stone 60 = .ok (.iload_n 1, 1) := by decide +kernel
theorem dX5_stone_61 : decode cX5_stone 61 = .ok (.invokevirtual 158, 3) := by decide +kernel
theorem dX5_stone_64 : decode cX5_stone 64 = .ok (.invokestatic 161, 3) := by decide +kernel
theorem dX5_stone_67 : decode cX5_stone 67 = .ok (.goto 4, 3) := by decide +kernel
theorem dX5_stone_70 : decode cX5_stone 70 = .ok (.iconst (-1), 1) := by decide +kernel
theorem dX5_stone_71 : decode cX5_stone 71 = .ok (.ireturn, 1) := by decide +kernel
theorem dX5_man_0 : decode cX5_man 0 = .ok (.aload_n 0, 1) := by decide +kernel
theorem dX5_man_1 : decode cX5_man 1 = .ok (.iload_n 1, 1) := by decide +kernel
theorem dX5_man_2 : decode cX5_man 2 = .ok (.invokevirtual 165, 3) := by decide +kernel
theorem dX5_man_5 : decode cX5_man 5 = .ok (.ifCond .ne 5, 3) := by decide +kernel
theorem dX5_man_8 : decode cX5_man 8 = .ok (.iconst (-1), 1) := by decide +kernel
theorem dX5_man_9 : decode cX5_man 9 = .ok (.ireturn, 1) := by decide +kernel
theorem dX5_man_10 : decode cX5_man 10 = .ok (.iload_n 2, 1) := by decide +kernel
theorem dX5_man_11 : decode cX5_man 11 = .ok (.ifCond .ne 12, 3) := by decide +kernel
theorem dX5_man_14 : decode cX5_man 14 = .ok (.aload_n 0, 1) := by decide +kernel
theorem dX5_man_15 : decode cX5_man 15 = .ok (.getfield 38, 3) := by decide +kernel
theorem dX5_man_18 : decode cX5_man 18 = .ok (.iload_n 1, 1) := by decide +kernel
theorem dX5_man_19 : decode cX5_man 19 = .ok (.iaload, 1) := by decide +kernel
theorem dX5_man_20 : decode cX5_man 20 = .ok (.goto 38, 3) := by decide +kernel
theorem dX5_man_23 : decode cX5_man 23 = .ok (.iload_n 2, 1) := by decide +kernel
theorem dX5_man_24 : decode cX5_man 24 = .ok (.iconst 1, 1) := by decide +kernel
theorem dX5_man_25 : decode cX5_man 25 = .ok (.if_icmp .ne 15, 3) := by decide +kernel
theorem dX5_man_28 : decode cX5_man 28 = .ok (.aload_n 0, 1) := by decide +kernel
theorem dX5_man_29 : decode cX5_man 29 = .ok (.getfield 7, 3) := by decide +kernel
theorem dX5_man_32 : decode cX5_man 32 = .ok (.bipush 8, 2) := by decide +kernel
theorem dX5_man_34 : decode cX5_man 34 = .ok (.iload_n 1, 1) := by decide +kernel
theorem dX5_man_35 : decode cX5_man 35 = .ok (.iadd, 1) := by decide +kernel
theorem dX5_man_36 : decode cX5_man 36 = .ok (.iaload, 1) := by decide +kernel
theorem dX5_man_37 : decode cX5_man 37 = .ok (.goto 21, 3) := by decide +kernel
theorem dX5_man_40 : decode cX5_man 40 = .ok (.iload_n 2, 1) := by decide +kernel
theorem dX5_man_41 : decode cX5_man 41 = .ok (.iconst 2, 1) := by decide +kernel
theorem dX5_man_42 : decode cX5_man 42 = .ok (.if_icmp .ne 15, 3) := by decide +kernel
theorem dX5_man_45 : decode cX5_man 45 = .ok (.aload_n 0, 1) := by decide +kernel
theorem dX5_man_46 : decode cX5_man 46 = .ok (.getfield 7, 3) := by decide +kernel
theorem dX5_man_49 : decode cX5_man 49 = .ok (.bipush 11, 2) := by decide +kernel
theorem dX5_man_51 : decode cX5_man 51 = .ok (.iload_n 1, 1) := by decide +kernel
theorem dX5_man_52 : decode cX5_man 52 = .ok (.iadd, 1) := by decide +kernel
theorem dX5_man_53 : decode cX5_man 53 = .ok (.iaload, 1) := by decide +kernel
theorem dX5_man_54 : decode cX5_man 54 = .ok (.goto 4, 3) := by decide +kernel
theorem dX5_man_57 : decode cX5_man 57 = .ok (.iconst (-1), 1) := by decide +kernel
theorem dX5_man_58 : decode cX5_man 58 = .ok (.ireturn, 1) := by decide +kernel
theorem dX5_over_0 : decode cX5_over 0 = .ok (.iconst 0, 1) := by decide +kernel
theorem dX5_over_1 : decode cX5_over 1 = .ok (.istore_n 1, 1) := by decide +kernel
theorem dX5_over_2 : decode cX5_over 2 = .ok (.iconst 0, 1) := by decide +kernel
theorem dX5_over_3 : decode cX5_over 3 = .ok (.istore_n 2, 1) := by decide +kernel
theorem dX5_over_4 : decode cX5_over 4 = .ok (.iload_n 2, 1) := by decide +kernel
theorem dX5_over_5 : decode cX5_over 5 = .ok (.aload_n 0, 1) := by decide +kernel
theorem dX5_over_6 : decode cX5_over 6 = .ok (.getfield 131, 3) := by decide +kernel
theorem dX5_over_9 : decode cX5_over 9 = .ok (.if_icmp .ge 23, 3) := by decide +kernel
theorem dX5_over_12 : decode cX5_over 12 = .ok (.iload_n 1, 1) := by decide +kernel
theorem dX5_over_13 : decode cX5_over 13 = .ok (.aload_n 0, 1) := by decide +kernel
theorem dX5_over_14 : decode cX5_over 14 = .ok (.iconst 0, 1) := by decide +kernel
theorem dX5_over_15 : decode cX5_over 15 = .ok (.iload_n 2, 1) := by decide +kernel
theorem dX5_over_16 : decode cX5_over 16 = .ok (.invokevirtual 158, 3) := by decide +kernel
theorem dX5_over_19 : decode cX5_over 19 = .ok (.invokestatic 161, 3) := by decide +kernel
theorem dX5_over_22 : decode cX5_over 22 = .ok (.iload_n 2, 1) := by decide +kernel
theorem dX5_over_23 : decode cX5_over 23 = .ok (.ishl, 1) := by decide +kernel
theorem dX5_over_24 : decode cX5_over 24 = .ok (.ior, 1) := by decide +kernel
theorem dX5_over_25 : decode cX5_over 25 = .ok (.istore_n 1, 1) := by decide +kernel
theorem dX5_over_26 : decode cX5_over 26 = .ok (.iinc 2 1, 3) := by decide +kernel
theorem dX5_over_29 : decode cX5_over 29 = .ok (.goto (-25), 3) := by decide +kernel
theorem dX5_over_32 : decode cX5_over 32 = .ok (.iload_n 1, 1) := by decide +kernel
theorem dX5_over_33 : decode cX5_over 33 = .ok (.ireturn, 1) := by decide +kernel
theorem dX5_now_0 : decode cX5_now 0 = .ok (.iload_n 1, 1) := by decide +kernel
theorem dX5_now_1 : decode cX5_now 1 = .ok (.tableswitch 69 0 4 #[35, 43, 51, 56, 64], 35) := by decide +kernel
theorem dX5_now_36 : decode cX5_now 36 = .ok (.aload_n 0, 1) := by decide +kernel
theorem dX5_now_37 : decode cX5_now 37 = .ok (.getfield 7, 3) := by decide +kernel
theorem dX5_now_40 : decode cX5_now 40 = .ok (.bipush 14, 2) := by decide +kernel
theorem dX5_now_42 : decode cX5_now 42 = .ok (.iaload, 1) := by decide +kernel
theorem dX5_now_43 : decode cX5_now 43 = .ok (.ireturn, 1) := by decide +kernel
theorem dX5_now_44 : decode cX5_now 44 = .ok (.aload_n 0, 1) := by decide +kernel
theorem dX5_now_45 : decode cX5_now 45 = .ok (.getfield 7, 3) := by decide +kernel
theorem dX5_now_48 : decode cX5_now 48 = .ok (.bipush 15, 2) := by decide +kernel
theorem dX5_now_50 : decode cX5_now 50 = .ok (.iaload, 1) := by decide +kernel
theorem dX5_now_51 : decode cX5_now 51 = .ok (.ireturn, 1) := by decide +kernel
theorem dX5_now_52 : decode cX5_now 52 = .ok (.aload_n 0, 1) := by decide +kernel
theorem dX5_now_53 : decode cX5_now 53 = .ok (.invokevirtual 168, 3) := by decide +kernel
theorem dX5_now_56 : decode cX5_now 56 = .ok (.ireturn, 1) := by decide +kernel
theorem dX5_now_57 : decode cX5_now 57 = .ok (.aload_n 0, 1) := by decide +kernel
theorem dX5_now_58 : decode cX5_now 58 = .ok (.getfield 7, 3) := by decide +kernel
theorem dX5_now_61 : decode cX5_now 61 = .ok (.bipush 16, 2) := by decide +kernel
theorem dX5_now_63 : decode cX5_now 63 = .ok (.iaload, 1) := by decide +kernel
theorem dX5_now_64 : decode cX5_now 64 = .ok (.ireturn, 1) := by decide +kernel
theorem dX5_now_65 : decode cX5_now 65 = .ok (.aload_n 0, 1) := by decide +kernel
theorem dX5_now_66 : decode cX5_now 66 = .ok (.getfield 146, 3) := by decide +kernel
theorem dX5_now_69 : decode cX5_now 69 = .ok (.ireturn, 1) := by decide +kernel
theorem dX5_now_70 : decode cX5_now 70 = .ok (.iconst (-1), 1) := by decide +kernel
theorem dX5_now_71 : decode cX5_now 71 = .ok (.ireturn, 1) := by decide +kernel
theorem dX5_blocksIn_0 : decode cX5_blocksIn 0 = .ok (.iconst 0, 1) := by decide +kernel
theorem dX5_blocksIn_1 : decode cX5_blocksIn 1 = .ok (.istore 4, 2) := by decide +kernel
theorem dX5_blocksIn_3 : decode cX5_blocksIn 3 = .ok (.iconst 0, 1) := by decide +kernel
theorem dX5_blocksIn_4 : decode cX5_blocksIn 4 = .ok (.istore 5, 2) := by decide +kernel
theorem dX5_blocksIn_6 : decode cX5_blocksIn 6 = .ok (.iload 5, 2) := by decide +kernel
theorem dX5_blocksIn_8 : decode cX5_blocksIn 8 = .ok (.aload_n 0, 1) := by decide +kernel
theorem dX5_blocksIn_9 : decode cX5_blocksIn 9 = .ok (.getfield 134, 3) := by decide +kernel
theorem dX5_blocksIn_12 : decode cX5_blocksIn 12 = .ok (.if_icmp .ge 119, 3) := by decide +kernel
theorem dX5_blocksIn_15 : decode cX5_blocksIn 15 = .ok (.aload_n 0, 1) := by decide +kernel
theorem dX5_blocksIn_16 : decode cX5_blocksIn 16 = .ok (.getfield 29, 3) := by decide +kernel
theorem dX5_blocksIn_19 : decode cX5_blocksIn 19 = .ok (.iload 5, 2) := by decide +kernel
theorem dX5_blocksIn_21 : decode cX5_blocksIn 21 = .ok (.iaload, 1) := by decide +kernel
theorem dX5_blocksIn_22 : decode cX5_blocksIn 22 = .ok (.iload_n 2, 1) := by decide +kernel
theorem dX5_blocksIn_23 : decode cX5_blocksIn 23 = .ok (.if_icmp .ne 13, 3) := by decide +kernel
theorem dX5_blocksIn_26 : decode cX5_blocksIn 26 = .ok (.aload_n 0, 1) := by decide +kernel
theorem dX5_blocksIn_27 : decode cX5_blocksIn 27 = .ok (.getfield 32, 3) := by decide +kernel
theorem dX5_blocksIn_30 : decode cX5_blocksIn 30 = .ok (.iload 5, 2) := by decide +kernel
theorem dX5_blocksIn_32 : decode cX5_blocksIn 32 = .ok (.iaload, 1) := by decide +kernel
theorem dX5_blocksIn_33 : decode cX5_blocksIn 33 = .ok (.goto 26, 3) := by decide +kernel
theorem dX5_blocksIn_36 : decode cX5_blocksIn 36 = .ok (.aload_n 0, 1) := by decide +kernel
theorem dX5_blocksIn_37 : decode cX5_blocksIn 37 = .ok (.getfield 32, 3) := by decide +kernel
theorem dX5_blocksIn_40 : decode cX5_blocksIn 40 = .ok (.iload 5, 2) := by decide +kernel
theorem dX5_blocksIn_42 : decode cX5_blocksIn 42 = .ok (.iaload, 1) := by decide +kernel
theorem dX5_blocksIn_43 : decode cX5_blocksIn 43 = .ok (.iload_n 2, 1) := by decide +kernel
theorem dX5_blocksIn_44 : decode cX5_blocksIn 44 = .ok (.if_icmp .ne 13, 3) := by decide +kernel
theorem dX5_blocksIn_47 : decode cX5_blocksIn 47 = .ok (.aload_n 0, 1) := by decide +kernel
theorem dX5_blocksIn_48 : decode cX5_blocksIn 48 = .ok (.getfield 29, 3) := by decide +kernel
theorem dX5_blocksIn_51 : decode cX5_blocksIn 51 = .ok (.iload 5, 2) := by decide +kernel
theorem dX5_blocksIn_53 : decode cX5_blocksIn 53 = .ok (.iaload, 1) := by decide +kernel
theorem dX5_blocksIn_54 : decode cX5_blocksIn 54 = .ok (.goto 5, 3) := by decide +kernel
theorem dX5_blocksIn_57 : decode cX5_blocksIn 57 = .ok (.bipush (-9), 2) := by decide +kernel
theorem dX5_blocksIn_59 : decode cX5_blocksIn 59 = .ok (.istore 6, 2) := by decide +kernel
theorem dX5_blocksIn_61 : decode cX5_blocksIn 61 = .ok (.iload 6, 2) := by decide +kernel
theorem dX5_blocksIn_63 : decode cX5_blocksIn 63 = .ok (.ifCond .lt 41, 3) := by decide +kernel
theorem dX5_blocksIn_66 : decode cX5_blocksIn 66 = .ok (.aload_n 0, 1) := by decide +kernel
theorem dX5_blocksIn_67 : decode cX5_blocksIn 67 = .ok (.getfield 35, 3) := by decide +kernel
theorem dX5_blocksIn_70 : decode cX5_blocksIn 70 = .ok (.iload 5, 2) := by decide +kernel
theorem dX5_blocksIn_72 : decode cX5_blocksIn 72 = .ok (.iaload, 1) := by decide +kernel
theorem dX5_blocksIn_73 : decode cX5_blocksIn 73 = .ok (.iload_n 3, 1) := by decide +kernel
theorem dX5_blocksIn_74 : decode cX5_blocksIn 74 = .ok (.if_icmp .gt 30, 3) := by decide +kernel
theorem dX5_blocksIn_77 : decode cX5_blocksIn 77 = .ok (.aload_n 0, 1) := by decide +kernel
theorem dX5_blocksIn_78 : decode cX5_blocksIn 78 = .ok (.getfield 7, 3) := by decide +kernel
theorem dX5_blocksIn_81 : decode cX5_blocksIn 81 = .ok (.iload_n 1, 1) := by decide +kernel
theorem dX5_blocksIn_82 : decode cX5_blocksIn 82 = .ok (.iload 6, 2) := by decide +kernel
theorem dX5_blocksIn_84 : decode cX5_blocksIn 84 = .ok (.iadd, 1) := by decide +kernel
theorem dX5_blocksIn_85 : decode cX5_blocksIn 85 = .ok (.iaload, 1) := by decide +kernel
theorem dX5_blocksIn_86 : decode cX5_blocksIn 86 = .ok (.iload_n 3, 1) := by decide +kernel
theorem dX5_blocksIn_87 : decode cX5_blocksIn 87 = .ok (.if_icmp .ne 17, 3) := by decide +kernel
theorem dX5_blocksIn_90 : decode cX5_blocksIn 90 = .ok (.aload_n 0, 1) := by decide +kernel
theorem dX5_blocksIn_91 : decode cX5_blocksIn 91 = .ok (.iload_n 1, 1) := by decide +kernel
theorem dX5_blocksIn_92 : decode cX5_blocksIn 92 = .ok (.iload 6, 2) := by decide +kernel
theorem dX5_blocksIn_94 : decode cX5_blocksIn 94 = .ok (.invokevirtual 158, 3) := by decide +kernel
theorem dX5_blocksIn_97 : decode cX5_blocksIn 97 = .ok (.ifCond .ne 7, 3) := by decide +kernel
theorem dX5_blocksIn_100 : decode cX5_blocksIn 100 = .ok (.iconst 1, 1) := by decide +kernel
theorem dX5_blocksIn_101 : decode cX5_blocksIn 101 = .ok (.goto 4, 3) := by decide +kernel
theorem dX5_blocksIn_104 : decode cX5_blocksIn 104 = .ok (.iconst 0, 1) := by decide +kernel
theorem dX5_blocksIn_105 : decode cX5_blocksIn 105 = .ok (.istore 7, 2) := by decide +kernel
theorem dX5_blocksIn_107 : decode cX5_blocksIn 107 = .ok (.iload 4, 2) := by decide +kernel
theorem dX5_blocksIn_109 : decode cX5_blocksIn 109 = .ok (.iload 7, 2) := by decide +kernel
theorem dX5_blocksIn_111 : decode cX5_blocksIn 111 = .ok (.ifCond .eq 10, 3) := by decide +kernel
theorem dX5_blocksIn_114 : decode cX5_blocksIn 114 = .ok (.iconst 1, 1) := by decide +kernel
theorem dX5_blocksIn_115 : decode cX5_blocksIn 115 = .ok (.iload 6, 2) := by decide +kernel
theorem dX5_blocksIn_117 : decode cX5_blocksIn 117 = .ok (.ishl, 1) := by decide +kernel
theorem dX5_blocksIn_118 : decode cX5_blocksIn 118 = .ok (.goto 4, 3) := by decide +kernel
theorem dX5_blocksIn_121 : decode cX5_blocksIn 121 = .ok (.iconst 0, 1) := by decide +kernel
theorem dX5_blocksIn_122 : decode cX5_blocksIn 122 = .ok (.ior, 1) := by decide +kernel
theorem dX5_blocksIn_123 : decode cX5_blocksIn 123 = .ok (.istore 4, 2) := by decide +kernel
theorem dX5_blocksIn_125 : decode cX5_blocksIn 125 = .ok (.iinc 5 1, 3) := by decide +kernel
theorem dX5_blocksIn_128 : decode cX5_blocksIn 128 = .ok (.goto (-122), 3) := by decide +kernel
theorem dX5_blocksIn_131 : decode cX5_blocksIn 131 = .ok (.iload 4, 2) := by decide +kernel
theorem dX5_blocksIn_133 : decode cX5_blocksIn 133 = .ok (.ireturn, 1) := by decide +kernel
theorem dX5_copy_0 : decode cX5_copy 0 = .ok (.iconst 0, 1) := by decide +kernel
theorem dX5_copy_1 : decode cX5_copy 1 = .ok (.istore_n 3, 1) := by decide +kernel
theorem dX5_copy_2 : decode cX5_copy 2 = .ok (.iload_n 3, 1) := by decide +kernel
theorem dX5_copy_3 : decode cX5_copy 3 = .ok (.bipush 100, 2) := by decide +kernel
theorem dX5_copy_5 : decode cX5_copy 5 = .ok (.if_icmp .ge 25, 3) := by decide +kernel
theorem dX5_copy_8 : decode cX5_copy 8 = .ok (.aload_n 0, 1) := by decide +kernel
theorem dX5_copy_9 : decode cX5_copy 9 = .ok (.getfield 7, 3) := by decide +kernel
theorem dX5_copy_12 : decode cX5_copy 12 = .ok (.iload_n 2, 1) := by decide +kernel
theorem dX5_copy_13 : decode cX5_copy 13 = .ok (.iload_n 3, 1) := by decide +kernel
theorem dX5_copy_14 : decode cX5_copy 14 = .ok (.iadd, 1) := by decide +kernel
theorem dX5_copy_15 : decode cX5_copy 15 = .ok (.aload_n 0, 1) := by decide +kernel
theorem dX5_copy_16 : decode cX5_copy 16 = .ok (.getfield 7, 3) := by decide +kernel
theorem dX5_copy_19 : decode cX5_copy 19 = .ok (.iload_n 1, 1) := by decide +kernel
theorem dX5_copy_20 : decode cX5_copy 20 = .ok (.iload_n 3, 1) := by decide +kernel
theorem dX5_copy_21 : decode cX5_copy 21 = .ok (.iadd, 1) := by decide +kernel
theorem dX5_copy_22 : decode cX5_copy 22 = .ok (.iaload, 1) := by decide +kernel
theorem dX5_copy_23 : decode cX5_copy 23 = .ok (.iastore, 1) := by decide +kernel
theorem dX5_copy_24 : decode cX5_copy 24 = .ok (.iinc 3 1, 3) := by decide +kernel
theorem dX5_copy_27 : decode cX5_copy 27 = .ok (.goto (-25), 3) := by decide +kernel
theorem dX5_copy_30 : decode cX5_copy 30 = .ok (.return_, 1) := by decide +kernel
theorem dX5_remember_0 : decode cX5_remember 0 = .ok (.aload_n 0, 1) := by decide +kernel
theorem dX5_remember_1 : decode cX5_remember 1 = .ok (.getfield 146, 3) := by decide +kernel
theorem dX5_remember_4 : decode cX5_remember 4 = .ok (.bipush 10, 2) := by decide +kernel
theorem dX5_remember_6 : decode cX5_remember 6 = .ok (.if_icmp .ne 49, 3) := by decide +kernel
theorem dX5_remember_9 : decode cX5_remember 9 = .ok (.iconst 1, 1) := by decide +kernel
theorem dX5_remember_10 : decode cX5_remember 10 = .ok (.istore_n 1, 1) := by decide +kernel
theorem dX5_remember_11 : decode cX5_remember 11 = .ok (.iload_n 1, 1) := by decide +kernel
theorem dX5_remember_12 : decode cX5_remember 12 = .ok (.bipush 10, 2) := by decide +kernel
theorem dX5_remember_14 : decode cX5_remember 14 = .ok (.if_icmp .ge 31, 3) := by decide +kernel
theorem dX5_remember_17 : decode cX5_remember 17 = .ok (.aload_n 0, 1) := by decide +kernel
theorem dX5_remember_18 : decode cX5_remember 18 = .ok (.sipush 400, 3) := by decide +kernel
theorem dX5_remember_21 : decode cX5_remember 21 = .ok (.bipush 100, 2) := by decide +kernel
theorem dX5_remember_23 : decode cX5_remember 23 = .ok (.iload_n 1, 1) := by decide +kernel
theorem dX5_remember_24 : decode cX5_remember 24 = .ok (.imul, 1) := by decide +kernel
theorem dX5_remember_25 : decode cX5_remember 25 = .ok (.iadd, 1) := by decide +kernel
theorem dX5_remember_26 : decode cX5_remember 26 = .ok (.sipush 400, 3) := by decide +kernel
theorem dX5_remember_29 : decode cX5_remember 29 = .ok (.bipush 100, 2) := by decide +kernel
theorem dX5_remember_31 : decode cX5_remember 31 = .ok (.iload_n 1, 1) := by decide +kernel
theorem dX5_remember_32 : decode cX5_remember 32 = .ok (.iconst 1, 1) := by decide +kernel
theorem dX5_remember_33 : decode cX5_remember 33 = .ok (.isub, 1) := by decide +kernel
theorem dX5_remember_34 : decode cX5_remember 34 = .ok (.imul, 1) := by decide +kernel
theorem dX5_remember_35 : decode cX5_remember 35 = .ok (.iadd, 1) := by decide +kernel
theorem dX5_remember_36 : decode cX5_remember 36 = .ok (.invokevirtual 172, 3) := by decide +kernel
theorem dX5_remember_39 : decode cX5_remember 39 = .ok (.iinc 1 1, 3) := by decide +kernel
theorem dX5_remember_42 : decode cX5_remember 42 = .ok (.goto (-31), 3) := by decide +kernel
theorem dX5_remember_45 : decode cX5_remember 45 = .ok (.aload_n 0, 1) := by decide +kernel
theorem dX5_remember_46 : decode cX5_remember 46 = .ok (.dup, 1) := by decide +kernel
theorem dX5_remember_47 : decode cX5_remember 47 = .ok (.getfield 146, 3) := by decide +kernel
theorem dX5_remember_50 : decode cX5_remember 50 = .ok (.iconst 1, 1) := by decide +kernel
theorem dX5_remember_51 : decode cX5_remember 51 = .ok (.isub, 1) := by decide +kernel
theorem dX5_remember_52 : decode cX5_remember 52 = .ok (.putfield 146, 3) := by decide +kernel
theorem dX5_remember_55 : decode cX5_remember 55 = .ok (.aload_n 0, 1) := by decide +kernel
theorem dX5_remember_56 : decode cX5_remember 56 = .ok (.iconst 0, 1) := by decide +kernel
theorem dX5_remember_57 : decode cX5_remember 57 = .ok (.sipush 400, 3) := by decide +kernel
theorem dX5_remember_60 : decode cX5_remember 60 = .ok (.bipush 100, 2) := by decide +kernel
theorem dX5_remember_62 : decode cX5_remember 62 = .ok (.aload_n 0, 1) := by decide +kernel
theorem dX5_remember_63 : decode cX5_remember 63 = .ok (.getfield 146, 3) := by decide +kernel
theorem dX5_remember_66 : decode cX5_remember 66 = .ok (.imul, 1) := by decide +kernel
theorem dX5_remember_67 : decode cX5_remember 67 = .ok (.iadd, 1) := by decide +kernel
theorem dX5_remember_68 : decode cX5_remember 68 = .ok (.invokevirtual 172, 3) := by decide +kernel
theorem dX5_remember_71 : decode cX5_remember 71 = .ok (.aload_n 0, 1) := by decide +kernel
theorem dX5_remember_72 : decode cX5_remember 72 = .ok (.dup, 1) := by decide +kernel
theorem dX5_remember_73 : decode cX5_remember 73 = .ok (.getfield 146, 3) := by decide +kernel
theorem dX5_remember_76 : decode cX5_remember 76 = .ok (.iconst 1, 1) := by decide +kernel
theorem dX5_remember_77 : decode cX5_remember 77 = .ok (.iadd, 1) := by decide +kernel
theorem dX5_remember_78 : decode cX5_remember 78 = .ok (.putfield 146, 3) := by decide +kernel
theorem dX5_remember_81 : decode cX5_remember 81 = .ok (.return_, 1) := by decide +kernel
theorem dX5_order_0 : decode cX5_order 0 = .ok (.aload_n 0, 1) := by decide +kernel
theorem dX5_order_1 : decode cX5_order 1 = .ok (.iload_n 1, 1) := by decide +kernel
theorem dX5_order_2 : decode cX5_order 2 = .ok (.invokevirtual 165, 3) := by decide +kernel
theorem dX5_order_5 : decode cX5_order 5 = .ok (.ifCond .eq 17, 3) := by decide +kernel
theorem dX5_order_8 : decode cX5_order 8 = .ok (.iload_n 2, 1) := by decide +kernel
theorem dX5_order_9 : decode cX5_order 9 = .ok (.bipush (-9), 2) := by decide +kernel
theorem dX5_order_11 : decode cX5_order 11 = .ok (.if_icmp .eq 13, 3) := by decide +kernel
theorem dX5_order_14 : decode cX5_order 14 = .ok (.aload_n 0, 1) := by decide +kernel
theorem dX5_order_15 : decode cX5_order 15 = .ok (.iload_n 2, 1) := by decide +kernel
theorem dX5_order_16 : decode cX5_order 16 = .ok (.invokevirtual 149, 3) := by decide +kernel
theorem dX5_order_19 : decode cX5_order 19 = .ok (.ifCond .ne 5, 3) := by decide +kernel
theorem dX5_order_22 : decode cX5_order 22 = .ok (.iconst (-1), 1) := by decide +kernel
theorem dX5_order_23 : decode cX5_order 23 = .ok (.ireturn, 1) := by decide +kernel
theorem dX5_order_24 : decode cX5_order 24 = .ok (.aload_n 0, 1) := by decide +kernel
theorem dX5_order_25 : decode cX5_order 25 = .ok (.invokevirtual 176, 3) := by decide +kernel
theorem dX5_order_28 : decode cX5_order 28 = .ok (.aload_n 0, 1) := by decide +kernel
theorem dX5_order_29 : decode cX5_order 29 = .ok (.getfield 7, 3) := by decide +kernel
theorem dX5_order_32 : decode cX5_order 32 = .ok (.bipush 11, 2) := by decide +kernel
theorem dX5_order_34 : decode cX5_order 34 = .ok (.iload_n 1, 1) := by decide +kernel
theorem dX5_order_35 : decode cX5_order 35 = .ok (.iadd, 1) := by decide +kernel
theorem dX5_order_36 : decode cX5_order 36 = .ok (.iaload, 1) := by decide +kernel
theorem dX5_order_37 : decode cX5_order 37 = .ok (.istore_n 3, 1) := by decide +kernel
theorem dX5_order_38 : decode cX5_order 38 = .ok (.aload_n 0, 1) := by decide +kernel
theorem dX5_order_39 : decode cX5_order 39 = .ok (.getfield 7, 3) := by decide +kernel
theorem dX5_order_42 : decode cX5_order 42 = .ok (.bipush 11, 2) := by decide +kernel
theorem dX5_order_44 : decode cX5_order 44 = .ok (.iload_n 1, 1) := by decide +kernel
theorem dX5_order_45 : decode cX5_order 45 = .ok (.iadd, 1) := by decide +kernel
theorem dX5_order_46 : decode cX5_order 46 = .ok (.iload_n 2, 1) := by decide +kernel
theorem dX5_order_47 : decode cX5_order 47 = .ok (.iastore, 1) := by decide +kernel
theorem dX5_order_48 : decode cX5_order 48 = .ok (.iload_n 3, 1) := by decide +kernel
theorem dX5_order_49 : decode cX5_order 49 = .ok (.ireturn, 1) := by decide +kernel
theorem dX5_pushOf_0 : decode cX5_pushOf 0 = .ok (.iconst 0, 1) := by decide +kernel
theorem dX5_pushOf_1 : decode cX5_pushOf 1 = .ok (.istore_n 3, 1) := by decide +kernel
theorem dX5_pushOf_2 : decode cX5_pushOf 2 = .ok (.iconst 0, 1) := by decide +kernel
theorem dX5_pushOf_3 : decode cX5_pushOf 3 = .ok (.istore 4, 2) := by decide +kernel
theorem dX5_pushOf_5 : decode cX5_pushOf 5 = .ok (.iload 4, 2) := by decide +kernel
theorem dX5_pushOf_7 : decode cX5_pushOf 7 = .ok (.aload_n 0, 1) := by decide +kernel
theorem dX5_pushOf_8 : decode cX5_pushOf 8 = .ok (.getfield 137, 3) := by decide +kernel
theorem dX5_pushOf_11 : decode cX5_pushOf 11 = .ok (.if_icmp .ge 44, 3) := by decide +kernel
theorem dX5_pushOf_14 : decode cX5_pushOf 14 = .ok (.iload_n 3, 1) := by decide +kernel
theorem dX5_pushOf_15 : decode cX5_pushOf 15 = .ok (.aload_n 0, 1) := by decide +kernel
theorem dX5_pushOf_16 : decode cX5_pushOf 16 = .ok (.getfield 7, 3) := by decide +kernel
theorem dX5_pushOf_19 : decode cX5_pushOf 19 = .ok (.iload_n 1, 1) := by decide +kernel
theorem dX5_pushOf_20 : decode cX5_pushOf 20 = .ok (.bipush 11, 2) := by decide +kernel
theorem dX5_pushOf_22 : decode cX5_pushOf 22 = .ok (.iadd, 1) := by decide +kernel
theorem dX5_pushOf_23 : decode cX5_pushOf 23 = .ok (.iload 4, 2) := by decide +kernel
theorem dX5_pushOf_25 : decode cX5_pushOf 25 = .ok (.iadd, 1) := by decide +kernel
theorem dX5_pushOf_26 : decode cX5_pushOf 26 = .ok (.iaload, 1) := by decide +kernel
theorem dX5_pushOf_27 : decode cX5_pushOf 27 = .ok (.iload_n 2, 1) := by decide +kernel
theorem dX5_pushOf_28 : decode cX5_pushOf 28 = .ok (.if_icmp .ne 18, 3) := by decide +kernel
theorem dX5_pushOf_31 : decode cX5_pushOf 31 = .ok (.aload_n 0, 1) := by decide +kernel
theorem dX5_pushOf_32 : decode cX5_pushOf 32 = .ok (.getfield 7, 3) := by decide +kernel
theorem dX5_pushOf_35 : decode cX5_pushOf 35 = .ok (.iload_n 1, 1) := by decide +kernel
theorem dX5_pushOf_36 : decode cX5_pushOf 36 = .ok (.bipush 8, 2) := by decide +kernel
theorem dX5_pushOf_38 : decode cX5_pushOf 38 = .ok (.iadd, 1) := by decide +kernel
theorem dX5_pushOf_39 : decode cX5_pushOf 39 = .ok (.iload 4, 2) := by decide +kernel
theorem dX5_pushOf_41 : decode cX5_pushOf 41 = .ok (.iadd, 1) := by decide +kernel
theorem dX5_pushOf_42 : decode cX5_pushOf 42 = .ok (.iaload, 1) := by decide +kernel
theorem dX5_pushOf_43 : decode cX5_pushOf 43 = .ok (.goto 4, 3) := by decide +kernel
theorem dX5_pushOf_46 : decode cX5_pushOf 46 = .ok (.iconst 0, 1) := by decide +kernel
theorem dX5_pushOf_47 : decode cX5_pushOf 47 = .ok (.iadd, 1) := by decide +kernel
theorem dX5_pushOf_48 : decode cX5_pushOf 48 = .ok (.istore_n 3, 1) := by decide +kernel
theorem dX5_pushOf_49 : decode cX5_pushOf 49 = .ok (.iinc 4 1, 3) := by decide +kernel
theorem dX5_pushOf_52 : decode cX5_pushOf 52 = .ok (.goto (-47), 3) := by decide +kernel
theorem dX5_pushOf_55 : decode cX5_pushOf 55 = .ok (.iload_n 3, 1) := by decide +kernel
theorem dX5_pushOf_56 : decode cX5_pushOf 56 = .ok (.ireturn, 1) := by decide +kernel
theorem dX5_overIn_0 : decode cX5_overIn 0 = .ok (.iconst 0, 1) := by decide +kernel
theorem dX5_overIn_1 : decode cX5_overIn 1 = .ok (.istore_n 2, 1) := by decide +kernel
theorem dX5_overIn_2 : decode cX5_overIn 2 = .ok (.iconst 0, 1) := by decide +kernel
theorem dX5_overIn_3 : decode cX5_overIn 3 = .ok (.istore_n 3, 1) := by decide +kernel
theorem dX5_overIn_4 : decode cX5_overIn 4 = .ok (.iload_n 3, 1) := by decide +kernel
theorem dX5_overIn_5 : decode cX5_overIn 5 = .ok (.aload_n 0, 1) := by decide +kernel
theorem dX5_overIn_6 : decode cX5_overIn 6 = .ok (.getfield 131, 3) := by decide +kernel
theorem dX5_overIn_9 : decode cX5_overIn 9 = .ok (.if_icmp .ge 23, 3) := by decide +kernel
theorem dX5_overIn_12 : decode cX5_overIn 12 = .ok (.iload_n 2, 1) := by decide +kernel
theorem dX5_overIn_13 : decode cX5_overIn 13 = .ok (.aload_n 0, 1) := by decide +kernel
theorem dX5_overIn_14 : decode cX5_overIn 14 = .ok (.iload_n 1, 1) := by decide +kernel
theorem dX5_overIn_15 : decode cX5_overIn 15 = .ok (.iload_n 3, 1) := by decide +kernel
theorem dX5_overIn_16 : decode cX5_overIn 16 = .ok (.invokevirtual 158, 3) := by decide +kernel
theorem dX5_overIn_19 : decode cX5_overIn 19 = .ok (.invokestatic 161, 3) := by decide +kernel
theorem dX5_overIn_22 : decode cX5_overIn 22 = .ok (.iload_n 3, 1) := by decide +kernel
theorem dX5_overIn_23 : decode cX5_overIn 23 = .ok (.ishl, 1) := by decide +kernel
theorem dX5_overIn_24 : decode cX5_overIn 24 = .ok (.ior, 1) := by decide +kernel
theorem dX5_overIn_25 : decode cX5_overIn 25 = .ok (.istore_n 2, 1) := by decide +kernel
theorem dX5_overIn_26 : decode cX5_overIn 26 = .ok (.iinc 3 1, 3) := by decide +kernel
theorem dX5_overIn_29 : decode cX5_overIn 29 = .ok (.goto (-25), 3) := by decide +kernel
theorem dX5_overIn_32 : decode cX5_overIn 32 = .ok (.iload_n 2, 1) := by decide +kernel
theorem dX5_overIn_33 : decode cX5_overIn 33 = .ok (.ireturn, 1) := by decide +kernel
theorem dX5_tire_0 : decode cX5_tire 0 = .ok (.iconst 0, 1) := by decide +kernel
theorem dX5_tire_1 : decode cX5_tire 1 = .ok (.istore_n 3, 1) := by decide +kernel
theorem dX5_tire_2 : decode cX5_tire 2 = .ok (.iload_n 3, 1) := by decide +kernel
theorem dX5_tire_3 : decode cX5_tire 3 = .ok (.aload_n 0, 1) := by decide +kernel
theorem dX5_tire_4 : decode cX5_tire 4 = .ok (.getfield 137, 3) := by decide +kernel
theorem dX5_tire_7 : decode cX5_tire 7 = .ok (.if_icmp .ge 99, 3) := by decide +kernel
theorem dX5_tire_10 : decode cX5_tire 10 = .ok (.aload_n 0, 1) := by decide +kernel
theorem dX5_tire_11 : decode cX5_tire 11 = .ok (.getfield 7, 3) := by decide +kernel
theorem dX5_tire_14 : decode cX5_tire 14 = .ok (.iload_n 1, 1) := by decide +kernel
theorem dX5_tire_15 : decode cX5_tire 15 = .ok (.bipush 11, 2) := by decide +kernel
theorem dX5_tire_17 : decode cX5_tire 17 = .ok (.iadd, 1) := by decide +kernel
theorem dX5_tire_18 : decode cX5_tire 18 = .ok (.iload_n 3, 1) := by decide +kernel
theorem dX5_tire_19 : decode cX5_tire 19 = .ok (.iadd, 1) := by decide +kernel
theorem dX5_tire_20 : decode cX5_tire 20 = .ok (.iaload, 1) := by decide +kernel
theorem dX5_tire_21 : decode cX5_tire 21 = .ok (.istore 4, 2) := by decide +kernel
theorem dX5_tire_23 : decode cX5_tire 23 = .ok (.aload_n 0, 1) := by decide +kernel
theorem dX5_tire_24 : decode cX5_tire 24 = .ok (.getfield 7, 3) := by decide +kernel
theorem dX5_tire_27 : decode cX5_tire 27 = .ok (.iload_n 1, 1) := by decide +kernel
theorem dX5_tire_28 : decode cX5_tire 28 = .ok (.bipush 8, 2) := by decide +kernel
theorem dX5_tire_30 : decode cX5_tire 30 = .ok (.iadd, 1) := by decide +kernel
theorem dX5_tire_31 : decode cX5_tire 31 = .ok (.iload_n 3, 1) := by decide +kernel
theorem dX5_tire_32 : decode cX5_tire 32 = .ok (.iadd, 1) := by decide +kernel
theorem dX5_tire_33 : decode cX5_tire 33 = .ok (.iaload, 1) := by decide +kernel
theorem dX5_tire_34 : decode cX5_tire 34 = .ok (.iload 4, 2) := by decide +kernel
theorem dX5_tire_36 : decode cX5_tire 36 = .ok (.bipush (-9), 2) := by decide +kernel
theorem dX5_tire_38 : decode cX5_tire 38 = .ok (.if_icmp .eq 16, 3) := by decide +kernel
theorem dX5_tire_41 : decode cX5_tire 41 = .ok (.iload_n 2, 1) := by decide +kernel
theorem dX5_tire_42 : decode cX5_tire 42 = .ok (.iload 4, 2) := by decide +kernel
theorem dX5_tire_44 : decode cX5_tire 44 = .ok (.invokestatic 118, 3) := by decide +kernel
theorem dX5_tire_47 : decode cX5_tire 47 = .ok (.ifCond .ne 7, 3) := by decide +kernel
theorem dX5_tire_50 : decode cX5_tire 50 = .ok (.iconst (-1), 1) := by decide +kernel
theorem dX5_tire_51 : decode cX5_tire 51 = .ok (.goto 4, 3) := by decide +kernel
theorem dX5_tire_54 : decode cX5_tire 54 = .ok (.iconst 1, 1) := by decide +kernel
theorem dX5_tire_55 : decode cX5_tire 55 = .ok (.iadd, 1) := by decide +kernel
theorem dX5_tire_56 : decode cX5_tire 56 = .ok (.istore 5, 2) := by decide +kernel
theorem dX5_tire_58 : decode cX5_tire 58 = .ok (.aload_n 0, 1) := by decide +kernel
theorem dX5_tire_59 : decode cX5_tire 59 = .ok (.getfield 7, 3) := by decide +kernel
theorem dX5_tire_62 : decode cX5_tire 62 = .ok (.iload_n 1, 1) := by decide +kernel
theorem dX5_tire_63 : decode cX5_tire 63 = .ok (.bipush 8, 2) := by decide +kernel
theorem dX5_tire_65 : decode cX5_tire 65 = .ok (.iadd, 1) := by decide +kernel
theorem dX5_tire_66 : decode cX5_tire 66 = .ok (.iload_n 3, 1) := by decide +kernel
theorem dX5_tire_67 : decode cX5_tire 67 = .ok (.iadd, 1) := by decide +kernel
theorem dX5_tire_68 : decode cX5_tire 68 = .ok (.iload 5, 2) := by decide +kernel
theorem dX5_tire_70 : decode cX5_tire 70 = .ok (.ifCond .ge 7, 3) := by decide +kernel
theorem dX5_tire_73 : decode cX5_tire 73 = .ok (.iconst 0, 1) := by decide +kernel
theorem dX5_tire_74 : decode cX5_tire 74 = .ok (.goto 25, 3) := by decide +kernel
theorem dX5_tire_77 : decode cX5_tire 77 = .ok (.iload 5, 2) := by decide +kernel
theorem dX5_tire_79 : decode cX5_tire 79 = .ok (.aload_n 0, 1) := by decide +kernel
theorem dX5_tire_80 : decode cX5_tire 80 = .ok (.getfield 38, 3) := by decide +kernel
theorem dX5_tire_83 : decode cX5_tire 83 = .ok (.iload_n 3, 1) := by decide +kernel
theorem dX5_tire_84 : decode cX5_tire 84 = .ok (.iaload, 1) := by decide +kernel
theorem dX5_tire_85 : decode cX5_tire 85 = .ok (.if_icmp .le 12, 3) := by decide +kernel
theorem dX5_tire_88 : decode cX5_tire 88 = .ok (.aload_n 0, 1) := by decide +kernel
theorem dX5_tire_89 : decode cX5_tire 89 = .ok (.getfield 38, 3) := by decide +kernel
theorem dX5_tire_92 : decode cX5_tire 92 = .ok (.iload_n 3, 1) := by decide +kernel
theorem dX5_tire_93 : decode cX5_tire 93 = .ok (.iaload, 1) := by decide +kernel
theorem dX5_tire_94 : decode cX5_tire 94 = .ok (.goto 5, 3) := by decide +kernel
theorem dX5_tire_97 : decode cX5_tire 97 = .ok (.iload 5, 2) := by decide +kernel
theorem dX5_tire_99 : decode cX5_tire 99 = .ok (.iastore, 1) := by decide +kernel
theorem dX5_tire_100 : decode cX5_tire 100 = .ok (.iinc 3 1, 3) := by decide +kernel
theorem dX5_tire_103 : decode cX5_tire 103 = .ok (.goto (-101), 3) := by decide +kernel
theorem dX5_tire_106 : decode cX5_tire 106 = .ok (.return_, 1) := by decide +kernel
theorem dX5_push_0 : decode cX5_push 0 = .ok (.aload_n 0, 1) := by decide +kernel
theorem dX5_push_1 : decode cX5_push 1 = .ok (.iload_n 1, 1) := by decide +kernel
theorem dX5_push_2 : decode cX5_push 2 = .ok (.invokevirtual 179, 3) := by decide +kernel
theorem dX5_push_5 : decode cX5_push 5 = .ok (.istore_n 2, 1) := by decide +kernel
theorem dX5_push_6 : decode cX5_push 6 = .ok (.iconst 0, 1) := by decide +kernel
theorem dX5_push_7 : decode cX5_push 7 = .ok (.istore_n 3, 1) := by decide +kernel
theorem dX5_push_8 : decode cX5_push 8 = .ok (.iconst 0, 1) := by decide +kernel
theorem dX5_push_9 : decode cX5_push 9 = .ok (.istore 4, 2) := by decide +kernel
theorem dX5_push_11 : decode cX5_push 11 = .ok (.iload 4, 2) := by decide +kernel
theorem dX5_push_13 : decode cX5_push 13 = .ok (.aload_n 0, 1) := by decide +kernel
theorem dX5_push_14 : decode cX5_push 14 = .ok (.getfield 131, 3) := by decide +kernel
theorem dX5_push_17 : decode cX5_push 17 = .ok (.if_icmp .ge 96, 3) := by decide +kernel
theorem dX5_push_20 : decode cX5_push 20 = .ok (.iload_n 2, 1) := by decide +kernel
theorem dX5_push_21 : decode cX5_push 21 = .ok (.iload 4, 2) := by decide +kernel
theorem dX5_push_23 : decode cX5_push 23 = .ok (.invokestatic 118, 3) := by decide +kernel
theorem dX5_push_26 : decode cX5_push 26 = .ok (.ifCond .ne 53, 3) := by decide +kernel
theorem dX5_push_29 : decode cX5_push 29 = .ok (.aload_n 0, 1) := by decide +kernel
theorem dX5_push_30 : decode cX5_push 30 = .ok (.iload_n 1, 1) := by decide +kernel
theorem dX5_push_31 : decode cX5_push 31 = .ok (.iload 4, 2) := by decide +kernel
theorem dX5_push_33 : decode cX5_push 33 = .ok (.invokevirtual 183, 3) := by decide +kernel
theorem dX5_push_36 : decode cX5_push 36 = .ok (.aload_n 0, 1) := by decide +kernel
theorem dX5_push_37 : decode cX5_push 37 = .ok (.iload_n 1, 1) := by decide +kernel
theorem dX5_push_38 : decode cX5_push 38 = .ok (.iload 4, 2) := by decide +kernel
theorem dX5_push_40 : decode cX5_push 40 = .ok (.invokevirtual 155, 3) := by decide +kernel
theorem dX5_push_43 : decode cX5_push 43 = .ok (.aload_n 0, 1) := by decide +kernel
theorem dX5_push_44 : decode cX5_push 44 = .ok (.getfield 20, 3) := by decide +kernel
theorem dX5_push_47 : decode cX5_push 47 = .ok (.iload 4, 2) := by decide +kernel
theorem dX5_push_49 : decode cX5_push 49 = .ok (.iaload, 1) := by decide +kernel
theorem dX5_push_50 : decode cX5_push 50 = .ok (.iadd, 1) := by decide +kernel
theorem dX5_push_51 : decode cX5_push 51 = .ok (.if_icmp .lt 28, 3) := by decide +kernel
theorem dX5_push_54 : decode cX5_push 54 = .ok (.aload_n 0, 1) := by decide +kernel
theorem dX5_push_55 : decode cX5_push 55 = .ok (.iload_n 1, 1) := by decide +kernel
theorem dX5_push_56 : decode cX5_push 56 = .ok (.iload 4, 2) := by decide +kernel
theorem dX5_push_58 : decode cX5_push 58 = .ok (.aload_n 0, 1) := by decide +kernel
theorem dX5_push_59 : decode cX5_push 59 = .ok (.getfield 7, 3) := by decide +kernel
theorem dX5_push_62 : decode cX5_push 62 = .ok (.iload_n 1, 1) := by decide +kernel
theorem dX5_push_63 : decode cX5_push 63 = .ok (.iload 4, 2) := by decide +kernel
theorem dX5_push_65 : decode cX5_push 65 = .ok (.iadd, 1) := by decide +kernel
theorem dX5_push_66 : decode cX5_push 66 = .ok (.iaload, 1) := by decide +kernel
theorem dX5_push_67 : decode cX5_push 67 = .ok (.iconst 1, 1) := by decide +kernel
theorem dX5_push_68 : decode cX5_push 68 = .ok (.iadd, 1) := by decide +kernel
theorem dX5_push_69 : decode cX5_push 69 = .ok (.invokevirtual 186, 3) := by decide +kernel
theorem dX5_push_72 : decode cX5_push 72 = .ok (.ifCond .ne 7, 3) := by decide +kernel
theorem dX5_push_75 : decode cX5_push 75 = .ok (.iconst 1, 1) := by decide +kernel
theorem dX5_push_76 : decode cX5_push 76 = .ok (.goto 4, 3) := by decide +kernel
theorem dX5_push_79 : decode cX5_push 79 = .ok (.iconst 0, 1) := by decide +kernel
theorem dX5_push_80 : decode cX5_push 80 = .ok (.istore 5, 2) := by decide +kernel
theorem dX5_push_82 : decode cX5_push 82 = .ok (.aload_n 0, 1) := by decide +kernel
theorem dX5_push_83 : decode cX5_push 83 = .ok (.getfield 7, 3) := by decide +kernel
theorem dX5_push_86 : decode cX5_push 86 = .ok (.iload_n 1, 1) := by decide +kernel
theorem dX5_push_87 : decode cX5_push 87 = .ok (.iload 4, 2) := by decide +kernel
theorem dX5_push_89 : decode cX5_push 89 = .ok (.iadd, 1) := by decide +kernel
theorem dX5_push_90 : decode cX5_push 90 = .ok (.dup2, 1) := by decide +kernel
theorem dX5_push_91 : decode cX5_push 91 = .ok (.iaload, 1) := by decide +kernel
theorem dX5_push_92 : decode cX5_push 92 = .ok (.iload 5, 2) := by decide +kernel
theorem dX5_push_94 : decode cX5_push 94 = .ok (.invokestatic 161, 3) := by decide +kernel
theorem dX5_push_97 : decode cX5_push 97 = .ok (.iadd, 1) := by decide +kernel
theorem dX5_push_98 : decode cX5_push 98 = .ok (.iastore, 1) := by decide +kernel
theorem dX5_push_99 : decode cX5_push 99 = .ok (.iload_n 3, 1) := by decide +kernel
theorem dX5_push_100 : decode cX5_push 100 = .ok (.iload 5, 2) := by decide +kernel
theorem dX5_push_102 : decode cX5_push 102 = .ok (.invokestatic 161, 3) := by decide +kernel
theorem dX5_push_105 : decode cX5_push 105 = .ok (.iadd, 1) := by decide +kernel
theorem dX5_push_106 : decode cX5_push 106 = .ok (.istore_n 3, 1) := by decide +kernel
theorem dX5_push_107 : decode cX5_push 107 = .ok (.iinc 4 1, 3) := by decide +kernel
theorem dX5_push_110 : decode cX5_push 110 = .ok (.goto (-99), 3) := by decide +kernel
theorem dX5_push_113 : decode cX5_push 113 = .ok (.aload_n 0, 1) := by decide +kernel
theorem dX5_push_114 : decode cX5_push 114 = .ok (.iload_n 1, 1) := by decide +kernel
theorem dX5_push_115 : decode cX5_push 115 = .ok (.iload_n 2, 1) := by decide +kernel
theorem dX5_push_116 : decode cX5_push 116 = .ok (.invokevirtual 190, 3) := by decide +kernel
theorem dX5_push_119 : decode cX5_push 119 = .ok (.iload_n 3, 1) := by decide +kernel
theorem dX5_push_120 : decode cX5_push 120 = .ok (.ireturn, 1) := by decide +kernel
theorem dX5_dusk_0 : decode cX5_dusk 0 = .ok (.iconst 0, 1) := by decide +kernel
theorem dX5_dusk_1 : decode cX5_dusk 1 = .ok (.istore_n 3, 1) := by decide +kernel
theorem dX5_dusk_2 : decode cX5_dusk 2 = .ok (.iload_n 3, 1) := by decide +kernel
theorem dX5_dusk_3 : decode cX5_dusk 3 = .ok (.aload_n 0, 1) := by decide +kernel
theorem dX5_dusk_4 : decode cX5_dusk 4 = .ok (.getfield 131, 3) := by decide +kernel
theorem dX5_dusk_7 : decode cX5_dusk 7 = .ok (.if_icmp .ge 115, 3) := by decide +kernel
theorem dX5_dusk_10 : decode cX5_dusk 10 = .ok (.aload_n 0, 1) := by decide +kernel
theorem dX5_dusk_11 : decode cX5_dusk 11 = .ok (.iload_n 1, 1) := by decide +kernel
theorem dX5_dusk_12 : decode cX5_dusk 12 = .ok (.iload_n 3, 1) := by decide +kernel
theorem dX5_dusk_13 : decode cX5_dusk 13 = .ok (.invokevirtual 158, 3) := by decide +kernel
theorem dX5_dusk_16 : decode cX5_dusk 16 = .ok (.ifCond .ne 38, 3) := by decide +kernel
theorem dX5_dusk_19 : decode cX5_dusk 19 = .ok (.aload_n 0, 1) := by decide +kernel
theorem dX5_dusk_20 : decode cX5_dusk 20 = .ok (.getfield 7, 3) := by decide +kernel
theorem dX5_dusk_23 : decode cX5_dusk 23 = .ok (.iload_n 1, 1) := by decide +kernel
theorem dX5_dusk_24 : decode cX5_dusk 24 = .ok (.iload_n 3, 1) := by decide +kernel
theorem dX5_dusk_25 : decode cX5_dusk 25 = .ok (.iadd, 1) := by decide +kernel
theorem dX5_dusk_26 : decode cX5_dusk 26 = .ok (.iaload, 1) := by decide +kernel
theorem dX5_dusk_27 : decode cX5_dusk 27 = .ok (.ifCond .eq 27, 3) := by decide +kernel
theorem dX5_dusk_30 : decode cX5_dusk 30 = .ok (.aload_n 0, 1) := by decide +kernel
theorem dX5_dusk_31 : decode cX5_dusk 31 = .ok (.getfield 23, 3) := by decide +kernel
theorem dX5_dusk_34 : decode cX5_dusk 34 = .ok (.iload_n 3, 1) := by decide +kernel
theorem dX5_dusk_35 : decode cX5_dusk 35 = .ok (.iaload, 1) := by decide +kernel
theorem dX5_dusk_36 : decode cX5_dusk 36 = .ok (.aload_n 0, 1) := by decide +kernel
theorem dX5_dusk_37 : decode cX5_dusk 37 = .ok (.getfield 7, 3) := by decide +kernel
theorem dX5_dusk_40 : decode cX5_dusk 40 = .ok (.iload_n 1, 1) := by decide +kernel
theorem dX5_dusk_41 : decode cX5_dusk 41 = .ok (.iload_n 3, 1) := by decide +kernel
theorem dX5_dusk_42 : decode cX5_dusk 42 = .ok (.iadd, 1) := by decide +kernel
theorem dX5_dusk_43 : decode cX5_dusk 43 = .ok (.iaload, 1) := by decide +kernel
theorem dX5_dusk_44 : decode cX5_dusk 44 = .ok (.invokestatic 118, 3) := by decide +kernel
theorem dX5_dusk_47 : decode cX5_dusk 47 = .ok (.ifCond .eq 11, 3) := by decide +kernel
theorem dX5_dusk_50 : decode cX5_dusk 50 = .ok (.iload_n 2, 1) := by decide +kernel
theorem dX5_dusk_51 : decode cX5_dusk 51 = .ok (.ifCond .ne 7, 3) := by decide +kernel
theorem dX5_dusk_54 : decode cX5_dusk 54 = .ok (.iconst 1, 1) := by decide +kernel
theorem dX5_dusk_55 : decode cX5_dusk 55 = .ok (.goto 4, 3) := by decide +kernel
theorem dX5_dusk_58 : decode cX5_dusk 58 = .ok (.iconst 0, 1) := by decide +kernel
theorem dX5_dusk_59 : decode cX5_dusk 59 = .ok (.istore 4, 2) := by decide +kernel
theorem dX5_dusk_61 : decode cX5_dusk 61 = .ok (.aload_n 0, 1) := by decide +kernel
theorem dX5_dusk_62 : decode cX5_dusk 62 = .ok (.getfield 7, 3) := by decide +kernel
theorem dX5_dusk_65 : decode cX5_dusk 65 = .ok (.iload_n 1, 1) := by decide +kernel
theorem dX5_dusk_66 : decode cX5_dusk 66 = .ok (.iconst 4, 1) := by decide +kernel
theorem dX5_dusk_67 : decode cX5_dusk 67 = .ok (.iadd, 1) := by decide +kernel
theorem dX5_dusk_68 : decode cX5_dusk 68 = .ok (.iload_n 3, 1) := by decide +kernel
theorem dX5_dusk_69 : decode cX5_dusk 69 = .ok (.iadd, 1) := by decide +kernel
theorem dX5_dusk_70 : decode cX5_dusk 70 = .ok (.dup2, 1) := by decide +kernel
theorem dX5_dusk_71 : decode cX5_dusk 71 = .ok (.iaload, 1) := by decide +kernel
theorem dX5_dusk_72 : decode cX5_dusk 72 = .ok (.iload 4, 2) := by decide +kernel
theorem dX5_dusk_74 : decode cX5_dusk 74 = .ok (.ifCond .eq 7, 3) := by decide +kernel
theorem dX5_dusk_77 : decode cX5_dusk 77 = .ok (.iconst 0, 1) := by decide +kernel
theorem dX5_dusk_78 : decode cX5_dusk 78 = .ok (.goto 11, 3) := by decide +kernel
theorem dX5_dusk_81 : decode cX5_dusk 81 = .ok (.aload_n 0, 1) := by decide +kernel
theorem dX5_dusk_82 : decode cX5_dusk 82 = .ok (.getfield 7, 3) := by decide +kernel
theorem dX5_dusk_85 : decode cX5_dusk 85 = .ok (.iload_n 1, 1) := by decide +kernel
theorem dX5_dusk_86 : decode cX5_dusk 86 = .ok (.iload_n 3, 1) := by decide +kernel
theorem dX5_dusk_87 : decode cX5_dusk 87 = .ok (.iadd, 1) := by decide +kernel
theorem dX5_dusk_88 : decode cX5_dusk 88 = .ok (.iaload, 1) := by decide +kernel
theorem dX5_dusk_89 : decode cX5_dusk 89 = .ok (.iadd, 1) := by decide +kernel
theorem dX5_dusk_90 : decode cX5_dusk 90 = .ok (.iastore, 1) := by decide +kernel
theorem dX5_dusk_91 : decode cX5_dusk 91 = .ok (.aload_n 0, 1) := by decide +kernel
theorem dX5_dusk_92 : decode cX5_dusk 92 = .ok (.getfield 7, 3) := by decide +kernel
theorem dX5_dusk_95 : decode cX5_dusk 95 = .ok (.iload_n 1, 1) := by decide +kernel
theorem dX5_dusk_96 : decode cX5_dusk 96 = .ok (.iload_n 3, 1) := by decide +kernel
theorem dX5_dusk_97 : decode cX5_dusk 97 = .ok (.iadd, 1) := by decide +kernel
theorem dX5_dusk_98 : decode cX5_dusk 98 = .ok (.iload 4, 2) := by decide +kernel
theorem dX5_dusk_100 : decode cX5_dusk 100 = .ok (.ifCond .eq 14, 3) := by decide +kernel
theorem dX5_dusk_103 : decode cX5_dusk 103 = .ok (.aload_n 0, 1) := by decide +kernel
theorem dX5_dusk_104 : decode cX5_dusk 104 = .ok (.getfield 7, 3) := by decide +kernel
theorem dX5_dusk_107 : decode cX5_dusk 107 = .ok (.iload_n 1, 1) := by decide +kernel
theorem dX5_dusk_108 : decode cX5_dusk 108 = .ok (.iload_n 3, 1) := by decide +kernel
theorem dX5_dusk_109 : decode cX5_dusk 109 = .ok (.iadd, 1) := by decide +kernel
theorem dX5_dusk_110 : decode cX5_dusk 110 = .ok (.iaload, 1) := by decide +kernel
theorem dX5_dusk_111 : decode cX5_dusk 111 = .ok (.goto 4, 3) := by decide +kernel
theorem dX5_dusk_114 : decode cX5_dusk 114 = .ok (.iconst 0, 1) := by decide +kernel
theorem dX5_dusk_115 : decode cX5_dusk 115 = .ok (.iastore, 1) := by decide +kernel
theorem dX5_dusk_116 : decode cX5_dusk 116 = .ok (.iinc 3 1, 3) := by decide +kernel
theorem dX5_dusk_119 : decode cX5_dusk 119 = .ok (.goto (-117), 3) := by decide +kernel
theorem dX5_dusk_122 : decode cX5_dusk 122 = .ok (.iconst 0, 1) := by decide +kernel
theorem dX5_dusk_123 : decode cX5_dusk 123 = .ok (.istore_n 3, 1) := by decide +kernel
theorem dX5_dusk_124 : decode cX5_dusk 124 = .ok (.iload_n 3, 1) := by decide +kernel
theorem dX5_dusk_125 : decode cX5_dusk 125 = .ok (.aload_n 0, 1) := by decide +kernel
theorem dX5_dusk_126 : decode cX5_dusk 126 = .ok (.getfield 137, 3) := by decide +kernel
theorem dX5_dusk_129 : decode cX5_dusk 129 = .ok (.if_icmp .ge 26, 3) := by decide +kernel
theorem dX5_dusk_132 : decode cX5_dusk 132 = .ok (.aload_n 0, 1) := by decide +kernel
theorem dX5_dusk_133 : decode cX5_dusk 133 = .ok (.getfield 7, 3) := by decide +kernel
theorem dX5_dusk_136 : decode cX5_dusk 136 = .ok (.iload_n 1, 1) := by decide +kernel
theorem dX5_dusk_137 : decode cX5_dusk 137 = .ok (.bipush 8, 2) := by decide +kernel
theorem dX5_dusk_139 : decode cX5_dusk 139 = .ok (.iadd, 1) := by decide +kernel
theorem dX5_dusk_140 : decode cX5_dusk 140 = .ok (.iload_n 3, 1) := by decide +kernel
theorem dX5_dusk_141 : decode cX5_dusk 141 = .ok (.iadd, 1) := by decide +kernel
theorem dX5_dusk_142 : decode cX5_dusk 142 = .ok (.aload_n 0, 1) := by decide +kernel
theorem dX5_dusk_143 : decode cX5_dusk 143 = .ok (.getfield 38, 3) := by decide +kernel
theorem dX5_dusk_146 : decode cX5_dusk 146 = .ok (.iload_n 3, 1) := by decide +kernel
theorem dX5_dusk_147 : decode cX5_dusk 147 = .ok (.iaload, 1) := by decide +kernel
theorem dX5_dusk_148 : decode cX5_dusk 148 = .ok (.iastore, 1) := by decide +kernel
theorem dX5_dusk_149 : decode cX5_dusk 149 = .ok (.iinc 3 1, 3) := by decide +kernel
theorem dX5_dusk_152 : decode cX5_dusk 152 = .ok (.goto (-28), 3) := by decide +kernel
theorem dX5_dusk_155 : decode cX5_dusk 155 = .ok (.bipush 19, 2) := by decide +kernel
theorem dX5_dusk_157 : decode cX5_dusk 157 = .ok (.istore_n 3, 1) := by decide +kernel
theorem dX5_dusk_158 : decode cX5_dusk 158 = .ok (.iload_n 3, 1) := by decide +kernel
theorem dX5_dusk_159 : decode cX5_dusk 159 = .ok (.ifCond .le 58, 3) := by decide +kernel
theorem dX5_dusk_162 : decode cX5_dusk 162 = .ok (.iconst 0, 1) := by decide +kernel
theorem dX5_dusk_163 : decode cX5_dusk 163 = .ok (.istore 4, 2) := by decide +kernel
theorem dX5_dusk_165 : decode cX5_dusk 165 = .ok (.iload 4, 2) := by decide +kernel
theorem dX5_dusk_167 : decode cX5_dusk 167 = .ok (.iconst 4, 1) := by decide +kernel
theorem dX5_dusk_168 : decode cX5_dusk 168 = .ok (.if_icmp .ge 43, 3) := by decide +kernel
theorem dX5_dusk_171 : decode cX5_dusk 171 = .ok (.aload_n 0, 1) := by decide +kernel
theorem dX5_dusk_172 : decode cX5_dusk 172 = .ok (.getfield 7, 3) := by decide +kernel
theorem dX5_dusk_175 : decode cX5_dusk 175 = .ok (.iload_n 1, 1) := by decide +kernel
theorem dX5_dusk_176 : decode cX5_dusk 176 = .ok (.bipush 20, 2) := by decide +kernel
theorem dX5_dusk_178 : decode cX5_dusk 178 = .ok (.iadd, 1) := by decide +kernel
theorem dX5_dusk_179 : decode cX5_dusk 179 = .ok (.iconst 4, 1) := by decide +kernel
theorem dX5_dusk_180 : decode cX5_dusk 180 = .ok (.iload_n 3, 1) := by decide +kernel
theorem dX5_dusk_181 : decode cX5_dusk 181 = .ok (.imul, 1) := by decide +kernel
theorem dX5_dusk_182 : decode cX5_dusk 182 = .ok (.iadd, 1) := by decide +kernel
theorem dX5_dusk_183 : decode cX5_dusk 183 = .ok (.iload 4, 2) := by decide +kernel
theorem dX5_dusk_185 : decode cX5_dusk 185 = .ok (.iadd, 1) := by decide +kernel
theorem dX5_dusk_186 : decode cX5_dusk 186 = .ok (.aload_n 0, 1) := by decide +kernel
theorem dX5_dusk_187 : decode cX5_dusk 187 = .ok (.getfield 7, 3) := by decide +kernel
theorem dX5_dusk_190 : decode cX5_dusk 190 = .ok (.iload_n 1, 1) := by decide +kernel
theorem dX5_dusk_191 : decode cX5_dusk 191 = .ok (.bipush 20, 2) := by decide +kernel
theorem dX5_dusk_193 : decode cX5_dusk 193 = .ok (.iadd, 1) := by decide +kernel
theorem dX5_dusk_194 : decode cX5_dusk 194 = .ok (.iconst 4, 1) := by decide +kernel
theorem dX5_dusk_195 : decode cX5_dusk 195 = .ok (.iload_n 3, 1) := by decide +kernel
theorem dX5_dusk_196 : decode cX5_dusk 196 = .ok (.iconst 1, 1) := by decide +kernel
theorem dX5_dusk_197 : decode cX5_dusk 197 = .ok (.isub, 1) := by decide +kernel
theorem dX5_dusk_198 : decode cX5_dusk 198 = .ok (.imul, 1) := by decide +kernel
theorem dX5_dusk_199 : decode cX5_dusk 199 = .ok (.iadd, 1) := by decide +kernel
theorem dX5_dusk_200 : decode cX5_dusk 200 = .ok (.iload 4, 2) := by decide +kernel
theorem dX5_dusk_202 : decode cX5_dusk 202 = .ok (.iadd, 1) := by decide +kernel
theorem dX5_dusk_203 : decode cX5_dusk 203 = .ok (.iaload, 1) := by decide +kernel
theorem dX5_dusk_204 : decode cX5_dusk 204 = .ok (.iastore, 1) := by decide +kernel
theorem dX5_dusk_205 : decode cX5_dusk 205 = .ok (.iinc 4 1, 3) := by decide +kernel
theorem dX5_dusk_208 : decode cX5_dusk 208 = .ok (.goto (-43), 3) := by decide +kernel
theorem dX5_dusk_211 : decode cX5_dusk 211 = .ok (.iinc 3 (-1), 3) := by decide +kernel
theorem dX5_dusk_214 : decode cX5_dusk 214 = .ok (.goto (-56), 3) := by decide +kernel
theorem dX5_dusk_217 : decode cX5_dusk 217 = .ok (.iconst 0, 1) := by decide +kernel
theorem dX5_dusk_218 : decode cX5_dusk 218 = .ok (.istore_n 3, 1) := by decide +kernel
theorem dX5_dusk_219 : decode cX5_dusk 219 = .ok (.iload_n 3, 1) := by decide +kernel
theorem dX5_dusk_220 : decode cX5_dusk 220 = .ok (.iconst 4, 1) := by decide +kernel
theorem dX5_dusk_221 : decode cX5_dusk 221 = .ok (.if_icmp .ge 28, 3) := by decide +kernel
theorem dX5_dusk_224 : decode cX5_dusk 224 = .ok (.aload_n 0, 1) := by decide +kernel
theorem dX5_dusk_225 : decode cX5_dusk 225 = .ok (.getfield 7, 3) := by decide +kernel
theorem dX5_dusk_228 : decode cX5_dusk 228 = .ok (.iload_n 1, 1) := by decide +kernel
theorem dX5_dusk_229 : decode cX5_dusk 229 = .ok (.bipush 20, 2) := by decide +kernel
theorem dX5_dusk_231 : decode cX5_dusk 231 = .ok (.iadd, 1) := by decide +kernel
theorem dX5_dusk_232 : decode cX5_dusk 232 = .ok (.iload_n 3, 1) := by decide +kernel
theorem dX5_dusk_233 : decode cX5_dusk 233 = .ok (.iadd, 1) := by decide +kernel
theorem dX5_dusk_234 : decode cX5_dusk 234 = .ok (.aload_n 0, 1) := by decide +kernel
theorem dX5_dusk_235 : decode cX5_dusk 235 = .ok (.getfield 7, 3) := by decide +kernel
theorem dX5_dusk_238 : decode cX5_dusk 238 = .ok (.iload_n 1, 1) := by decide +kernel
theorem dX5_dusk_239 : decode cX5_dusk 239 = .ok (.iload_n 3, 1) := by decide +kernel
theorem dX5_dusk_240 : decode cX5_dusk 240 = .ok (.iadd, 1) := by decide +kernel
theorem dX5_dusk_241 : decode cX5_dusk 241 = .ok (.iaload, 1) := by decide +kernel
theorem dX5_dusk_242 : decode cX5_dusk 242 = .ok (.iastore, 1) := by decide +kernel
theorem dX5_dusk_243 : decode cX5_dusk 243 = .ok (.iinc 3 1, 3) := by decide +kernel
theorem dX5_dusk_246 : decode cX5_dusk 246 = .ok (.goto (-27), 3) := by decide +kernel
theorem dX5_dusk_249 : decode cX5_dusk 249 = .ok (.aload_n 0, 1) := by decide +kernel
theorem dX5_dusk_250 : decode cX5_dusk 250 = .ok (.getfield 7, 3) := by decide +kernel
theorem dX5_dusk_253 : decode cX5_dusk 253 = .ok (.iload_n 1, 1) := by decide +kernel
theorem dX5_dusk_254 : decode cX5_dusk 254 = .ok (.bipush 16, 2) := by decide +kernel
theorem dX5_dusk_256 : decode cX5_dusk 256 = .ok (.iadd, 1) := by decide +kernel
theorem dX5_dusk_257 : decode cX5_dusk 257 = .ok (.dup2, 1) := by decide +kernel
theorem dX5_dusk_258 : decode cX5_dusk 258 = .ok (.iaload, 1) := by decide +kernel
theorem dX5_dusk_259 : decode cX5_dusk 259 = .ok (.aload_n 0, 1) := by decide +kernel
theorem dX5_dusk_260 : decode cX5_dusk 260 = .ok (.getfield 7, 3) := by decide +kernel
theorem dX5_dusk_263 : decode cX5_dusk 263 = .ok (.iload_n 1, 1) := by decide +kernel
theorem dX5_dusk_264 : decode cX5_dusk 264 = .ok (.bipush 16, 2) := by decide +kernel
theorem dX5_dusk_266 : decode cX5_dusk 266 = .ok (.iadd, 1) := by decide +kernel
theorem dX5_dusk_267 : decode cX5_dusk 267 = .ok (.iaload, 1) := by decide +kernel
theorem dX5_dusk_268 : decode cX5_dusk 268 = .ok (.bipush 20, 2) := by decide +kernel
theorem dX5_dusk_270 : decode cX5_dusk 270 = .ok (.if_icmp .ge 7, 3) := by decide +kernel
theorem dX5_dusk_273 : decode cX5_dusk 273 = .ok (.iconst 1, 1) := by decide +kernel
theorem dX5_dusk_274 : decode cX5_dusk 274 = .ok (.goto 4, 3) := by decide +kernel
theorem dX5_dusk_277 : decode cX5_dusk 277 = .ok (.iconst 0, 1) := by decide +kernel
theorem dX5_dusk_278 : decode cX5_dusk 278 = .ok (.iadd, 1) := by decide +kernel
theorem dX5_dusk_279 : decode cX5_dusk 279 = .ok (.iastore, 1) := by decide +kernel
theorem dX5_dusk_280 : decode cX5_dusk 280 = .ok (.aload_n 0, 1) := by decide +kernel
theorem dX5_dusk_281 : decode cX5_dusk 281 = .ok (.getfield 7, 3) := by decide +kernel
theorem dX5_dusk_284 : decode cX5_dusk 284 = .ok (.iload_n 1, 1) := by decide +kernel
theorem dX5_dusk_285 : decode cX5_dusk 285 = .ok (.bipush 14, 2) := by decide +kernel
theorem dX5_dusk_287 : decode cX5_dusk 287 = .ok (.iadd, 1) := by decide +kernel
theorem dX5_dusk_288 : decode cX5_dusk 288 = .ok (.dup2, 1) := by decide +kernel
theorem dX5_dusk_289 : decode cX5_dusk 289 = .ok (.iaload, 1) := by decide +kernel
theorem dX5_dusk_290 : decode cX5_dusk 290 = .ok (.iconst 1, 1) := by decide +kernel
theorem dX5_dusk_291 : decode cX5_dusk 291 = .ok (.iadd, 1) := by decide +kernel
theorem dX5_dusk_292 : decode cX5_dusk 292 = .ok (.iastore, 1) := by decide +kernel
theorem dX5_dusk_293 : decode cX5_dusk 293 = .ok (.aload_n 0, 1) := by decide +kernel
theorem dX5_dusk_294 : decode cX5_dusk 294 = .ok (.getfield 7, 3) := by decide +kernel
theorem dX5_dusk_297 : decode cX5_dusk 297 = .ok (.iload_n 1, 1) := by decide +kernel
theorem dX5_dusk_298 : decode cX5_dusk 298 = .ok (.bipush 15, 2) := by decide +kernel
theorem dX5_dusk_300 : decode cX5_dusk 300 = .ok (.iadd, 1) := by decide +kernel
theorem dX5_dusk_301 : decode cX5_dusk 301 = .ok (.iconst 0, 1) := by decide +kernel
theorem dX5_dusk_302 : decode cX5_dusk 302 = .ok (.iastore, 1) := by decide +kernel
theorem dX5_dusk_303 : decode cX5_dusk 303 = .ok (.return_, 1) := by decide +kernel
theorem dX5_rainsOn_0 : decode cX5_rainsOn 0 = .ok (.aload_n 0, 1) := by decide +kernel
theorem dX5_rainsOn_1 : decode cX5_rainsOn 1 = .ok (.getfield 140, 3) := by decide +kernel
theorem dX5_rainsOn_4 : decode cX5_rainsOn 4 = .ok (.iload_n 1, 1) := by decide +kernel
theorem dX5_rainsOn_5 : decode cX5_rainsOn 5 = .ok (.bipush 7, 2) := by decide +kernel
theorem dX5_rainsOn_7 : decode cX5_rainsOn 7 = .ok (.irem, 1) := by decide +kernel
theorem dX5_rainsOn_8 : decode cX5_rainsOn 8 = .ok (.invokestatic 118, 3) := by decide +kernel
theorem dX5_rainsOn_11 : decode cX5_rainsOn 11 = .ok (.ireturn, 1) := by decide +kernel
theorem dX5_hour_0 : decode cX5_hour 0 = .ok (.aload_n 0, 1) := by decide +kernel
theorem dX5_hour_1 : decode cX5_hour 1 = .ok (.getfield 7, 3) := by decide +kernel
theorem dX5_hour_4 : decode cX5_hour 4 = .ok (.bipush 14, 2) := by decide +kernel
theorem dX5_hour_6 : decode cX5_hour 6 = .ok (.iaload, 1) := by decide +kernel
theorem dX5_hour_7 : decode cX5_hour 7 = .ok (.bipush 99, 2) := by decide +kernel
theorem dX5_hour_9 : decode cX5_hour 9 = .ok (.if_icmp .ne 6, 3) := by decide +kernel
theorem dX5_hour_12 : decode cX5_hour 12 = .ok (.bipush (-2), 2) := by decide +kernel
theorem dX5_hour_14 : decode cX5_hour 14 = .ok (.ireturn, 1) := by decide +kernel
theorem dX5_hour_15 : decode cX5_hour 15 = .ok (.aload_n 0, 1) := by decide +kernel
theorem dX5_hour_16 : decode cX5_hour 16 = .ok (.invokevirtual 176, 3) := by decide +kernel
theorem dX5_hour_19 : decode cX5_hour 19 = .ok (.aload_n 0, 1) := by decide +kernel
theorem dX5_hour_20 : decode cX5_hour 20 = .ok (.iconst 0, 1) := by decide +kernel
theorem dX5_hour_21 : decode cX5_hour 21 = .ok (.invokevirtual 193, 3) := by decide +kernel
theorem dX5_hour_24 : decode cX5_hour 24 = .ok (.istore_n 1, 1) := by decide +kernel
theorem dX5_hour_25 : decode cX5_hour 25 = .ok (.aload_n 0, 1) := by decide +kernel
theorem dX5_hour_26 : decode cX5_hour 26 = .ok (.getfield 7, 3) := by decide +kernel
theorem dX5_hour_29 : decode cX5_hour 29 = .ok (.bipush 15, 2) := by decide +kernel
theorem dX5_hour_31 : decode cX5_hour 31 = .ok (.dup2, 1) := by decide +kernel
theorem dX5_hour_32 : decode cX5_hour 32 = .ok (.iaload, 1) := by decide +kernel
theorem dX5_hour_33 : decode cX5_hour 33 = .ok (.iconst 1, 1) := by decide +kernel
theorem dX5_hour_34 : decode cX5_hour 34 = .ok (.iadd, 1) := by decide +kernel
theorem dX5_hour_35 : decode cX5_hour 35 = .ok (.iastore, 1) := by decide +kernel
theorem dX5_hour_36 : decode cX5_hour 36 = .ok (.aload_n 0, 1) := by decide +kernel
theorem dX5_hour_37 : decode cX5_hour 37 = .ok (.getfield 7, 3) := by decide +kernel
theorem dX5_hour_40 : decode cX5_hour 40 = .ok (.bipush 15, 2) := by decide +kernel
theorem dX5_hour_42 : decode cX5_hour 42 = .ok (.iaload, 1) := by decide +kernel
theorem dX5_hour_43 : decode cX5_hour 43 = .ok (.aload_n 0, 1) := by decide +kernel
theorem dX5_hour_44 : decode cX5_hour 44 = .ok (.getfield 50, 3) := by decide +kernel
theorem dX5_hour_47 : decode cX5_hour 47 = .ok (.if_icmp .ne 19, 3) := by decide +kernel
theorem dX5_hour_50 : decode cX5_hour 50 = .ok (.aload_n 0, 1) := by decide +kernel
theorem dX5_hour_51 : decode cX5_hour 51 = .ok (.iconst 0, 1) := by decide +kernel
theorem dX5_hour_52 : decode cX5_hour 52 = .ok (.aload_n 0, 1) := by decide +kernel
theorem dX5_hour_53 : decode cX5_hour 53 = .ok (.aload_n 0, 1) := by decide +kernel
theorem dX5_hour_54 : decode cX5_hour 54 = .ok (.getfield 7, 3) := by decide +kernel
theorem dX5_hour_57 : decode cX5_hour 57 = .ok (.bipush 14, 2) := by decide +kernel
theorem dX5_hour_59 : decode cX5_hour 59 = .ok (.iaload, 1) := by decide +kernel
theorem dX5_hour_60 : decode cX5_hour 60 = .ok (.invokevirtual 196, 3) := by decide +kernel
theorem dX5_hour_63 : decode cX5_hour 63 = .ok (.invokevirtual 199, 3) := by decide +kernel
theorem dX5_hour_66 : decode cX5_hour 66 = .ok (.iload_n 1, 1) := by decide +kernel
theorem dX5_hour_67 : decode cX5_hour 67 = .ok (.ireturn, 1) := by decide +kernel
theorem dX5_undo_0 : decode cX5_undo 0 = .ok (.aload_n 0, 1) := by decide +kernel
theorem dX5_undo_1 : decode cX5_undo 1 = .ok (.getfield 146, 3) := by decide +kernel
theorem dX5_undo_4 : decode cX5_undo 4 = .ok (.ifCond .ne 6, 3) := by decide +kernel
theorem dX5_undo_7 : decode cX5_undo 7 = .ok (.bipush (-2), 2) := by decide +kernel
theorem dX5_undo_9 : decode cX5_undo 9 = .ok (.ireturn, 1) := by decide +kernel
theorem dX5_undo_10 : decode cX5_undo 10 = .ok (.aload_n 0, 1) := by decide +kernel
theorem dX5_undo_11 : decode cX5_undo 11 = .ok (.dup, 1) := by decide +kernel
theorem dX5_undo_12 : decode cX5_undo 12 = .ok (.getfield 146, 3) := by decide +kernel
theorem dX5_undo_15 : decode cX5_undo 15 = .ok (.iconst 1, 1) := by decide +kernel
theorem dX5_undo_16 : decode cX5_undo 16 = .ok (.isub, 1) := by decide +kernel
theorem dX5_undo_17 : decode cX5_undo 17 = .ok (.putfield 146, 3) := by decide +kernel
theorem dX5_undo_20 : decode cX5_undo 20 = .ok (.aload_n 0, 1) := by decide +kernel
theorem dX5_undo_21 : decode cX5_undo 21 = .ok (.sipush 400, 3) := by decide +kernel
theorem dX5_undo_24 : decode cX5_undo 24 = .ok (.bipush 100, 2) := by decide +kernel
theorem dX5_undo_26 : decode cX5_undo 26 = .ok (.aload_n 0, 1) := by decide +kernel
theorem dX5_undo_27 : decode cX5_undo 27 = .ok (.getfield 146, 3) := by decide +kernel
theorem dX5_undo_30 : decode cX5_undo 30 = .ok (.imul, 1) := by decide +kernel
theorem dX5_undo_31 : decode cX5_undo 31 = .ok (.iadd, 1) := by decide +kernel
theorem dX5_undo_32 : decode cX5_undo 32 = .ok (.iconst 0, 1) := by decide +kernel
theorem dX5_undo_33 : decode cX5_undo 33 = .ok (.invokevirtual 172, 3) := by decide +kernel
theorem dX5_undo_36 : decode cX5_undo 36 = .ok (.aload_n 0, 1) := by decide +kernel
theorem dX5_undo_37 : decode cX5_undo 37 = .ok (.getfield 146, 3) := by decide +kernel
theorem dX5_undo_40 : decode cX5_undo 40 = .ok (.ireturn, 1) := by decide +kernel
theorem dX5_orderAll_0 : decode cX5_orderAll 0 = .ok (.iconst 0, 1) := by decide +kernel
theorem dX5_orderAll_1 : decode cX5_orderAll 1 = .ok (.istore 4, 2) := by decide +kernel
theorem dX5_orderAll_3 : decode cX5_orderAll 3 = .ok (.iload 4, 2) := by decide +kernel
theorem dX5_orderAll_5 : decode cX5_orderAll 5 = .ok (.aload_n 0, 1) := by decide +kernel
theorem dX5_orderAll_6 : decode cX5_orderAll 6 = .ok (.getfield 137, 3) := by decide +kernel
theorem dX5_orderAll_9 : decode cX5_orderAll 9 = .ok (.if_icmp .ge 36, 3) := by decide +kernel
theorem dX5_orderAll_12 : decode cX5_orderAll 12 = .ok (.aload_n 0, 1) := by decide +kernel
theorem dX5_orderAll_13 : decode cX5_orderAll 13 = .ok (.getfield 7, 3) := by decide +kernel
theorem dX5_orderAll_16 : decode cX5_orderAll 16 = .ok (.iload_n 1, 1) := by decide +kernel
theorem dX5_orderAll_17 : decode cX5_orderAll 17 = .ok (.bipush 11, 2) := by decide +kernel
theorem dX5_orderAll_19 : decode cX5_orderAll 19 = .ok (.iadd, 1) := by decide +kernel
theorem dX5_orderAll_20 : decode cX5_orderAll 20 = .ok (.iload 4, 2) := by decide +kernel
theorem dX5_orderAll_22 : decode cX5_orderAll 22 = .ok (.iadd, 1) := by decide +kernel
theorem dX5_orderAll_23 : decode cX5_orderAll 23 = .ok (.iload_n 3, 1) := by decide +kernel
theorem dX5_orderAll_24 : decode cX5_orderAll 24 = .ok (.iload 4, 2) := by decide +kernel
theorem dX5_orderAll_26 : decode cX5_orderAll 26 = .ok (.invokestatic 118, 3) := by decide +kernel
theorem dX5_orderAll_29 : decode cX5_orderAll 29 = .ok (.ifCond .eq 7, 3) := by decide +kernel
theorem dX5_orderAll_32 : decode cX5_orderAll 32 = .ok (.iload_n 2, 1) := by decide +kernel
theorem dX5_orderAll_33 : decode cX5_orderAll 33 = .ok (.goto 5, 3) := by decide +kernel
theorem dX5_orderAll_36 : decode cX5_orderAll 36 = .ok (.bipush (-9), 2) := by decide +kernel
theorem dX5_orderAll_38 : decode cX5_orderAll 38 = .ok (.iastore, 1) := by decide +kernel
theorem dX5_orderAll_39 : decode cX5_orderAll 39 = .ok (.iinc 4 1, 3) := by decide +kernel
theorem dX5_orderAll_42 : decode cX5_orderAll 42 = .ok (.goto (-39), 3) := by decide +kernel
theorem dX5_orderAll_45 : decode cX5_orderAll 45 = .ok (.return_, 1) := by decide +kernel
theorem dX5_stepBy_0 : decode cX5_stepBy 0 = .ok (.aload_n 0, 1) := by decide +kernel
theorem dX5_stepBy_1 : decode cX5_stepBy 1 = .ok (.iconst 0, 1) := by decide +kernel
theorem dX5_stepBy_2 : decode cX5_stepBy 2 = .ok (.bipush 100, 2) := by decide +kernel
theorem dX5_stepBy_4 : decode cX5_stepBy 4 = .ok (.invokevirtual 172, 3) := by decide +kernel
theorem dX5_stepBy_7 : decode cX5_stepBy 7 = .ok (.iconst 0, 1) := by decide +kernel
theorem dX5_stepBy_8 : decode cX5_stepBy 8 = .ok (.istore 4, 2) := by decide +kernel
theorem dX5_stepBy_10 : decode cX5_stepBy 10 = .ok (.iload 4, 2) := by decide +kernel
theorem dX5_stepBy_12 : decode cX5_stepBy 12 = .ok (.iload_n 3, 1) := by decide +kernel
theorem dX5_stepBy_13 : decode cX5_stepBy 13 = .ok (.if_icmp .ge 130, 3) := by decide +kernel
theorem dX5_stepBy_16 : decode cX5_stepBy 16 = .ok (.aload_n 0, 1) := by decide +kernel
theorem dX5_stepBy_17 : decode cX5_stepBy 17 = .ok (.bipush 100, 2) := by decide +kernel
theorem dX5_stepBy_19 : decode cX5_stepBy 19 = .ok (.iload_n 1, 1) := by decide +kernel
theorem dX5_stepBy_20 : decode cX5_stepBy 20 = .ok (.iload_n 2, 1) := by decide +kernel
theorem dX5_stepBy_21 : decode cX5_stepBy 21 = .ok (.iconst 3, 1) := by decide +kernel
theorem dX5_stepBy_22 : decode cX5_stepBy 22 = .ok (.iload_n 3, 1) := by decide +kernel
theorem dX5_stepBy_23 : decode cX5_stepBy 23 = .ok (.iconst 1, 1) := by decide +kernel
theorem dX5_stepBy_24 : decode cX5_stepBy 24 = .ok (.isub, 1) := by decide +kernel
theorem dX5_stepBy_25 : decode cX5_stepBy 25 = .ok (.iload 4, 2) := by decide +kernel
theorem dX5_stepBy_27 : decode cX5_stepBy 27 = .ok (.isub, 1) := by decide +kernel
theorem dX5_stepBy_28 : decode cX5_stepBy 28 = .ok (.imul, 1) := by decide +kernel
theorem dX5_stepBy_29 : decode cX5_stepBy 29 = .ok (.ishr, 1) := by decide +kernel
theorem dX5_stepBy_30 : decode cX5_stepBy 30 = .ok (.bipush 7, 2) := by decide +kernel
theorem dX5_stepBy_32 : decode cX5_stepBy 32 = .ok (.iand, 1) := by decide +kernel
theorem dX5_stepBy_33 : decode cX5_stepBy 33 = .ok (.invokevirtual 203, 3) := by decide +kernel
theorem dX5_stepBy_36 : decode cX5_stepBy 36 = .ok (.aload_n 0, 1) := by decide +kernel
theorem dX5_stepBy_37 : decode cX5_stepBy 37 = .ok (.bipush 100, 2) := by decide +kernel
theorem dX5_stepBy_39 : decode cX5_stepBy 39 = .ok (.iload_n 1, 1) := by decide +kernel
theorem dX5_stepBy_40 : decode cX5_stepBy 40 = .ok (.invokevirtual 158, 3) := by decide +kernel
theorem dX5_stepBy_43 : decode cX5_stepBy 43 = .ok (.istore 5, 2) := by decide +kernel
theorem dX5_stepBy_45 : decode cX5_stepBy 45 = .ok (.iload 5, 2) := by decide +kernel
theorem dX5_stepBy_47 : decode cX5_stepBy 47 = .ok (.ifCond .ne 52, 3) := by decide +kernel
theorem dX5_stepBy_50 : decode cX5_stepBy 50 = .ok (.aload_n 0, 1) := by decide +kernel
theorem dX5_stepBy_51 : decode cX5_stepBy 51 = .ok (.bipush 100, 2) := by decide +kernel
theorem dX5_stepBy_53 : decode cX5_stepBy 53 = .ok (.iload_n 1, 1) := by decide +kernel
theorem dX5_stepBy_54 : decode cX5_stepBy 54 = .ok (.invokevirtual 183, 3) := by decide +kernel
theorem dX5_stepBy_57 : decode cX5_stepBy 57 = .ok (.aload_n 0, 1) := by decide +kernel
theorem dX5_stepBy_58 : decode cX5_stepBy 58 = .ok (.bipush 100, 2) := by decide +kernel
theorem dX5_stepBy_60 : decode cX5_stepBy 60 = .ok (.iload_n 1, 1) := by decide +kernel
theorem dX5_stepBy_61 : decode cX5_stepBy 61 = .ok (.invokevirtual 155, 3) := by decide +kernel
theorem dX5_stepBy_64 : decode cX5_stepBy 64 = .ok (.aload_n 0, 1) := by decide +kernel
theorem dX5_stepBy_65 : decode cX5_stepBy 65 = .ok (.getfield 20, 3) := by decide +kernel
theorem dX5_stepBy_68 : decode cX5_stepBy 68 = .ok (.iload_n 1, 1) := by decide +kernel
theorem dX5_stepBy_69 : decode cX5_stepBy 69 = .ok (.iaload, 1) := by decide +kernel
theorem dX5_stepBy_70 : decode cX5_stepBy 70 = .ok (.iadd, 1) := by decide +kernel
theorem dX5_stepBy_71 : decode cX5_stepBy 71 = .ok (.if_icmp .lt 28, 3) := by decide +kernel
theorem dX5_stepBy_74 : decode cX5_stepBy 74 = .ok (.aload_n 0, 1) := by decide +kernel
theorem dX5_stepBy_75 : decode cX5_stepBy 75 = .ok (.bipush 100, 2) := by decide +kernel
theorem dX5_stepBy_77 : decode cX5_stepBy 77 = .ok (.iload_n 1, 1) := by decide +kernel
theorem dX5_stepBy_78 : decode cX5_stepBy 78 = .ok (.aload_n 0, 1) := by decide +kernel
theorem dX5_stepBy_79 : decode cX5_stepBy 79 = .ok (.getfield 7, 3) := by decide +kernel
theorem dX5_stepBy_82 : decode cX5_stepBy 82 = .ok (.bipush 100, 2) := by decide +kernel
theorem dX5_stepBy_84 : decode cX5_stepBy 84 = .ok (.iload_n 1, 1) := by decide +kernel
theorem dX5_stepBy_85 : decode cX5_stepBy 85 = .ok (.iadd, 1) := by decide +kernel
theorem dX5_stepBy_86 : decode cX5_stepBy 86 = .ok (.iaload, 1) := by decide +kernel
theorem dX5_stepBy_87 : decode cX5_stepBy 87 = .ok (.iconst 1, 1) := by decide +kernel
theorem dX5_stepBy_88 : decode cX5_stepBy 88 = .ok (.iadd, 1) := by decide +kernel
theorem dX5_stepBy_89 : decode cX5_stepBy 89 = .ok (.invokevirtual 186, 3) := by decide +kernel
theorem dX5_stepBy_92 : decode cX5_stepBy 92 = .ok (.ifCond .ne 7, 3) := by decide +kernel
theorem dX5_stepBy_95 : decode cX5_stepBy 95 = .ok (.iconst 1, 1) := by decide +kernel
theorem dX5_stepBy_96 : decode cX5_stepBy 96 = .ok (.goto 4, 3) := by decide +kernel
theorem dX5_stepBy_99 : decode cX5_stepBy 99 = .ok (.iconst 0, 1) := by decide +kernel
theorem dX5_stepBy_100 : decode cX5_stepBy 100 = .ok (.istore 6, 2) := by decide +kernel
theorem dX5_stepBy_102 : decode cX5_stepBy 102 = .ok (.aload_n 0, 1) := by decide +kernel
theorem dX5_stepBy_103 : decode cX5_stepBy 103 = .ok (.getfield 7, 3) := by decide +kernel
theorem dX5_stepBy_106 : decode cX5_stepBy 106 = .ok (.bipush 100, 2) := by decide +kernel
theorem dX5_stepBy_108 : decode cX5_stepBy 108 = .ok (.iload_n 1, 1) := by decide +kernel
theorem dX5_stepBy_109 : decode cX5_stepBy 109 = .ok (.iadd, 1) := by decide +kernel
theorem dX5_stepBy_110 : decode cX5_stepBy 110 = .ok (.dup2, 1) := by decide +kernel
theorem dX5_stepBy_111 : decode cX5_stepBy 111 = .ok (.iaload, 1) := by decide +kernel
theorem dX5_stepBy_112 : decode cX5_stepBy 112 = .ok (.iload 6, 2) := by decide +kernel
theorem dX5_stepBy_114 : decode cX5_stepBy 114 = .ok (.invokestatic 161, 3) := by decide +kernel
theorem dX5_stepBy_117 : decode cX5_stepBy 117 = .ok (.iadd, 1) := by decide +kernel
theorem dX5_stepBy_118 : decode cX5_stepBy 118 = .ok (.iastore, 1) := by decide +kernel
theorem dX5_stepBy_119 : decode cX5_stepBy 119 = .ok (.aload_n 0, 1) := by decide +kernel
theorem dX5_stepBy_120 : decode cX5_stepBy 120 = .ok (.bipush 100, 2) := by decide +kernel
theorem dX5_stepBy_122 : decode cX5_stepBy 122 = .ok (.iload 5, 2) := by decide +kernel
theorem dX5_stepBy_124 : decode cX5_stepBy 124 = .ok (.ifCond .eq 9, 3) := by decide +kernel
theorem dX5_stepBy_127 : decode cX5_stepBy 127 = .ok (.iconst 1, 1) := by decide +kernel
theorem dX5_stepBy_128 : decode cX5_stepBy 128 = .ok (.iload_n 1, 1) := by decide +kernel
theorem dX5_stepBy_129 : decode cX5_stepBy 129 = .ok (.ishl, 1) := by decide +kernel
theorem dX5_stepBy_130 : decode cX5_stepBy 130 = .ok (.goto 4, 3) := by decide +kernel
theorem dX5_stepBy_133 : decode cX5_stepBy 133 = .ok (.iconst 0, 1) := by decide +kernel
theorem dX5_stepBy_134 : decode cX5_stepBy 134 = .ok (.invokevirtual 190, 3) := by decide +kernel
theorem dX5_stepBy_137 : decode cX5_stepBy 137 = .ok (.iinc 4 1, 3) := by decide +kernel
theorem dX5_stepBy_140 : decode cX5_stepBy 140 = .ok (.goto (-130), 3) := by decide +kernel
theorem dX5_stepBy_143 : decode cX5_stepBy 143 = .ok (.aload_n 0, 1) := by decide +kernel
theorem dX5_stepBy_144 : decode cX5_stepBy 144 = .ok (.getfield 7, 3) := by decide +kernel
theorem dX5_stepBy_147 : decode cX5_stepBy 147 = .ok (.bipush 100, 2) := by decide +kernel
theorem dX5_stepBy_149 : decode cX5_stepBy 149 = .ok (.iload_n 1, 1) := by decide +kernel
theorem dX5_stepBy_150 : decode cX5_stepBy 150 = .ok (.iadd, 1) := by decide +kernel
theorem dX5_stepBy_151 : decode cX5_stepBy 151 = .ok (.iaload, 1) := by decide +kernel
theorem dX5_stepBy_152 : decode cX5_stepBy 152 = .ok (.ireturn, 1) := by decide +kernel
theorem dX5_isCode_0 : decode cX5_isCode 0 = .ok (.iconst 1, 1) := by decide +kernel
theorem dX5_isCode_1 : decode cX5_isCode 1 = .ok (.istore_n 3, 1) := by decide +kernel
theorem dX5_isCode_2 : decode cX5_isCode 2 = .ok (.iconst 0, 1) := by decide +kernel
theorem dX5_isCode_3 : decode cX5_isCode 3 = .ok (.istore 4, 2) := by decide +kernel
theorem dX5_isCode_5 : decode cX5_isCode 5 = .ok (.iload 4, 2) := by decide +kernel
theorem dX5_isCode_7 : decode cX5_isCode 7 = .ok (.iload_n 2, 1) := by decide +kernel
theorem dX5_isCode_8 : decode cX5_isCode 8 = .ok (.if_icmp .ge 37, 3) := by decide +kernel
theorem dX5_isCode_11 : decode cX5_isCode 11 = .ok (.iload_n 3, 1) := by decide +kernel
theorem dX5_isCode_12 : decode cX5_isCode 12 = .ok (.ifCond .eq 33, 3) := by decide +kernel
theorem dX5_isCode_15 : decode cX5_isCode 15 = .ok (.iload_n 1, 1) := by decide +kernel
theorem dX5_isCode_16 : decode cX5_isCode 16 = .ok (.iconst 3, 1) := by decide +kernel
theorem dX5_isCode_17 : decode cX5_isCode 17 = .ok (.iload 4, 2) := by decide +kernel
theorem dX5_isCode_19 : decode cX5_isCode 19 = .ok (.imul, 1) := by decide +kernel
theorem dX5_isCode_20 : decode cX5_isCode 20 = .ok (.ishr, 1) := by decide +kernel
theorem dX5_isCode_21 : decode cX5_isCode 21 = .ok (.bipush 7, 2) := by decide +kernel
theorem dX5_isCode_23 : decode cX5_isCode 23 = .ok (.iand, 1) := by decide +kernel
theorem dX5_isCode_24 : decode cX5_isCode 24 = .ok (.iconst 1, 1) := by decide +kernel
theorem dX5_isCode_25 : decode cX5_isCode 25 = .ok (.aload_n 0, 1) := by decide +kernel
theorem dX5_isCode_26 : decode cX5_isCode 26 = .ok (.getfield 137, 3) := by decide +kernel
theorem dX5_isCode_29 : decode cX5_isCode 29 = .ok (.ishl, 1) := by decide +kernel
theorem dX5_isCode_30 : decode cX5_isCode 30 = .ok (.if_icmp .ge 7, 3) := by decide +kernel
theorem dX5_isCode_33 : decode cX5_isCode 33 = .ok (.iconst 1, 1) := by decide +kernel
theorem dX5_isCode_34 : decode cX5_isCode 34 = .ok (.goto 4, 3) := by decide +kernel
theorem dX5_isCode_37 : decode cX5_isCode 37 = .ok (.iconst 0, 1) := by decide +kernel
theorem dX5_isCode_38 : decode cX5_isCode 38 = .ok (.istore_n 3, 1) := by decide +kernel
theorem dX5_isCode_39 : decode cX5_isCode 39 = .ok (.iinc 4 1, 3) := by decide +kernel
theorem dX5_isCode_42 : decode cX5_isCode 42 = .ok (.goto (-37), 3) := by decide +kernel
theorem dX5_isCode_45 : decode cX5_isCode 45 = .ok (.iload_n 3, 1) := by decide +kernel
theorem dX5_isCode_46 : decode cX5_isCode 46 = .ok (.ireturn, 1) := by decide +kernel
theorem dX5_highest_0 : decode cX5_highest 0 = .ok (.aload_n 0, 1) := by decide +kernel
theorem dX5_highest_1 : decode cX5_highest 1 = .ok (.iload_n 1, 1) := by decide +kernel
theorem dX5_highest_2 : decode cX5_highest 2 = .ok (.invokevirtual 149, 3) := by decide +kernel
theorem dX5_highest_5 : decode cX5_highest 5 = .ok (.ifCond .eq 13, 3) := by decide +kernel
theorem dX5_highest_8 : decode cX5_highest 8 = .ok (.iload_n 2, 1) := by decide +kernel
theorem dX5_highest_9 : decode cX5_highest 9 = .ok (.ifCond .ge 11, 3) := by decide +kernel
theorem dX5_highest_12 : decode cX5_highest 12 = .ok (.iload_n 2, 1) := by decide +kernel
theorem dX5_highest_13 : decode cX5_highest 13 = .ok (.bipush (-9), 2) := by decide +kernel
theorem dX5_highest_15 : decode cX5_highest 15 = .ok (.if_icmp .eq 5, 3) := by decide +kernel
theorem dX5_highest_18 : decode cX5_highest 18 = .ok (.iconst (-1), 1) := by decide +kernel
theorem dX5_highest_19 : decode cX5_highest 19 = .ok (.ireturn, 1) := by decide +kernel
theorem dX5_highest_20 : decode cX5_highest 20 = .ok (.aload_n 0, 1) := by decide +kernel
theorem dX5_highest_21 : decode cX5_highest 21 = .ok (.getfield 50, 3) := by decide +kernel
theorem dX5_highest_24 : decode cX5_highest 24 = .ok (.aload_n 0, 1) := by decide +kernel
theorem dX5_highest_25 : decode cX5_highest 25 = .ok (.getfield 7, 3) := by decide +kernel
theorem dX5_highest_28 : decode cX5_highest 28 = .ok (.bipush 15, 2) := by decide +kernel
theorem dX5_highest_30 : decode cX5_highest 30 = .ok (.iaload, 1) := by decide +kernel
theorem dX5_highest_31 : decode cX5_highest 31 = .ok (.isub, 1) := by decide +kernel
theorem dX5_highest_32 : decode cX5_highest 32 = .ok (.istore_n 3, 1) := by decide +kernel
theorem dX5_highest_33 : decode cX5_highest 33 = .ok (.iconst 0, 1) := by decide +kernel
theorem dX5_highest_34 : decode cX5_highest 34 = .ok (.istore 4, 2) := by decide +kernel
theorem dX5_highest_36 : decode cX5_highest 36 = .ok (.iconst (-1), 1) := by decide +kernel
theorem dX5_highest_37 : decode cX5_highest 37 = .ok (.istore 5, 2) := by decide +kernel
theorem dX5_highest_39 : decode cX5_highest 39 = .ok (.aload_n 0, 1) := by decide +kernel
theorem dX5_highest_40 : decode cX5_highest 40 = .ok (.iconst 0, 1) := by decide +kernel
theorem dX5_highest_41 : decode cX5_highest 41 = .ok (.iload_n 1, 1) := by decide +kernel
theorem dX5_highest_42 : decode cX5_highest 42 = .ok (.invokevirtual 158, 3) := by decide +kernel
theorem dX5_highest_45 : decode cX5_highest 45 = .ok (.istore 6, 2) := by decide +kernel
theorem dX5_highest_47 : decode cX5_highest 47 = .ok (.iconst 0, 1) := by decide +kernel
theorem dX5_highest_48 : decode cX5_highest 48 = .ok (.istore 7, 2) := by decide +kernel
theorem dX5_highest_50 : decode cX5_highest 50 = .ok (.iload 7, 2) := by decide +kernel
theorem dX5_highest_52 : decode cX5_highest 52 = .ok (.iconst 1, 1) := by decide +kernel
theorem dX5_highest_53 : decode cX5_highest 53 = .ok (.iconst 3, 1) := by decide +kernel
theorem dX5_highest_54 : decode cX5_highest 54 = .ok (.iload_n 3, 1) := by decide +kernel
theorem dX5_highest_55 : decode cX5_highest 55 = .ok (.imul, 1) := by decide +kernel
theorem dX5_highest_56 : decode cX5_highest 56 = .ok (.ishl, 1) := by decide +kernel
theorem dX5_highest_57 : decode cX5_highest 57 = .ok (.if_icmp .ge 53, 3) := by decide +kernel
theorem dX5_highest_60 : decode cX5_highest 60 = .ok (.iload 6, 2) := by decide +kernel
theorem dX5_highest_62 : decode cX5_highest 62 = .ok (.ifCond .ne 48, 3) := by decide +kernel
theorem dX5_highest_65 : decode cX5_highest 65 = .ok (.aload_n 0, 1) := by decide +kernel
theorem dX5_highest_66 : decode cX5_highest 66 = .ok (.iload 7, 2) := by decide +kernel
theorem dX5_highest_68 : decode cX5_highest 68 = .ok (.iload_n 3, 1) := by decide +kernel
theorem dX5_highest_69 : decode cX5_highest 69 = .ok (.invokevirtual 207, 3) := by decide +kernel
theorem dX5_highest_72 : decode cX5_highest 72 = .ok (.ifCond .eq 14, 3) := by decide +kernel
theorem dX5_highest_75 : decode cX5_highest 75 = .ok (.aload_n 0, 1) := by decide +kernel
theorem dX5_highest_76 : decode cX5_highest 76 = .ok (.iload_n 1, 1) := by decide +kernel
theorem dX5_highest_77 : decode cX5_highest 77 = .ok (.iload 7, 2) := by decide +kernel
theorem dX5_highest_79 : decode cX5_highest 79 = .ok (.iload_n 3, 1) := by decide +kernel
theorem dX5_highest_80 : decode cX5_highest 80 = .ok (.invokevirtual 210, 3) := by decide +kernel
theorem dX5_highest_83 : decode cX5_highest 83 = .ok (.goto 4, 3) := by decide +kernel
theorem dX5_highest_86 : decode cX5_highest 86 = .ok (.iconst (-1), 1) := by decide +kernel
theorem dX5_highest_87 : decode cX5_highest 87 = .ok (.istore 8, 2) := by decide +kernel
theorem dX5_highest_89 : decode cX5_highest 89 = .ok (.iload 8, 2) := by decide +kernel
theorem dX5_highest_91 : decode cX5_highest 91 = .ok (.iload 5, 2) := by decide +kernel
theorem dX5_highest_93 : decode cX5_highest 93 = .ok (.if_icmp .le 11, 3) := by decide +kernel
theorem dX5_highest_96 : decode cX5_highest 96 = .ok (.iload 7, 2) := by decide +kernel
theorem dX5_highest_98 : decode cX5_highest 98 = .ok (.istore 4, 2) := by decide +kernel
theorem dX5_highest_100 : decode cX5_highest 100 = .ok (.iload 8, 2) := by decide +kernel
theorem dX5_highest_102 : decode cX5_highest 102 = .ok (.istore 5, 2) := by decide +kernel
theorem dX5_highest_104 : decode cX5_highest 104 = .ok (.iinc 7 1, 3) := by decide +kernel
theorem dX5_highest_107 : decode cX5_highest 107 = .ok (.goto (-57), 3) := by decide +kernel
theorem dX5_highest_110 : decode cX5_highest 110 = .ok (.iload_n 2, 1) := by decide +kernel
theorem dX5_highest_111 : decode cX5_highest 111 = .ok (.bipush (-9), 2) := by decide +kernel
theorem dX5_highest_113 : decode cX5_highest 113 = .ok (.if_icmp .ne 20, 3) := by decide +kernel
theorem dX5_highest_116 : decode cX5_highest 116 = .ok (.iload 6, 2) := by decide +kernel
theorem dX5_highest_118 : decode cX5_highest 118 = .ok (.ifCond .eq 12, 3) := by decide +kernel
theorem dX5_highest_121 : decode cX5_highest 121 = .ok (.aload_n 0, 1) := by decide +kernel
theorem dX5_highest_122 : decode cX5_highest 122 = .ok (.getfield 17, 3) := by decide +kernel
theorem dX5_highest_125 : decode cX5_highest 125 = .ok (.iload_n 1, 1) := by decide +kernel
theorem dX5_highest_126 : decode cX5_highest 126 = .ok (.iaload, 1) := by decide +kernel
theorem dX5_highest_127 : decode cX5_highest 127 = .ok (.goto 5, 3) := by decide +kernel
theorem dX5_highest_130 : decode cX5_highest 130 = .ok (.iload 5, 2) := by decide +kernel
theorem dX5_highest_132 : decode cX5_highest 132 = .ok (.ireturn, 1) := by decide +kernel
theorem dX5_highest_133 : decode cX5_highest 133 = .ok (.iload_n 2, 1) := by decide +kernel
theorem dX5_highest_134 : decode cX5_highest 134 = .ok (.iload_n 3, 1) := by decide +kernel
theorem dX5_highest_135 : decode cX5_highest 135 = .ok (.if_icmp .lt 8, 3) := by decide +kernel
theorem dX5_highest_138 : decode cX5_highest 138 = .ok (.bipush (-5), 2) := by decide +kernel
theorem dX5_highest_140 : decode cX5_highest 140 = .ok (.goto 16, 3) := by decide +kernel
theorem dX5_highest_143 : decode cX5_highest 143 = .ok (.iload 4, 2) := by decide +kernel
theorem dX5_highest_145 : decode cX5_highest 145 = .ok (.iconst 3, 1) := by decide +kernel
theorem dX5_highest_146 : decode cX5_highest 146 = .ok (.iload_n 3, 1) := by decide +kernel
theorem dX5_highest_147 : decode cX5_highest 147 = .ok (.iconst 1, 1) := by decide +kernel
theorem dX5_highest_148 : decode cX5_highest 148 = .ok (.isub, 1) := by decide +kernel
theorem dX5_highest_149 : decode cX5_highest 149 = .ok (.iload_n 2, 1) := by decide +kernel
theorem dX5_highest_150 : decode cX5_highest 150 = .ok (.isub, 1) := by decide +kernel
theorem dX5_highest_151 : decode cX5_highest 151 = .ok (.imul, 1) := by decide +kernel
theorem dX5_highest_152 : decode cX5_highest 152 = .ok (.ishr, 1) := by decide +kernel
theorem dX5_highest_153 : decode cX5_highest 153 = .ok (.bipush 7, 2) := by decide +kernel
theorem dX5_highest_155 : decode cX5_highest 155 = .ok (.iand, 1) := by decide +kernel
theorem dX5_highest_156 : decode cX5_highest 156 = .ok (.ireturn, 1) := by decide +kernel
theorem dX5_goToDusk_0 : decode cX5_goToDusk 0 = .ok (.aload_n 0, 1) := by decide +kernel
theorem dX5_goToDusk_1 : decode cX5_goToDusk 1 = .ok (.getfield 7, 3) := by decide +kernel
theorem dX5_goToDusk_4 : decode cX5_goToDusk 4 = .ok (.iload_n 1, 1) := by decide +kernel
theorem dX5_goToDusk_5 : decode cX5_goToDusk 5 = .ok (.bipush 15, 2) := by decide +kernel
theorem dX5_goToDusk_7 : decode cX5_goToDusk 7 = .ok (.iadd, 1) := by decide +kernel
theorem dX5_goToDusk_8 : decode cX5_goToDusk 8 = .ok (.iaload, 1) := by decide +kernel
theorem dX5_goToDusk_9 : decode cX5_goToDusk 9 = .ok (.aload_n 0, 1) := by decide +kernel
theorem dX5_goToDusk_10 : decode cX5_goToDusk 10 = .ok (.getfield 50, 3) := by decide +kernel
theorem dX5_goToDusk_13 : decode cX5_goToDusk 13 = .ok (.if_icmp .ge 25, 3) := by decide +kernel
theorem dX5_goToDusk_16 : decode cX5_goToDusk 16 = .ok (.aload_n 0, 1) := by decide +kernel
theorem dX5_goToDusk_17 : decode cX5_goToDusk 17 = .ok (.iload_n 1, 1) := by decide +kernel
theorem dX5_goToDusk_18 : decode cX5_goToDusk 18 = .ok (.invokevirtual 193, 3) := by decide +kernel
theorem dX5_goToDusk_21 : decode cX5_goToDusk 21 = .ok (.istore_n 3, 1) := by decide +kernel
theorem dX5_goToDusk_22 : decode cX5_goToDusk 22 = .ok (.aload_n 0, 1) := by decide +kernel
theorem dX5_goToDusk_23 : decode cX5_goToDusk 23 = .ok (.getfield 7, 3) := by decide +kernel
theorem dX5_goToDusk_26 : decode cX5_goToDusk 26 = .ok (.iload_n 1, 1) := by decide +kernel
theorem dX5_goToDusk_27 : decode cX5_goToDusk 27 = .ok (.bipush 15, 2) := by decide +kernel
theorem dX5_goToDusk_29 : decode cX5_goToDusk 29 = .ok (.iadd, 1) := by decide +kernel
theorem dX5_goToDusk_30 : decode cX5_goToDusk 30 = .ok (.dup2, 1) := by decide +kernel
theorem dX5_goToDusk_31 : decode cX5_goToDusk 31 = .ok (.iaload, 1) := by decide +kernel
theorem dX5_goToDusk_32 : decode cX5_goToDusk 32 = .ok (.iconst 1, 1) := by decide +kernel
theorem dX5_goToDusk_33 : decode cX5_goToDusk 33 = .ok (.iadd, 1) := by decide +kernel
theorem dX5_goToDusk_34 : decode cX5_goToDusk 34 = .ok (.iastore, 1) := by decide +kernel
theorem dX5_goToDusk_35 : decode cX5_goToDusk 35 = .ok (.goto (-35), 3) := by decide +kernel
theorem dX5_goToDusk_38 : decode cX5_goToDusk 38 = .ok (.aload_n 0, 1) := by decide +kernel
theorem dX5_goToDusk_39 : decode cX5_goToDusk 39 = .ok (.iload_n 1, 1) := by decide +kernel
theorem dX5_goToDusk_40 : decode cX5_goToDusk 40 = .ok (.iload_n 2, 1) := by decide +kernel
theorem dX5_goToDusk_41 : decode cX5_goToDusk 41 = .ok (.invokevirtual 199, 3) := by decide +kernel
theorem dX5_goToDusk_44 : decode cX5_goToDusk 44 = .ok (.return_, 1) := by decide +kernel
theorem dX5_days_0 : decode cX5_days 0 = .ok (.aload_n 0, 1) := by decide +kernel
theorem dX5_days_1 : decode cX5_days 1 = .ok (.iload_n 1, 1) := by decide +kernel
theorem dX5_days_2 : decode cX5_days 2 = .ok (.invokevirtual 149, 3) := by decide +kernel
theorem dX5_days_5 : decode cX5_days 5 = .ok (.ifCond .ne 5, 3) := by decide +kernel
theorem dX5_days_8 : decode cX5_days 8 = .ok (.iconst (-1), 1) := by decide +kernel
theorem dX5_days_9 : decode cX5_days 9 = .ok (.ireturn, 1) := by decide +kernel
theorem dX5_days_10 : decode cX5_days 10 = .ok (.aload_n 0, 1) := by decide +kernel
theorem dX5_days_11 : decode cX5_days 11 = .ok (.iconst 0, 1) := by decide +kernel
theorem dX5_days_12 : decode cX5_days 12 = .ok (.bipush 100, 2) := by decide +kernel
theorem dX5_days_14 : decode cX5_days 14 = .ok (.invokevirtual 172, 3) := by decide +kernel
theorem dX5_days_17 : decode cX5_days 17 = .ok (.aload_n 0, 1) := by decide +kernel
theorem dX5_days_18 : decode cX5_days 18 = .ok (.bipush 100, 2) := by decide +kernel
theorem dX5_days_20 : decode cX5_days 20 = .ok (.iload_n 1, 1) := by decide +kernel
theorem dX5_days_21 : decode cX5_days 21 = .ok (.bipush 7, 2) := by decide +kernel
theorem dX5_days_23 : decode cX5_days 23 = .ok (.invokevirtual 203, 3) := by decide +kernel
theorem dX5_days_26 : decode cX5_days 26 = .ok (.iconst 0, 1) := by decide +kernel
theorem dX5_days_27 : decode cX5_days 27 = .ok (.istore_n 2, 1) := by decide +kernel
theorem dX5_days_28 : decode cX5_days 28 = .ok (.iload_n 2, 1) := by decide +kernel
theorem dX5_days_29 : decode cX5_days 29 = .ok (.bipush 60, 2) := by decide +kernel
theorem dX5_days_31 : decode cX5_days 31 = .ok (.if_icmp .gt 38, 3) := by decide +kernel
theorem dX5_days_34 : decode cX5_days 34 = .ok (.aload_n 0, 1) := by decide +kernel
theorem dX5_days_35 : decode cX5_days 35 = .ok (.bipush 100, 2) := by decide +kernel
theorem dX5_days_37 : decode cX5_days 37 = .ok (.iload_n 1, 1) := by decide +kernel
theorem dX5_days_38 : decode cX5_days 38 = .ok (.invokevirtual 158, 3) := by decide +kernel
theorem dX5_days_41 : decode cX5_days 41 = .ok (.ifCond .eq 5, 3) := by decide +kernel
theorem dX5_days_44 : decode cX5_days 44 = .ok (.iload_n 2, 1) := by decide +kernel
theorem dX5_days_45 : decode cX5_days 45 = .ok (.ireturn, 1) := by decide +kernel
theorem dX5_days_46 : decode cX5_days 46 = .ok (.aload_n 0, 1) := by decide +kernel
theorem dX5_days_47 : decode cX5_days 47 = .ok (.bipush 100, 2) := by decide +kernel
theorem dX5_days_49 : decode cX5_days 49 = .ok (.aload_n 0, 1) := by decide +kernel
theorem dX5_days_50 : decode cX5_days 50 = .ok (.aload_n 0, 1) := by decide +kernel
theorem dX5_days_51 : decode cX5_days 51 = .ok (.getfield 7, 3) := by decide +kernel
theorem dX5_days_54 : decode cX5_days 54 = .ok (.bipush 114, 2) := by decide +kernel
theorem dX5_days_56 : decode cX5_days 56 = .ok (.iaload, 1) := by decide +kernel
theorem dX5_days_57 : decode cX5_days 57 = .ok (.invokevirtual 196, 3) := by decide +kernel
theorem dX5_days_60 : decode cX5_days 60 = .ok (.invokevirtual 213, 3) := by decide +kernel
theorem dX5_days_63 : decode cX5_days 63 = .ok (.iinc 2 1, 3) := by decide +kernel
theorem dX5_days_66 : decode cX5_days 66 = .ok (.goto (-38), 3) := by decide +kernel
theorem dX5_days_69 : decode cX5_days 69 = .ok (.bipush (-9), 2) := by decide +kernel
theorem dX5_days_71 : decode cX5_days 71 = .ok (.ireturn, 1) := by decide +kernel
theorem dX5_isOverBy_0 : decode cX5_isOverBy 0 = .ok (.aload_n 0, 1) := by decide +kernel
theorem dX5_isOverBy_1 : decode cX5_isOverBy 1 = .ok (.iconst 0, 1) := by decide +kernel
theorem dX5_isOverBy_2 : decode cX5_isOverBy 2 = .ok (.bipush 100, 2) := by decide +kernel
theorem dX5_isOverBy_4 : decode cX5_isOverBy 4 = .ok (.invokevirtual 172, 3) := by decide +kernel
theorem dX5_isOverBy_7 : decode cX5_isOverBy 7 = .ok (.aload_n 0, 1) := by decide +kernel
theorem dX5_isOverBy_8 : decode cX5_isOverBy 8 = .ok (.bipush 100, 2) := by decide +kernel
theorem dX5_isOverBy_10 : decode cX5_isOverBy 10 = .ok (.iload_n 1, 1) := by decide +kernel
theorem dX5_isOverBy_11 : decode cX5_isOverBy 11 = .ok (.bipush 7, 2) := by decide +kernel
theorem dX5_isOverBy_13 : decode cX5_isOverBy 13 = .ok (.invokevirtual 203, 3) := by decide +kernel
theorem dX5_isOverBy_16 : decode cX5_isOverBy 16 = .ok (.aload_n 0, 1) := by decide +kernel
theorem dX5_isOverBy_17 : decode cX5_isOverBy 17 = .ok (.getfield 7, 3) := by decide +kernel
theorem dX5_isOverBy_20 : decode cX5_isOverBy 20 = .ok (.bipush 15, 2) := by decide +kernel
theorem dX5_isOverBy_22 : decode cX5_isOverBy 22 = .ok (.iaload, 1) := by decide +kernel
theorem dX5_isOverBy_23 : decode cX5_isOverBy 23 = .ok (.istore_n 3, 1) := by decide +kernel
theorem dX5_isOverBy_24 : decode cX5_isOverBy 24 = .ok (.iload_n 3, 1) := by decide +kernel
theorem dX5_isOverBy_25 : decode cX5_isOverBy 25 = .ok (.aload_n 0, 1) := by decide +kernel
theorem dX5_isOverBy_26 : decode cX5_isOverBy 26 = .ok (.getfield 50, 3) := by decide +kernel
theorem dX5_isOverBy_29 : decode cX5_isOverBy 29 = .ok (.if_icmp .ge 89, 3) := by decide +kernel
theorem dX5_isOverBy_32 : decode cX5_isOverBy 32 = .ok (.aload_n 0, 1) := by decide +kernel
theorem dX5_isOverBy_33 : decode cX5_isOverBy 33 = .ok (.bipush 100, 2) := by decide +kernel
theorem dX5_isOverBy_35 : decode cX5_isOverBy 35 = .ok (.iload_n 1, 1) := by decide +kernel
theorem dX5_isOverBy_36 : decode cX5_isOverBy 36 = .ok (.invokevirtual 158, 3) := by decide +kernel
theorem dX5_isOverBy_39 : decode cX5_isOverBy 39 = .ok (.ifCond .ne 46, 3) := by decide +kernel
theorem dX5_isOverBy_42 : decode cX5_isOverBy 42 = .ok (.aload_n 0, 1) := by decide +kernel
theorem dX5_isOverBy_43 : decode cX5_isOverBy 43 = .ok (.bipush 100, 2) := by decide +kernel
theorem dX5_isOverBy_45 : decode cX5_isOverBy 45 = .ok (.iload_n 1, 1) := by decide +kernel
theorem dX5_isOverBy_46 : decode cX5_isOverBy 46 = .ok (.invokevirtual 183, 3) := by decide +kernel
theorem dX5_isOverBy_49 : decode cX5_isOverBy 49 = .ok (.iload_n 2, 1) := by decide +kernel
theorem dX5_isOverBy_50 : decode cX5_isOverBy 50 = .ok (.aload_n 0, 1) := by decide +kernel
theorem dX5_isOverBy_51 : decode cX5_isOverBy 51 = .ok (.getfield 20, 3) := by decide +kernel
theorem dX5_isOverBy_54 : decode cX5_isOverBy 54 = .ok (.iload_n 1, 1) := by decide +kernel
theorem dX5_isOverBy_55 : decode cX5_isOverBy 55 = .ok (.iaload, 1) := by decide +kernel
theorem dX5_isOverBy_56 : decode cX5_isOverBy 56 = .ok (.iadd, 1) := by decide +kernel
theorem dX5_isOverBy_57 : decode cX5_isOverBy 57 = .ok (.if_icmp .lt 28, 3) := by decide +kernel
theorem dX5_isOverBy_60 : decode cX5_isOverBy 60 = .ok (.aload_n 0, 1) := by decide +kernel
theorem dX5_isOverBy_61 : decode cX5_isOverBy 61 = .ok (.bipush 100, 2) := by decide +kernel
theorem dX5_isOverBy_63 : decode cX5_isOverBy 63 = .ok (.iload_n 1, 1) := by decide +kernel
theorem dX5_isOverBy_64 : decode cX5_isOverBy 64 = .ok (.aload_n 0, 1) := by decide +kernel
theorem dX5_isOverBy_65 : decode cX5_isOverBy 65 = .ok (.getfield 7, 3) := by decide +kernel
theorem dX5_isOverBy_68 : decode cX5_isOverBy 68 = .ok (.bipush 100, 2) := by decide +kernel
theorem dX5_isOverBy_70 : decode cX5_isOverBy 70 = .ok (.iload_n 1, 1) := by decide +kernel
theorem dX5_isOverBy_71 : decode cX5_isOverBy 71 = .ok (.iadd, 1) := by decide +kernel
theorem dX5_isOverBy_72 : decode cX5_isOverBy 72 = .ok (.iaload, 1) := by decide +kernel
theorem dX5_isOverBy_73 : decode cX5_isOverBy 73 = .ok (.iconst 1, 1) := by decide +kernel
theorem dX5_isOverBy_74 : decode cX5_isOverBy 74 = .ok (.iadd, 1) := by decide +kernel
theorem dX5_isOverBy_75 : decode cX5_isOverBy 75 = .ok (.invokevirtual 186, 3) := by decide +kernel
theorem dX5_isOverBy_78 : decode cX5_isOverBy 78 = .ok (.ifCond .ne 7, 3) := by decide +kernel
theorem dX5_isOverBy_81 : decode cX5_isOverBy 81 = .ok (.iconst 1, 1) := by decide +kernel
theorem dX5_isOverBy_82 : decode cX5_isOverBy 82 = .ok (.goto 4, 3) := by decide +kernel
theorem dX5_isOverBy_85 : decode cX5_isOverBy 85 = .ok (.iconst 0, 1) := by decide +kernel
theorem dX5_isOverBy_86 : decode cX5_isOverBy 86 = .ok (.istore 4, 2) := by decide +kernel
theorem dX5_isOverBy_88 : decode cX5_isOverBy 88 = .ok (.aload_n 0, 1) := by decide +kernel
theorem dX5_isOverBy_89 : decode cX5_isOverBy 89 = .ok (.getfield 7, 3) := by decide +kernel
theorem dX5_isOverBy_92 : decode cX5_isOverBy 92 = .ok (.bipush 100, 2) := by decide +kernel
theorem dX5_isOverBy_94 : decode cX5_isOverBy 94 = .ok (.iload_n 1, 1) := by decide +kernel
theorem dX5_isOverBy_95 : decode cX5_isOverBy 95 = .ok (.iadd, 1) := by decide +kernel
theorem dX5_isOverBy_96 : decode cX5_isOverBy 96 = .ok (.dup2, 1) := by decide +kernel
theorem dX5_isOverBy_97 : decode cX5_isOverBy 97 = .ok (.iaload, 1) := by decide +kernel
theorem dX5_isOverBy_98 : decode cX5_isOverBy 98 = .ok (.iload 4, 2) := by decide +kernel
theorem dX5_isOverBy_100 : decode cX5_isOverBy 100 = .ok (.invokestatic 161, 3) := by decide +kernel
theorem dX5_isOverBy_103 : decode cX5_isOverBy 103 = .ok (.iadd, 1) := by decide +kernel
theorem dX5_isOverBy_104 : decode cX5_isOverBy 104 = .ok (.iastore, 1) := by decide +kernel
theorem dX5_isOverBy_105 : decode cX5_isOverBy 105 = .ok (.aload_n 0, 1) := by decide +kernel
theorem dX5_isOverBy_106 : decode cX5_isOverBy 106 = .ok (.bipush 100, 2) := by decide +kernel
theorem dX5_isOverBy_108 : decode cX5_isOverBy 108 = .ok (.iconst 0, 1) := by decide +kernel
theorem dX5_isOverBy_109 : decode cX5_isOverBy 109 = .ok (.invokevirtual 190, 3) := by decide +kernel
theorem dX5_isOverBy_112 : decode cX5_isOverBy 112 = .ok (.iinc 3 1, 3) := by decide +kernel
theorem dX5_isOverBy_115 : decode cX5_isOverBy 115 = .ok (.goto (-91), 3) := by decide +kernel
theorem dX5_isOverBy_118 : decode cX5_isOverBy 118 = .ok (.aload_n 0, 1) := by decide +kernel
theorem dX5_isOverBy_119 : decode cX5_isOverBy 119 = .ok (.bipush 100, 2) := by decide +kernel
theorem dX5_isOverBy_121 : decode cX5_isOverBy 121 = .ok (.iload_n 1, 1) := by decide +kernel
theorem dX5_isOverBy_122 : decode cX5_isOverBy 122 = .ok (.invokevirtual 158, 3) := by decide +kernel
theorem dX5_isOverBy_125 : decode cX5_isOverBy 125 = .ok (.ireturn, 1) := by decide +kernel
theorem dX5_little_0 : decode cX5_little 0 = .ok (.aload_n 0, 1) := by decide +kernel
theorem dX5_little_1 : decode cX5_little 1 = .ok (.iload_n 1, 1) := by decide +kernel
theorem dX5_little_2 : decode cX5_little 2 = .ok (.invokevirtual 149, 3) := by decide +kernel
theorem dX5_little_5 : decode cX5_little 5 = .ok (.ifCond .ne 5, 3) := by decide +kernel
theorem dX5_little_8 : decode cX5_little 8 = .ok (.iconst (-1), 1) := by decide +kernel
theorem dX5_little_9 : decode cX5_little 9 = .ok (.ireturn, 1) := by decide +kernel
theorem dX5_little_10 : decode cX5_little 10 = .ok (.aload_n 0, 1) := by decide +kernel
theorem dX5_little_11 : decode cX5_little 11 = .ok (.iconst 0, 1) := by decide +kernel
theorem dX5_little_12 : decode cX5_little 12 = .ok (.iload_n 1, 1) := by decide +kernel
theorem dX5_little_13 : decode cX5_little 13 = .ok (.invokevirtual 158, 3) := by decide +kernel
theorem dX5_little_16 : decode cX5_little 16 = .ok (.ifCond .eq 6, 3) := by decide +kernel
theorem dX5_little_19 : decode cX5_little 19 = .ok (.bipush (-2), 2) := by decide +kernel
theorem dX5_little_21 : decode cX5_little 21 = .ok (.ireturn, 1) := by decide +kernel
theorem dX5_little_22 : decode cX5_little 22 = .ok (.bipush 9, 2) := by decide +kernel
theorem dX5_little_24 : decode cX5_little 24 = .ok (.istore_n 2, 1) := by decide +kernel
theorem dX5_little_25 : decode cX5_little 25 = .ok (.iload_n 2, 1) := by decide +kernel
theorem dX5_little_26 : decode cX5_little 26 = .ok (.ifCond .le 20, 3) := by decide +kernel
theorem dX5_little_29 : decode cX5_little 29 = .ok (.aload_n 0, 1) := by decide +kernel
theorem dX5_little_30 : decode cX5_little 30 = .ok (.iload_n 1, 1) := by decide +kernel
theorem dX5_little_31 : decode cX5_little 31 = .ok (.iload_n 2, 1) := by decide +kernel
theorem dX5_little_32 : decode cX5_little 32 = .ok (.invokevirtual 216, 3) := by decide +kernel
theorem dX5_little_35 : decode cX5_little 35 = .ok (.ifCond .eq 5, 3) := by decide +kernel
theorem dX5_little_38 : decode cX5_little 38 = .ok (.iload_n 2, 1) := by decide +kernel
theorem dX5_little_39 : decode cX5_little 39 = .ok (.ireturn, 1) := by decide +kernel
theorem dX5_little_40 : decode cX5_little 40 = .ok (.iinc 2 (-1), 3) := by decide +kernel
theorem dX5_little_43 : decode cX5_little 43 = .ok (.goto (-18), 3) := by decide +kernel
theorem dX5_little_46 : decode cX5_little 46 = .ok (.bipush (-9), 2) := by decide +kernel
theorem dX5_little_48 : decode cX5_little 48 = .ok (.ireturn, 1) := by decide +kernel
theorem dX5_crew_0 : decode cX5_crew 0 = .ok (.aload_n 0, 1) := by decide +kernel
theorem dX5_crew_1 : decode cX5_crew 1 = .ok (.iload_n 1, 1) := by decide +kernel
theorem dX5_crew_2 : decode cX5_crew 2 = .ok (.invokevirtual 149, 3) := by decide +kernel
theorem dX5_crew_5 : decode cX5_crew 5 = .ok (.ifCond .ne 5, 3) := by decide +kernel
theorem dX5_crew_8 : decode cX5_crew 8 = .ok (.iconst (-1), 1) := by decide +kernel
theorem dX5_crew_9 : decode cX5_crew 9 = .ok (.ireturn, 1) := by decide +kernel
theorem dX5_crew_10 : decode cX5_crew 10 = .ok (.bipush (-9), 2) := by decide +kernel
theorem dX5_crew_12 : decode cX5_crew 12 = .ok (.istore_n 2, 1) := by decide +kernel
theorem dX5_crew_13 : decode cX5_crew 13 = .ok (.iconst 0, 1) := by decide +kernel
theorem dX5_crew_14 : decode cX5_crew 14 = .ok (.istore_n 3, 1) := by decide +kernel
theorem dX5_crew_15 : decode cX5_crew 15 = .ok (.iload_n 3, 1) := by decide +kernel
theorem dX5_crew_16 : decode cX5_crew 16 = .ok (.iconst 1, 1) := by decide +kernel
theorem dX5_crew_17 : decode cX5_crew 17 = .ok (.aload_n 0, 1) := by decide +kernel
theorem dX5_crew_18 : decode cX5_crew 18 = .ok (.getfield 137, 3) := by decide +kernel
theorem dX5_crew_21 : decode cX5_crew 21 = .ok (.ishl, 1) := by decide +kernel
theorem dX5_crew_22 : decode cX5_crew 22 = .ok (.if_icmp .ge 106, 3) := by decide +kernel
theorem dX5_crew_25 : decode cX5_crew 25 = .ok (.iconst 0, 1) := by decide +kernel
theorem dX5_crew_26 : decode cX5_crew 26 = .ok (.istore 4, 2) := by decide +kernel
theorem dX5_crew_28 : decode cX5_crew 28 = .ok (.iconst 0, 1) := by decide +kernel
theorem dX5_crew_29 : decode cX5_crew 29 = .ok (.istore 5, 2) := by decide +kernel
theorem dX5_crew_31 : decode cX5_crew 31 = .ok (.iload 5, 2) := by decide +kernel
theorem dX5_crew_33 : decode cX5_crew 33 = .ok (.aload_n 0, 1) := by decide +kernel
theorem dX5_crew_34 : decode cX5_crew 34 = .ok (.getfield 137, 3) := by decide +kernel
theorem dX5_crew_37 : decode cX5_crew 37 = .ok (.if_icmp .ge 34, 3) := by decide +kernel
theorem dX5_crew_40 : decode cX5_crew 40 = .ok (.iload 4, 2) := by decide +kernel
theorem dX5_crew_42 : decode cX5_crew 42 = .ok (.iload_n 3, 1) := by decide +kernel
theorem dX5_crew_43 : decode cX5_crew 43 = .ok (.iload 5, 2) := by decide +kernel
theorem dX5_crew_45 : decode cX5_crew 45 = .ok (.invokestatic 118, 3) := by decide +kernel
theorem dX5_crew_48 : decode cX5_crew 48 = .ok (.ifCond .eq 13, 3) := by decide +kernel
theorem dX5_crew_51 : decode cX5_crew 51 = .ok (.aload_n 0, 1) := by decide +kernel
theorem dX5_crew_52 : decode cX5_crew 52 = .ok (.getfield 38, 3) := by decide +kernel
theorem dX5_crew_55 : decode cX5_crew 55 = .ok (.iload 5, 2) := by decide +kernel
theorem dX5_crew_57 : decode cX5_crew 57 = .ok (.iaload, 1) := by decide +kernel
theorem dX5_crew_58 : decode cX5_crew 58 = .ok (.goto 4, 3) := by decide +kernel
theorem dX5_crew_61 : decode cX5_crew 61 = .ok (.iconst 0, 1) := by decide +kernel
theorem dX5_crew_62 : decode cX5_crew 62 = .ok (.iadd, 1) := by decide +kernel
theorem dX5_crew_63 : decode cX5_crew 63 = .ok (.istore 4, 2) := by decide +kernel
theorem dX5_crew_65 : decode cX5_crew 65 = .ok (.iinc 5 1, 3) := by decide +kernel
theorem dX5_crew_68 : decode cX5_crew 68 = .ok (.goto (-37), 3) := by decide +kernel
theorem dX5_crew_71 : decode cX5_crew 71 = .ok (.iload 4, 2) := by decide +kernel
theorem dX5_crew_73 : decode cX5_crew 73 = .ok (.aload_n 0, 1) := by decide +kernel
theorem dX5_crew_74 : decode cX5_crew 74 = .ok (.iconst 0, 1) := by decide +kernel
theorem dX5_crew_75 : decode cX5_crew 75 = .ok (.iload_n 1, 1) := by decide +kernel
theorem dX5_crew_76 : decode cX5_crew 76 = .ok (.invokevirtual 155, 3) := by decide +kernel
theorem dX5_crew_79 : decode cX5_crew 79 = .ok (.aload_n 0, 1) := by decide +kernel
theorem dX5_crew_80 : decode cX5_crew 80 = .ok (.getfield 20, 3) := by decide +kernel
theorem dX5_crew_83 : decode cX5_crew 83 = .ok (.iload_n 1, 1) := by decide +kernel
theorem dX5_crew_84 : decode cX5_crew 84 = .ok (.iaload, 1) := by decide +kernel
theorem dX5_crew_85 : decode cX5_crew 85 = .ok (.iadd, 1) := by decide +kernel
theorem dX5_crew_86 : decode cX5_crew 86 = .ok (.if_icmp .lt 22, 3) := by decide +kernel
theorem dX5_crew_89 : decode cX5_crew 89 = .ok (.iload_n 2, 1) := by decide +kernel
theorem dX5_crew_90 : decode cX5_crew 90 = .ok (.ifCond .lt 14, 3) := by decide +kernel
theorem dX5_crew_93 : decode cX5_crew 93 = .ok (.iload_n 3, 1) := by decide +kernel
theorem dX5_crew_94 : decode cX5_crew 94 = .ok (.invokestatic 219, 3) := by decide +kernel
theorem dX5_crew_97 : decode cX5_crew 97 = .ok (.iload_n 2, 1) := by decide +kernel
theorem dX5_crew_98 : decode cX5_crew 98 = .ok (.invokestatic 219, 3) := by decide +kernel
theorem dX5_crew_101 : decode cX5_crew 101 = .ok (.if_icmp .ge 7, 3) := by decide +kernel
theorem dX5_crew_104 : decode cX5_crew 104 = .ok (.iconst 1, 1) := by decide +kernel
theorem dX5_crew_105 : decode cX5_crew 105 = .ok (.goto 4, 3) := by decide +kernel
theorem dX5_crew_108 : decode cX5_crew 108 = .ok (.iconst 0, 1) := by decide +kernel
theorem dX5_crew_109 : decode cX5_crew 109 = .ok (.istore 5, 2) := by decide +kernel
theorem dX5_crew_111 : decode cX5_crew 111 = .ok (.iload 5, 2) := by decide +kernel
theorem dX5_crew_113 : decode cX5_crew 113 = .ok (.ifCond .eq 7, 3) := by decide +kernel
theorem dX5_crew_116 : decode cX5_crew 116 = .ok (.iload_n 3, 1) := by decide +kernel
theorem dX5_crew_117 : decode cX5_crew 117 = .ok (.goto 4, 3) := by decide +kernel
theorem dX5_crew_120 : decode cX5_crew 120 = .ok (.iload_n 2, 1) := by decide +kernel
theorem dX5_crew_121 : decode cX5_crew 121 = .ok (.istore_n 2, 1) := by decide +kernel
theorem dX5_crew_122 : decode cX5_crew 122 = .ok (.iinc 3 1, 3) := by decide +kernel
theorem dX5_crew_125 : decode cX5_crew 125 = .ok (.goto (-110), 3) := by decide +kernel
theorem dX5_crew_128 : decode cX5_crew 128 = .ok (.iload_n 2, 1) := by decide +kernel
theorem dX5_crew_129 : decode cX5_crew 129 = .ok (.ireturn, 1) := by decide +kernel
theorem dX5_blocks_0 : decode cX5_blocks 0 = .ok (.aload_n 0, 1) := by decide +kernel
theorem dX5_blocks_1 : decode cX5_blocks 1 = .ok (.iload_n 1, 1) := by decide +kernel
theorem dX5_blocks_2 : decode cX5_blocks 2 = .ok (.invokevirtual 149, 3) := by decide +kernel
theorem dX5_blocks_5 : decode cX5_blocks 5 = .ok (.ifCond .ne 7, 3) := by decide +kernel
theorem dX5_blocks_8 : decode cX5_blocks 8 = .ok (.iconst (-1), 1) := by decide +kernel
theorem dX5_blocks_9 : decode cX5_blocks 9 = .ok (.goto 30, 3) := by decide +kernel
theorem dX5_blocks_12 : decode cX5_blocks 12 = .ok (.aload_n 0, 1) := by decide +kernel
theorem dX5_blocks_13 : decode cX5_blocks 13 = .ok (.iconst 0, 1) := by decide +kernel
theorem dX5_blocks_14 : decode cX5_blocks 14 = .ok (.iload_n 1, 1) := by decide +kernel
theorem dX5_blocks_15 : decode cX5_blocks 15 = .ok (.invokevirtual 158, 3) := by decide +kernel
theorem dX5_blocks_18 : decode cX5_blocks 18 = .ok (.ifCond .eq 7, 3) := by decide +kernel
theorem dX5_blocks_21 : decode cX5_blocks 21 = .ok (.iconst 0, 1) := by decide +kernel
theorem dX5_blocks_22 : decode cX5_blocks 22 = .ok (.goto 17, 3) := by decide +kernel
theorem dX5_blocks_25 : decode cX5_blocks 25 = .ok (.aload_n 0, 1) := by decide +kernel
theorem dX5_blocks_26 : decode cX5_blocks 26 = .ok (.iconst 0, 1) := by decide +kernel
theorem dX5_blocks_27 : decode cX5_blocks 27 = .ok (.iload_n 1, 1) := by decide +kernel
theorem dX5_blocks_28 : decode cX5_blocks 28 = .ok (.aload_n 0, 1) := by decide +kernel
theorem dX5_blocks_29 : decode cX5_blocks 29 = .ok (.getfield 7, 3) := by decide +kernel
theorem dX5_blocks_32 : decode cX5_blocks 32 = .ok (.iload_n 1, 1) := by decide +kernel
theorem dX5_blocks_33 : decode cX5_blocks 33 = .ok (.iaload, 1) := by decide +kernel
theorem dX5_blocks_34 : decode cX5_blocks 34 = .ok (.iconst 1, 1) := by decide +kernel
theorem dX5_blocks_35 : decode cX5_blocks 35 = .ok (.iadd, 1) := by decide +kernel
theorem dX5_blocks_36 : decode cX5_blocks 36 = .ok (.invokevirtual 186, 3) := by decide +kernel
theorem dX5_blocks_39 : decode cX5_blocks 39 = .ok (.ireturn, 1) := by decide +kernel
theorem dX5_written_0 : decode cX5_written 0 = .ok (.aload_n 0, 1) := by decide +kernel
theorem dX5_written_1 : decode cX5_written 1 = .ok (.iload_n 2, 1) := by decide +kernel
theorem dX5_written_2 : decode cX5_written 2 = .ok (.invokevirtual 149, 3) := by decide +kernel
theorem dX5_written_5 : decode cX5_written 5 = .ok (.ifCond .eq 38, 3) := by decide +kernel
theorem dX5_written_8 : decode cX5_written 8 = .ok (.iload_n 1, 1) := by decide +kernel
theorem dX5_written_9 : decode cX5_written 9 = .ok (.i2l, 1) := by decide +kernel
theorem dX5_written_10 : decode cX5_written 10 = .ok (.lconst 0, 1) := by decide +kernel
theorem dX5_written_11 : decode cX5_written 11 = .ok (.aload_n 0, 1) := by decide +kernel
theorem dX5_written_12 : decode cX5_written 12 = .ok (.getfield 7, 3) := by decide +kernel
theorem dX5_written_15 : decode cX5_written 15 = .ok (.bipush 16, 2) := by decide +kernel
theorem dX5_written_17 : decode cX5_written 17 = .ok (.iaload, 1) := by decide +kernel
theorem dX5_written_18 : decode cX5_written 18 = .ok (.iconst 1, 1) := by decide +kernel
theorem dX5_written_19 : decode cX5_written 19 = .ok (.isub, 1) := by decide +kernel
theorem dX5_written_20 : decode cX5_written 20 = .ok (.i2l, 1) := by decide +kernel
theorem dX5_written_21 : decode cX5_written 21 = .ok (.invokestatic 59, 3) := by decide +kernel
theorem dX5_written_24 : decode cX5_written 24 = .ok (.ifCond .eq 19, 3) := by decide +kernel
theorem dX5_written_27 : decode cX5_written 27 = .ok (.aload_n 0, 1) := by decide +kernel
theorem dX5_written_28 : decode cX5_written 28 = .ok (.getfield 7, 3) := by decide +kernel
theorem dX5_written_31 : decode cX5_written 31 = .ok (.bipush 20, 2) := by decide +kernel
theorem dX5_written_33 : decode cX5_written 33 = .ok (.iconst 4, 1) := by decide +kernel
theorem dX5_written_34 : decode cX5_written 34 = .ok (.iload_n 1, 1) := by decide +kernel
theorem dX5_written_35 : decode cX5_written 35 = .ok (.imul, 1) := by decide +kernel
theorem dX5_written_36 : decode cX5_written 36 = .ok (.iadd, 1) := by decide +kernel
theorem dX5_written_37 : decode cX5_written 37 = .ok (.iload_n 2, 1) := by decide +kernel
theorem dX5_written_38 : decode cX5_written 38 = .ok (.iadd, 1) := by decide +kernel
theorem dX5_written_39 : decode cX5_written 39 = .ok (.iaload, 1) := by decide +kernel
theorem dX5_written_40 : decode cX5_written 40 = .ok (.goto 4, 3) := by decide +kernel
theorem dX5_written_43 : decode cX5_written 43 = .ok (.iconst (-1), 1) := by decide +kernel
theorem dX5_written_44 : decode cX5_written 44 = .ok (.ireturn, 1) := by decide +kernel
theorem dX5_saw_0 : decode cX5_saw 0 = .ok (.aload_n 0, 1) := by decide +kernel
theorem dX5_saw_1 : decode cX5_saw 1 = .ok (.iload_n 1, 1) := by decide +kernel
theorem dX5_saw_2 : decode cX5_saw 2 = .ok (.invokevirtual 149, 3) := by decide +kernel
theorem dX5_saw_5 : decode cX5_saw 5 = .ok (.ifCond .eq 15, 3) := by decide +kernel
theorem dX5_saw_8 : decode cX5_saw 8 = .ok (.iload_n 2, 1) := by decide +kernel
theorem dX5_saw_9 : decode cX5_saw 9 = .ok (.i2l, 1) := by decide +kernel
theorem dX5_saw_10 : decode cX5_saw 10 = .ok (.lconst 0, 1) := by decide +kernel
theorem dX5_saw_11 : decode cX5_saw 11 = .ok (.ldc2_w 222, 3) := by decide +kernel
theorem dX5_saw_14 : decode cX5_saw 14 = .ok (.invokestatic 59, 3) := by decide +kernel
theorem dX5_saw_17 : decode cX5_saw 17 = .ok (.ifCond .ne 5, 3) := by decide +kernel
theorem dX5_saw_20 : decode cX5_saw 20 = .ok (.iconst (-1), 1) := by decide +kernel
theorem dX5_saw_21 : decode cX5_saw 21 = .ok (.ireturn, 1) := by decide +kernel
theorem dX5_saw_22 : decode cX5_saw 22 = .ok (.aload_n 0, 1) := by decide +kernel
theorem dX5_saw_23 : decode cX5_saw 23 = .ok (.getfield 143, 3) := by decide +kernel
theorem dX5_saw_26 : decode cX5_saw 26 = .ok (.bipush 6, 2) := by decide +kernel
theorem dX5_saw_28 : decode cX5_saw 28 = .ok (.if_icmp .ne 6, 3) := by decide +kernel
theorem dX5_saw_31 : decode cX5_saw 31 = .ok (.bipush (-3), 2) := by decide +kernel
theorem dX5_saw_33 : decode cX5_saw 33 = .ok (.ireturn, 1) := by decide +kernel
theorem dX5_saw_34 : decode cX5_saw 34 = .ok (.aload_n 0, 1) := by decide +kernel
theorem dX5_saw_35 : decode cX5_saw 35 = .ok (.getfield 44, 3) := by decide +kernel
theorem dX5_saw_38 : decode cX5_saw 38 = .ok (.aload_n 0, 1) := by decide +kernel
theorem dX5_saw_39 : decode cX5_saw 39 = .ok (.getfield 143, 3) := by decide +kernel
theorem dX5_saw_42 : decode cX5_saw 42 = .ok (.iload_n 1, 1) := by decide +kernel
theorem dX5_saw_43 : decode cX5_saw 43 = .ok (.iastore, 1) := by decide +kernel
theorem dX5_saw_44 : decode cX5_saw 44 = .ok (.aload_n 0, 1) := by decide +kernel
theorem dX5_saw_45 : decode cX5_saw 45 = .ok (.getfield 47, 3) := by decide +kernel
theorem dX5_saw_48 : decode cX5_saw 48 = .ok (.aload_n 0, 1) := by decide +kernel
theorem dX5_saw_49 : decode cX5_saw 49 = .ok (.getfield 143, 3) := by decide +kernel
theorem dX5_saw_52 : decode cX5_saw 52 = .ok (.iload_n 2, 1) := by decide +kernel
theorem dX5_saw_53 : decode cX5_saw 53 = .ok (.iastore, 1) := by decide +kernel
theorem dX5_saw_54 : decode cX5_saw 54 = .ok (.aload_n 0, 1) := by decide +kernel
theorem dX5_saw_55 : decode cX5_saw 55 = .ok (.dup, 1) := by decide +kernel
theorem dX5_saw_56 : decode cX5_saw 56 = .ok (.getfield 143, 3) := by decide +kernel
theorem dX5_saw_59 : decode cX5_saw 59 = .ok (.iconst 1, 1) := by decide +kernel
theorem dX5_saw_60 : decode cX5_saw 60 = .ok (.iadd, 1) := by decide +kernel
theorem dX5_saw_61 : decode cX5_saw 61 = .ok (.putfield 143, 3) := by decide +kernel
theorem dX5_saw_64 : decode cX5_saw 64 = .ok (.aload_n 0, 1) := by decide +kernel
theorem dX5_saw_65 : decode cX5_saw 65 = .ok (.getfield 143, 3) := by decide +kernel
theorem dX5_saw_68 : decode cX5_saw 68 = .ok (.ireturn, 1) := by decide +kernel
theorem dX5_forget_0 : decode cX5_forget 0 = .ok (.aload_n 0, 1) := by decide +kernel
theorem dX5_forget_1 : decode cX5_forget 1 = .ok (.getfield 143, 3) := by decide +kernel
theorem dX5_forget_4 : decode cX5_forget 4 = .ok (.istore_n 1, 1) := by decide +kernel
theorem dX5_forget_5 : decode cX5_forget 5 = .ok (.aload_n 0, 1) := by decide +kernel
theorem dX5_forget_6 : decode cX5_forget 6 = .ok (.iconst 0, 1) := by decide +kernel
theorem dX5_forget_7 : decode cX5_forget 7 = .ok (.putfield 143, 3) := by decide +kernel
theorem dX5_forget_10 : decode cX5_forget 10 = .ok (.iload_n 1, 1) := by decide +kernel
theorem dX5_forget_11 : decode cX5_forget 11 = .ok (.ireturn, 1) := by decide +kernel
theorem dX5_evening_0 : decode cX5_evening 0 = .ok (.iconst 0, 1) := by decide +kernel
theorem dX5_evening_1 : decode cX5_evening 1 = .ok (.istore_n 1, 1) := by decide +kernel
theorem dX5_evening_2 : decode cX5_evening 2 = .ok (.iconst 0, 1) := by decide +kernel
theorem dX5_evening_3 : decode cX5_evening 3 = .ok (.istore_n 2, 1) := by decide +kernel
theorem dX5_evening_4 : decode cX5_evening 4 = .ok (.iload_n 2, 1) := by decide +kernel
theorem dX5_evening_5 : decode cX5_evening 5 = .ok (.aload_n 0, 1) := by decide +kernel
theorem dX5_evening_6 : decode cX5_evening 6 = .ok (.getfield 7, 3) := by decide +kernel
theorem dX5_evening_9 : decode cX5_evening 9 = .ok (.bipush 16, 2) := by decide +kernel
theorem dX5_evening_11 : decode cX5_evening 11 = .ok (.iaload, 1) := by decide +kernel
theorem dX5_evening_12 : decode cX5_evening 12 = .ok (.if_icmp .ge 77, 3) := by decide +kernel
theorem dX5_evening_15 : decode cX5_evening 15 = .ok (.iconst 1, 1) := by decide +kernel
theorem dX5_evening_16 : decode cX5_evening 16 = .ok (.istore_n 3, 1) := by decide +kernel
theorem dX5_evening_17 : decode cX5_evening 17 = .ok (.iconst 0, 1) := by decide +kernel
theorem dX5_evening_18 : decode cX5_evening 18 = .ok (.istore 4, 2) := by decide +kernel
theorem dX5_evening_20 : decode cX5_evening 20 = .ok (.iload 4, 2) := by decide +kernel
theorem dX5_evening_22 : decode cX5_evening 22 = .ok (.aload_n 0, 1) := by decide +kernel
theorem dX5_evening_23 : decode cX5_evening 23 = .ok (.getfield 143, 3) := by decide +kernel
theorem dX5_evening_26 : decode cX5_evening 26 = .ok (.if_icmp .ge 48, 3) := by decide +kernel
theorem dX5_evening_29 : decode cX5_evening 29 = .ok (.iload_n 3, 1) := by decide +kernel
theorem dX5_evening_30 : decode cX5_evening 30 = .ok (.ifCond .eq 36, 3) := by decide +kernel
theorem dX5_evening_33 : decode cX5_evening 33 = .ok (.aload_n 0, 1) := by decide +kernel
theorem dX5_evening_34 : decode cX5_evening 34 = .ok (.getfield 7, 3) := by decide +kernel
theorem dX5_evening_37 : decode cX5_evening 37 = .ok (.bipush 20, 2) := by decide +kernel
theorem dX5_evening_39 : decode cX5_evening 39 = .ok (.iconst 4, 1) := by decide +kernel
theorem dX5_evening_40 : decode cX5_evening 40 = .ok (.iload_n 2, 1) := by decide +kernel
theorem dX5_evening_41 : decode cX5_evening 41 = .ok (.imul, 1) := by decide +kernel
theorem dX5_evening_42 : decode cX5_evening 42 = .ok (.iadd, 1) := by decide +kernel
theorem dX5_evening_43 : decode cX5_evening 43 = .ok (.aload_n 0, 1) := by decide +kernel
theorem dX5_evening_44 : decode cX5_evening 44 = .ok (.getfield 44, 3) := by decide +kernel
theorem dX5_evening_47 : decode cX5_evening 47 = .ok (.iload 4, 2) := by decide +kernel
theorem dX5_evening_49 : decode cX5_evening 49 = .ok (.iaload, 1) := by decide +kernel
theorem dX5_evening_50 : decode cX5_evening 50 = .ok (.iadd, 1) := by decide +kernel
theorem dX5_evening_51 : decode cX5_evening 51 = .ok (.iaload, 1) := by decide +kernel
theorem dX5_evening_52 : decode cX5_evening 52 = .ok (.aload_n 0, 1) := by decide +kernel
theorem dX5_evening_53 : decode cX5_evening 53 = .ok (.getfield 47, 3) := by decide +kernel
theorem dX5_evening_56 : decode cX5_evening 56 = .ok (.iload 4, 2) := by decide +kernel
theorem dX5_evening_58 : decode cX5_evening 58 = .ok (.iaload, 1) := by decide +kernel
theorem dX5_evening_59 : decode cX5_evening 59 = .ok (.if_icmp .ne 7, 3) := by decide +kernel
theorem dX5_evening_62 : decode cX5_evening 62 = .ok (.iconst 1, 1) := by decide +kernel
theorem dX5_evening_63 : decode cX5_evening 63 = .ok (.goto 4, 3) := by decide +kernel
theorem dX5_evening_66 : decode cX5_evening 66 = .ok (.iconst 0, 1) := by decide +kernel
theorem dX5_evening_67 : decode cX5_evening 67 = .ok (.istore_n 3, 1) := by decide +kernel
theorem dX5_evening_68 : decode cX5_evening 68 = .ok (.iinc 4 1, 3) := by decide +kernel
theorem dX5_evening_71 : decode cX5_evening 71 = .ok (.goto (-51), 3) := by decide +kernel
theorem dX5_evening_74 : decode cX5_evening 74 = .ok (.iload_n 1, 1) := by decide +kernel
theorem dX5_evening_75 : decode cX5_evening 75 = .ok (.iload_n 3, 1) := by decide +kernel
theorem dX5_evening_76 : decode cX5_evening 76 = .ok (.invokestatic 161, 3) := by decide +kernel
theorem dX5_evening_79 : decode cX5_evening 79 = .ok (.iload_n 2, 1) := by decide +kernel
theorem dX5_evening_80 : decode cX5_evening 80 = .ok (.ishl, 1) := by decide +kernel
theorem dX5_evening_81 : decode cX5_evening 81 = .ok (.ior, 1) := by decide +kernel
theorem dX5_evening_82 : decode cX5_evening 82 = .ok (.istore_n 1, 1) := by decide +kernel
theorem dX5_evening_83 : decode cX5_evening 83 = .ok (.iinc 2 1, 3) := by decide +kernel
theorem dX5_evening_86 : decode cX5_evening 86 = .ok (.goto (-82), 3) := by decide +kernel
theorem dX5_evening_89 : decode cX5_evening 89 = .ok (.iload_n 1, 1) := by decide +kernel
theorem dX5_evening_90 : decode cX5_evening 90 = .ok (.ireturn, 1) := by decide +kernel
theorem dX5_common_0 : decode cX5_common 0 = .ok (.lload_n 0, 1) := by decide +kernel
theorem dX5_common_1 : decode cX5_common 1 = .ok (.lstore 4, 2) := by decide +kernel
theorem dX5_common_3 : decode cX5_common 3 = .ok (.lload_n 2, 1) := by decide +kernel
theorem dX5_common_4 : decode cX5_common 4 = .ok (.lstore 6, 2) := by decide +kernel
theorem dX5_common_6 : decode cX5_common 6 = .ok (.lload 6, 2) := by decide +kernel
theorem dX5_common_8 : decode cX5_common 8 = .ok (.lconst 0, 1) := by decide +kernel
theorem dX5_common_9 : decode cX5_common 9 = .ok (.lcmp, 1) := by decide +kernel
theorem dX5_common_10 : decode cX5_common 10 = .ok (.ifCond .le 21, 3) := by decide +kernel
theorem dX5_common_13 : decode cX5_common 13 = .ok (.lload 4, 2) := by decide +kernel
theorem dX5_common_15 : decode cX5_common 15 = .ok (.lload 6, 2) := by decide +kernel
theorem dX5_common_17 : decode cX5_common 17 = .ok (.lrem, 1) := by decide +kernel
theorem dX5_common_18 : decode cX5_common 18 = .ok (.lstore 8, 2) := by decide +kernel
theorem dX5_common_20 : decode cX5_common 20 = .ok (.lload 6, 2) := by decide +kernel
theorem dX5_common_22 : decode cX5_common 22 = .ok (.lstore 4, 2) := by decide +kernel
theorem dX5_common_24 : decode cX5_common 24 = .ok (.lload 8, 2) := by decide +kernel
theorem dX5_common_26 : decode cX5_common 26 = .ok (.lstore 6, 2) := by decide +kernel
theorem dX5_common_28 : decode cX5_common 28 = .ok (.goto (-22), 3) := by decide +kernel
theorem dX5_common_31 : decode cX5_common 31 = .ok (.lload 4, 2) := by decide +kernel
theorem dX5_common_33 : decode cX5_common 33 = .ok (.lreturn, 1) := by decide +kernel
theorem dX5_odds_0 : decode cX5_odds 0 = .ok (.aload_n 0, 1) := by decide +kernel
theorem dX5_odds_1 : decode cX5_odds 1 = .ok (.iload_n 1, 1) := by decide +kernel
theorem dX5_odds_2 : decode cX5_odds 2 = .ok (.invokevirtual 149, 3) := by decide +kernel
theorem dX5_odds_5 : decode cX5_odds 5 = .ok (.ifCond .eq 38, 3) := by decide +kernel
theorem dX5_odds_8 : decode cX5_odds 8 = .ok (.iload_n 2, 1) := by decide +kernel
theorem dX5_odds_9 : decode cX5_odds 9 = .ok (.i2l, 1) := by decide +kernel
theorem dX5_odds_10 : decode cX5_odds 10 = .ok (.lconst 1, 1) := by decide +kernel
theorem dX5_odds_11 : decode cX5_odds 11 = .ok (.ldc2_w 224, 3) := by decide +kernel
theorem dX5_odds_14 : decode cX5_odds 14 = .ok (.invokestatic 59, 3) := by decide +kernel
theorem dX5_odds_17 : decode cX5_odds 17 = .ok (.ifCond .eq 26, 3) := by decide +kernel
theorem dX5_odds_20 : decode cX5_odds 20 = .ok (.iload_n 3, 1) := by decide +kernel
theorem dX5_odds_21 : decode cX5_odds 21 = .ok (.i2l, 1) := by decide +kernel
theorem dX5_odds_22 : decode cX5_odds 22 = .ok (.lconst 0, 1) := by decide +kernel
theorem dX5_odds_23 : decode cX5_odds 23 = .ok (.ldc2_w 226, 3) := by decide +kernel
theorem dX5_odds_26 : decode cX5_odds 26 = .ok (.invokestatic 59, 3) := by decide +kernel
theorem dX5_odds_29 : decode cX5_odds 29 = .ok (.ifCond .eq 14, 3) := by decide +kernel
theorem dX5_odds_32 : decode cX5_odds 32 = .ok (.iload 4, 2) := by decide +kernel
theorem dX5_odds_34 : decode cX5_odds 34 = .ok (.i2l, 1) := by decide +kernel
theorem dX5_odds_35 : decode cX5_odds 35 = .ok (.lconst 0, 1) := by decide +kernel
theorem dX5_odds_36 : decode cX5_odds 36 = .ok (.lconst 1, 1) := by decide +kernel
theorem dX5_odds_37 : decode cX5_odds 37 = .ok (.invokestatic 59, 3) := by decide +kernel
theorem dX5_odds_40 : decode cX5_odds 40 = .ok (.ifCond .ne 7, 3) := by decide +kernel
theorem dX5_odds_43 : decode cX5_odds 43 = .ok (.ldc2_w 228, 3) := by decide +kernel
theorem dX5_odds_46 : decode cX5_odds 46 = .ok (.lreturn, 1) := by decide +kernel
theorem dX5_odds_47 : decode cX5_odds 47 = .ok (.lconst 0, 1) := by decide +kernel
theorem dX5_odds_48 : decode cX5_odds 48 = .ok (.lstore 5, 2) := by decide +kernel
theorem dX5_odds_50 : decode cX5_odds 50 = .ok (.lconst 1, 1) := by decide +kernel
theorem dX5_odds_51 : decode cX5_odds 51 = .ok (.lstore 7, 2) := by decide +kernel
theorem dX5_odds_53 : decode cX5_odds 53 = .ok (.iconst 0, 1) := by decide +kernel
theorem dX5_odds_54 : decode cX5_odds 54 = .ok (.istore 9, 2) := by decide +kernel
theorem dX5_odds_56 : decode cX5_odds 56 = .ok (.iload 9, 2) := by decide +kernel
theorem dX5_odds_58 : decode cX5_odds 58 = .ok (.iload_n 2, 1) := by decide +kernel
theorem dX5_odds_59 : decode cX5_odds 59 = .ok (.if_icmp .ge 17, 3) := by decide +kernel
theorem dX5_odds_62 : decode cX5_odds 62 = .ok (.lload 7, 2) := by decide +kernel
theorem dX5_odds_64 : decode cX5_odds 64 = .ok (.ldc2_w 226, 3) := by decide +kernel
theorem dX5_odds_67 : decode cX5_odds 67 = .ok (.lmul, 1) := by decide +kernel
theorem dX5_odds_68 : decode cX5_odds 68 = .ok (.lstore 7, 2) := by decide +kernel
theorem dX5_odds_70 : decode cX5_odds 70 = .ok (.iinc 9 1, 3) := by decide +kernel
theorem dX5_odds_73 : decode cX5_odds 73 = .ok (.goto (-17), 3) := by decide +kernel
theorem dX5_odds_76 : decode cX5_odds 76 = .ok (.iconst 0, 1) := by decide +kernel
theorem dX5_odds_77 : decode cX5_odds 77 = .ok (.istore 9, 2) := by decide +kernel
theorem dX5_odds_79 : decode cX5_odds 79 = .ok (.iload 9, 2) := by decide +kernel
theorem dX5_odds_81 : decode cX5_odds 81 = .ok (.iconst 1, 1) := by decide +kernel
theorem dX5_odds_82 : decode cX5_odds 82 = .ok (.iload_n 2, 1) := by decide +kernel
theorem dX5_odds_83 : decode cX5_odds 83 = .ok (.ishl, 1) := by decide +kernel
theorem dX5_odds_84 : decode cX5_odds 84 = .ok (.if_icmp .ge 102, 3) := by decide +kernel
theorem dX5_odds_87 : decode cX5_odds 87 = .ok (.aload_n 0, 1) := by decide +kernel
theorem dX5_odds_88 : decode cX5_odds 88 = .ok (.iconst 0, 1) := by decide +kernel
theorem dX5_odds_89 : decode cX5_odds 89 = .ok (.bipush 100, 2) := by decide +kernel
theorem dX5_odds_91 : decode cX5_odds 91 = .ok (.invokevirtual 172, 3) := by decide +kernel
theorem dX5_odds_94 : decode cX5_odds 94 = .ok (.aload_n 0, 1) := by decide +kernel
theorem dX5_odds_95 : decode cX5_odds 95 = .ok (.bipush 100, 2) := by decide +kernel
theorem dX5_odds_97 : decode cX5_odds 97 = .ok (.iload_n 1, 1) := by decide +kernel
theorem dX5_odds_98 : decode cX5_odds 98 = .ok (.bipush 7, 2) := by decide +kernel
theorem dX5_odds_100 : decode cX5_odds 100 = .ok (.invokevirtual 203, 3) := by decide +kernel
theorem dX5_odds_103 : decode cX5_odds 103 = .ok (.lconst 1, 1) := by decide +kernel
theorem dX5_odds_104 : decode cX5_odds 104 = .ok (.lstore 10, 2) := by decide +kernel
theorem dX5_odds_106 : decode cX5_odds 106 = .ok (.iconst 0, 1) := by decide +kernel
theorem dX5_odds_107 : decode cX5_odds 107 = .ok (.istore 12, 2) := by decide +kernel
theorem dX5_odds_109 : decode cX5_odds 109 = .ok (.iload 12, 2) := by decide +kernel
theorem dX5_odds_111 : decode cX5_odds 111 = .ok (.iload_n 2, 1) := by decide +kernel
theorem dX5_odds_112 : decode cX5_odds 112 = .ok (.if_icmp .ge 47, 3) := by decide +kernel
theorem dX5_odds_115 : decode cX5_odds 115 = .ok (.aload_n 0, 1) := by decide +kernel
theorem dX5_odds_116 : decode cX5_odds 116 = .ok (.bipush 100, 2) := by decide +kernel
theorem dX5_odds_118 : decode cX5_odds 118 = .ok (.iload 9, 2) := by decide +kernel
theorem dX5_odds_120 : decode cX5_odds 120 = .ok (.iload 12, 2) := by decide +kernel
theorem dX5_odds_122 : decode cX5_odds 122 = .ok (.invokestatic 118, 3) := by decide +kernel
theorem dX5_odds_125 : decode cX5_odds 125 = .ok (.invokevirtual 213, 3) := by decide +kernel
theorem dX5_odds_128 : decode cX5_odds 128 = .ok (.lload 10, 2) := by decide +kernel
theorem dX5_odds_130 : decode cX5_odds 130 = .ok (.iload 9, 2) := by decide +kernel
theorem dX5_odds_132 : decode cX5_odds 132 = .ok (.iload 12, 2) := by decide +kernel
theorem dX5_odds_134 : decode cX5_odds 134 = .ok (.invokestatic 118, 3) := by decide +kernel
theorem dX5_odds_137 : decode cX5_odds 137 = .ok (.ifCond .eq 8, 3) := by decide +kernel
theorem dX5_odds_140 : decode cX5_odds 140 = .ok (.iload_n 3, 1) := by decide +kernel
theorem dX5_odds_141 : decode cX5_odds 141 = .ok (.i2l, 1) := by decide +kernel
theorem dX5_odds_142 : decode cX5_odds 142 = .ok (.goto 8, 3) := by decide +kernel
theorem dX5_odds_145 : decode cX5_odds 145 = .ok (.bipush 10, 2) := by decide +kernel
theorem dX5_odds_147 : decode cX5_odds 147 = .ok (.iload_n 3, 1) := by decide +kernel
theorem dX5_odds_148 : decode cX5_odds 148 = .ok (.isub, 1) := by decide +kernel
theorem dX5_odds_149 : decode cX5_odds 149 = .ok (.i2l, 1) := by decide +kernel
theorem dX5_odds_150 : decode cX5_odds 150 = .ok (.lmul, 1) := by decide +kernel
theorem dX5_odds_151 : decode cX5_odds 151 = .ok (.lstore 10, 2) := by decide +kernel
theorem dX5_odds_153 : decode cX5_odds 153 = .ok (.iinc 12 1, 3) := by decide +kernel
theorem dX5_odds_156 : decode cX5_odds 156 = .ok (.goto (-47), 3) := by decide +kernel
theorem dX5_odds_159 : decode cX5_odds 159 = .ok (.lload 5, 2) := by decide +kernel
theorem dX5_odds_161 : decode cX5_odds 161 = .ok (.aload_n 0, 1) := by decide +kernel
theorem dX5_odds_162 : decode cX5_odds 162 = .ok (.bipush 100, 2) := by decide +kernel
theorem dX5_odds_164 : decode cX5_odds 164 = .ok (.iload_n 1, 1) := by decide +kernel
theorem dX5_odds_165 : decode cX5_odds 165 = .ok (.invokevirtual 158, 3) := by decide +kernel
theorem dX5_odds_168 : decode cX5_odds 168 = .ok (.ifCond .eq 8, 3) := by decide +kernel
theorem dX5_odds_171 : decode cX5_odds 171 = .ok (.lload 10, 2) := by decide +kernel
theorem dX5_odds_173 : decode cX5_odds 173 = .ok (.goto 4, 3) := by decide +kernel
theorem dX5_odds_176 : decode cX5_odds 176 = .ok (.lconst 0, 1) := by decide +kernel
theorem dX5_odds_177 : decode cX5_odds 177 = .ok (.ladd, 1) := by decide +kernel
theorem dX5_odds_178 : decode cX5_odds 178 = .ok (.lstore 5, 2) := by decide +kernel
theorem dX5_odds_180 : decode cX5_odds 180 = .ok (.iinc 9 1, 3) := by decide +kernel
theorem dX5_odds_183 : decode cX5_odds 183 = .ok (.goto (-104), 3) := by decide +kernel
theorem dX5_odds_186 : decode cX5_odds 186 = .ok (.lload 7, 2) := by decide +kernel
theorem dX5_odds_188 : decode cX5_odds 188 = .ok (.lload 5, 2) := by decide +kernel
theorem dX5_odds_190 : decode cX5_odds 190 = .ok (.invokestatic 230, 3) := by decide +kernel
theorem dX5_odds_193 : decode cX5_odds 193 = .ok (.lstore 9, 2) := by decide +kernel
theorem dX5_odds_195 : decode cX5_odds 195 = .ok (.iload 4, 2) := by decide +kernel
theorem dX5_odds_197 : decode cX5_odds 197 = .ok (.ifCond .ne 11, 3) := by decide +kernel
theorem dX5_odds_200 : decode cX5_odds 200 = .ok (.lload 5, 2) := by decide +kernel
theorem dX5_odds_202 : decode cX5_odds 202 = .ok (.lload 9, 2) := by decide +kernel
theorem dX5_odds_204 : decode cX5_odds 204 = .ok (.ldiv, 1) := by decide +kernel
theorem dX5_odds_205 : decode cX5_odds 205 = .ok (.goto 8, 3) := by decide +kernel
theorem dX5_odds_208 : decode cX5_odds 208 = .ok (.lload 7, 2) := by decide +kernel
theorem dX5_odds_210 : decode cX5_odds 210 = .ok (.lload 9, 2) := by decide +kernel
theorem dX5_odds_212 : decode cX5_odds 212 = .ok (.ldiv, 1) := by decide +kernel
theorem dX5_odds_213 : decode cX5_odds 213 = .ok (.lreturn, 1) := by decide +kernel
theorem dX5_wear_0 : decode cX5_wear 0 = .ok (.aload_n 0, 1) := by decide +kernel
theorem dX5_wear_1 : decode cX5_wear 1 = .ok (.iload_n 1, 1) := by decide +kernel
theorem dX5_wear_2 : decode cX5_wear 2 = .ok (.invokevirtual 149, 3) := by decide +kernel
theorem dX5_wear_5 : decode cX5_wear 5 = .ok (.ifCond .eq 15, 3) := by decide +kernel
theorem dX5_wear_8 : decode cX5_wear 8 = .ok (.iload_n 2, 1) := by decide +kernel
theorem dX5_wear_9 : decode cX5_wear 9 = .ok (.i2l, 1) := by decide +kernel
theorem dX5_wear_10 : decode cX5_wear 10 = .ok (.lconst 1, 1) := by decide +kernel
theorem dX5_wear_11 : decode cX5_wear 11 = .ok (.ldc2_w 222, 3) := by decide +kernel
theorem dX5_wear_14 : decode cX5_wear 14 = .ok (.invokestatic 59, 3) := by decide +kernel
theorem dX5_wear_17 : decode cX5_wear 17 = .ok (.ifCond .ne 5, 3) := by decide +kernel
theorem dX5_wear_20 : decode cX5_wear 20 = .ok (.iconst (-1), 1) := by decide +kernel
theorem dX5_wear_21 : decode cX5_wear 21 = .ok (.ireturn, 1) := by decide +kernel
theorem dX5_wear_22 : decode cX5_wear 22 = .ok (.iconst 0, 1) := by decide +kernel
theorem dX5_wear_23 : decode cX5_wear 23 = .ok (.istore_n 3, 1) := by decide +kernel
theorem dX5_wear_24 : decode cX5_wear 24 = .ok (.aload_n 0, 1) := by decide +kernel
theorem dX5_wear_25 : decode cX5_wear 25 = .ok (.iload_n 1, 1) := by decide +kernel
theorem dX5_wear_26 : decode cX5_wear 26 = .ok (.aload_n 0, 1) := by decide +kernel
theorem dX5_wear_27 : decode cX5_wear 27 = .ok (.getfield 7, 3) := by decide +kernel
theorem dX5_wear_30 : decode cX5_wear 30 = .ok (.iconst 4, 1) := by decide +kernel
theorem dX5_wear_31 : decode cX5_wear 31 = .ok (.iload_n 1, 1) := by decide +kernel
theorem dX5_wear_32 : decode cX5_wear 32 = .ok (.iadd, 1) := by decide +kernel
theorem dX5_wear_33 : decode cX5_wear 33 = .ok (.iaload, 1) := by decide +kernel
theorem dX5_wear_34 : decode cX5_wear 34 = .ok (.iload_n 3, 1) := by decide +kernel
theorem dX5_wear_35 : decode cX5_wear 35 = .ok (.iload_n 2, 1) := by decide +kernel
theorem dX5_wear_36 : decode cX5_wear 36 = .ok (.imul, 1) := by decide +kernel
theorem dX5_wear_37 : decode cX5_wear 37 = .ok (.iadd, 1) := by decide +kernel
theorem dX5_wear_38 : decode cX5_wear 38 = .ok (.invokevirtual 152, 3) := by decide +kernel
theorem dX5_wear_41 : decode cX5_wear 41 = .ok (.iconst 1, 1) := by decide +kernel
theorem dX5_wear_42 : decode cX5_wear 42 = .ok (.if_icmp .le 9, 3) := by decide +kernel
theorem dX5_wear_45 : decode cX5_wear 45 = .ok (.iinc 3 1, 3) := by decide +kernel
theorem dX5_wear_48 : decode cX5_wear 48 = .ok (.goto (-24), 3) := by decide +kernel
theorem dX5_wear_51 : decode cX5_wear 51 = .ok (.iload_n 3, 1) := by decide +kernel
theorem dX5_wear_52 : decode cX5_wear 52 = .ok (.ireturn, 1) := by decide +kernel
theorem dX5_stoneRate_0 : decode cX5_stoneRate 0 = .ok (.aload_n 0, 1) := by decide +kernel
theorem dX5_stoneRate_1 : decode cX5_stoneRate 1 = .ok (.dup, 1) := by decide +kernel
theorem dX5_stoneRate_2 : decode cX5_stoneRate 2 = .ok (.getfield 234, 3) := by decide +kernel
theorem dX5_stoneRate_5 : decode cX5_stoneRate 5 = .ok (.lconst 1, 1) := by decide +kernel
theorem dX5_stoneRate_6 : decode cX5_stoneRate 6 = .ok (.ladd, 1) := by decide +kernel
theorem dX5_stoneRate_7 : decode cX5_stoneRate 7 = .ok (.putfield 234, 3) := by decide +kernel
theorem dX5_stoneRate_10 : decode cX5_stoneRate 10 = .ok (.aload_n 0, 1) := by decide +kernel
theorem dX5_stoneRate_11 : decode cX5_stoneRate 11 = .ok (.iconst 0, 1) := by decide +kernel
theorem dX5_stoneRate_12 : decode cX5_stoneRate 12 = .ok (.iload_n 1, 1) := by decide +kernel
theorem dX5_stoneRate_13 : decode cX5_stoneRate 13 = .ok (.invokevirtual 155, 3) := by decide +kernel
theorem dX5_stoneRate_16 : decode cX5_stoneRate 16 = .ok (.ireturn, 1) := by decide +kernel
theorem dX5_roundRate_0 : decode cX5_roundRate 0 = .ok (.aload_n 0, 1) := by decide +kernel
theorem dX5_roundRate_1 : decode cX5_roundRate 1 = .ok (.dup, 1) := by decide +kernel
theorem dX5_roundRate_2 : decode cX5_roundRate 2 = .ok (.getfield 234, 3) := by decide +kernel
theorem dX5_roundRate_5 : decode cX5_roundRate 5 = .ok (.ldc2_w 226, 3) := by decide +kernel
theorem dX5_roundRate_8 : decode cX5_roundRate 8 = .ok (.ladd, 1) := by decide +kernel
theorem dX5_roundRate_9 : decode cX5_roundRate 9 = .ok (.putfield 234, 3) := by decide +kernel
theorem dX5_roundRate_12 : decode cX5_roundRate 12 = .ok (.aload_n 0, 1) := by decide +kernel
theorem dX5_roundRate_13 : decode cX5_roundRate 13 = .ok (.iload_n 1, 1) := by decide +kernel
theorem dX5_roundRate_14 : decode cX5_roundRate 14 = .ok (.invokevirtual 238, 3) := by decide +kernel
theorem dX5_roundRate_17 : decode cX5_roundRate 17 = .ok (.aload_n 0, 1) := by decide +kernel
theorem dX5_roundRate_18 : decode cX5_roundRate 18 = .ok (.getfield 7, 3) := by decide +kernel
theorem dX5_roundRate_21 : decode cX5_roundRate 21 = .ok (.iload_n 1, 1) := by decide +kernel
theorem dX5_roundRate_22 : decode cX5_roundRate 22 = .ok (.iaload, 1) := by decide +kernel
theorem dX5_roundRate_23 : decode cX5_roundRate 23 = .ok (.iadd, 1) := by decide +kernel
theorem dX5_roundRate_24 : decode cX5_roundRate 24 = .ok (.ireturn, 1) := by decide +kernel
theorem dX5_splitRate_0 : decode cX5_splitRate 0 = .ok (.aload_n 0, 1) := by decide +kernel
theorem dX5_splitRate_1 : decode cX5_splitRate 1 = .ok (.dup, 1) := by decide +kernel
theorem dX5_splitRate_2 : decode cX5_splitRate 2 = .ok (.getfield 234, 3) := by decide +kernel
theorem dX5_splitRate_5 : decode cX5_splitRate 5 = .ok (.ldc2_w 241, 3) := by decide +kernel
theorem dX5_splitRate_8 : decode cX5_splitRate 8 = .ok (.ladd, 1) := by decide +kernel
theorem dX5_splitRate_9 : decode cX5_splitRate 9 = .ok (.putfield 234, 3) := by decide +kernel
theorem dX5_splitRate_12 : decode cX5_splitRate 12 = .ok (.aload_n 0, 1) := by decide +kernel
theorem dX5_splitRate_13 : decode cX5_splitRate 13 = .ok (.iload_n 1, 1) := by decide +kernel
theorem dX5_splitRate_14 : decode cX5_splitRate 14 = .ok (.invokevirtual 238, 3) := by decide +kernel
theorem dX5_splitRate_17 : decode cX5_splitRate 17 = .ok (.aload_n 0, 1) := by decide +kernel
theorem dX5_splitRate_18 : decode cX5_splitRate 18 = .ok (.getfield 20, 3) := by decide +kernel
theorem dX5_splitRate_21 : decode cX5_splitRate 21 = .ok (.iload_n 1, 1) := by decide +kernel
theorem dX5_splitRate_22 : decode cX5_splitRate 22 = .ok (.iaload, 1) := by decide +kernel
theorem dX5_splitRate_23 : decode cX5_splitRate 23 = .ok (.isub, 1) := by decide +kernel
theorem dX5_splitRate_24 : decode cX5_splitRate 24 = .ok (.ireturn, 1) := by decide +kernel
theorem dX5_wetRate_0 : decode cX5_wetRate 0 = .ok (.aload_n 0, 1) := by decide +kernel
theorem dX5_wetRate_1 : decode cX5_wetRate 1 = .ok (.dup, 1) := by decide +kernel
theorem dX5_wetRate_2 : decode cX5_wetRate 2 = .ok (.getfield 234, 3) := by decide +kernel
theorem dX5_wetRate_5 : decode cX5_wetRate 5 = .ok (.ldc2_w 243, 3) := by decide +kernel
theorem dX5_wetRate_8 : decode cX5_wetRate 8 = .ok (.ladd, 1) := by decide +kernel
theorem dX5_wetRate_9 : decode cX5_wetRate 9 = .ok (.putfield 234, 3) := by decide +kernel
theorem dX5_wetRate_12 : decode cX5_wetRate 12 = .ok (.iconst 2, 1) := by decide +kernel
theorem dX5_wetRate_13 : decode cX5_wetRate 13 = .ok (.aload_n 0, 1) := by decide +kernel
theorem dX5_wetRate_14 : decode cX5_wetRate 14 = .ok (.iload_n 1, 1) := by decide +kernel
theorem dX5_wetRate_15 : decode cX5_wetRate 15 = .ok (.invokevirtual 245, 3) := by decide +kernel
theorem dX5_wetRate_18 : decode cX5_wetRate 18 = .ok (.imul, 1) := by decide +kernel
theorem dX5_wetRate_19 : decode cX5_wetRate 19 = .ok (.ireturn, 1) := by decide +kernel
theorem dX5_lentRate_0 : decode cX5_lentRate 0 = .ok (.aload_n 0, 1) := by decide +kernel
theorem dX5_lentRate_1 : decode cX5_lentRate 1 = .ok (.dup, 1) := by decide +kernel
theorem dX5_lentRate_2 : decode cX5_lentRate 2 = .ok (.getfield 234, 3) := by decide +kernel
theorem dX5_lentRate_5 : decode cX5_lentRate 5 = .ok (.ldc2_w 248, 3) := by decide +kernel
theorem dX5_lentRate_8 : decode cX5_lentRate 8 = .ok (.ladd, 1) := by decide +kernel
theorem dX5_lentRate_9 : decode cX5_lentRate 9 = .ok (.putfield 234, 3) := by decide +kernel
theorem dX5_lentRate_12 : decode cX5_lentRate 12 = .ok (.aload_n 0, 1) := by decide +kernel
theorem dX5_lentRate_13 : decode cX5_lentRate 13 = .ok (.iload_n 1, 1) := by decide +kernel
theorem dX5_lentRate_14 : decode cX5_lentRate 14 = .ok (.invokevirtual 250, 3) := by decide +kernel
theorem dX5_lentRate_17 : decode cX5_lentRate 17 = .ok (.iload_n 1, 1) := by decide +kernel
theorem dX5_lentRate_18 : decode cX5_lentRate 18 = .ok (.iadd, 1) := by decide +kernel
theorem dX5_lentRate_19 : decode cX5_lentRate 19 = .ok (.ireturn, 1) := by decide +kernel
theorem dX5_hollowRate_0 : decode cX5_hollowRate 0 = .ok (.aload_n 0, 1) := by decide +kernel
theorem dX5_hollowRate_1 : decode cX5_hollowRate 1 = .ok (.dup, 1) := by decide +kernel
theorem dX5_hollowRate_2 : decode cX5_hollowRate 2 = .ok (.getfield 234, 3) := by decide +kernel
theorem dX5_hollowRate_5 : decode cX5_hollowRate 5 = .ok (.ldc2_w 253, 3) := by decide +kernel
theorem dX5_hollowRate_8 : decode cX5_hollowRate 8 = .ok (.ladd, 1) := by decide +kernel
theorem dX5_hollowRate_9 : decode cX5_hollowRate 9 = .ok (.putfield 234, 3) := by decide +kernel
theorem dX5_hollowRate_12 : decode cX5_hollowRate 12 = .ok (.iconst 0, 1) := by decide +kernel
theorem dX5_hollowRate_13 : decode cX5_hollowRate 13 = .ok (.istore_n 2, 1) := by decide +kernel
theorem dX5_hollowRate_14 : decode cX5_hollowRate 14 = .ok (.iconst 0, 1) := by decide +kernel
theorem dX5_hollowRate_15 : decode cX5_hollowRate 15 = .ok (.istore_n 3, 1) := by decide +kernel
theorem dX5_hollowRate_16 : decode cX5_hollowRate 16 = .ok (.iload_n 3, 1) := by decide +kernel
theorem dX5_hollowRate_17 : decode cX5_hollowRate 17 = .ok (.aload_n 0, 1) := by decide +kernel
theorem dX5_hollowRate_18 : decode cX5_hollowRate 18 = .ok (.getfield 137, 3) := by decide +kernel
theorem dX5_hollowRate_21 : decode cX5_hollowRate 21 = .ok (.if_icmp .ge 33, 3) := by decide +kernel
theorem dX5_hollowRate_24 : decode cX5_hollowRate 24 = .ok (.iload_n 2, 1) := by decide +kernel
theorem dX5_hollowRate_25 : decode cX5_hollowRate 25 = .ok (.aload_n 0, 1) := by decide +kernel
theorem dX5_hollowRate_26 : decode cX5_hollowRate 26 = .ok (.getfield 7, 3) := by decide +kernel
theorem dX5_hollowRate_29 : decode cX5_hollowRate 29 = .ok (.bipush 11, 2) := by decide +kernel
theorem dX5_hollowRate_31 : decode cX5_hollowRate 31 = .ok (.iload_n 3, 1) := by decide +kernel
theorem dX5_hollowRate_32 : decode cX5_hollowRate 32 = .ok (.iadd, 1) := by decide +kernel
theorem dX5_hollowRate_33 : decode cX5_hollowRate 33 = .ok (.iaload, 1) := by decide +kernel
theorem dX5_hollowRate_34 : decode cX5_hollowRate 34 = .ok (.iload_n 1, 1) := by decide +kernel
theorem dX5_hollowRate_35 : decode cX5_hollowRate 35 = .ok (.if_icmp .ne 7, 3) := by decide +kernel
theorem dX5_hollowRate_38 : decode cX5_hollowRate 38 = .ok (.iconst 1, 1) := by decide +kernel
theorem dX5_hollowRate_39 : decode cX5_hollowRate 39 = .ok (.goto 4, 3) := by decide +kernel
theorem dX5_hollowRate_42 : decode cX5_hollowRate 42 = .ok (.iconst 0, 1) := by decide +kernel
theorem dX5_hollowRate_43 : decode cX5_hollowRate 43 = .ok (.invokestatic 161, 3) := by decide +kernel
theorem dX5_hollowRate_46 : decode cX5_hollowRate 46 = .ok (.iadd, 1) := by decide +kernel
theorem dX5_hollowRate_47 : decode cX5_hollowRate 47 = .ok (.istore_n 2, 1) := by decide +kernel
theorem dX5_hollowRate_48 : decode cX5_hollowRate 48 = .ok (.iinc 3 1, 3) := by decide +kernel
theorem dX5_hollowRate_51 : decode cX5_hollowRate 51 = .ok (.goto (-35), 3) := by decide +kernel
theorem dX5_hollowRate_54 : decode cX5_hollowRate 54 = .ok (.aload_n 0, 1) := by decide +kernel
theorem dX5_hollowRate_55 : decode cX5_hollowRate 55 = .ok (.iload_n 1, 1) := by decide +kernel
theorem dX5_hollowRate_56 : decode cX5_hollowRate 56 = .ok (.invokevirtual 238, 3) := by decide +kernel
theorem dX5_hollowRate_59 : decode cX5_hollowRate 59 = .ok (.iload_n 2, 1) := by decide +kernel
theorem dX5_hollowRate_60 : decode cX5_hollowRate 60 = .ok (.iadd, 1) := by decide +kernel
theorem dX5_hollowRate_61 : decode cX5_hollowRate 61 = .ok (.ireturn, 1) := by decide +kernel
theorem dX5_rate_0 : decode cX5_rate 0 = .ok (.iload_n 1, 1) := by decide +kernel
theorem dX5_rate_1 : decode cX5_rate 1 = .ok (.i2l, 1) := by decide +kernel
theorem dX5_rate_2 : decode cX5_rate 2 = .ok (.lconst 0, 1) := by decide +kernel
theorem dX5_rate_3 : decode cX5_rate 3 = .ok (.ldc2_w 255, 3) := by decide +kernel
theorem dX5_rate_6 : decode cX5_rate 6 = .ok (.invokestatic 59, 3) := by decide +kernel
theorem dX5_rate_9 : decode cX5_rate 9 = .ok (.ifCond .eq 11, 3) := by decide +kernel
theorem dX5_rate_12 : decode cX5_rate 12 = .ok (.aload_n 0, 1) := by decide +kernel
theorem dX5_rate_13 : decode cX5_rate 13 = .ok (.iload_n 2, 1) := by decide +kernel
theorem dX5_rate_14 : decode cX5_rate 14 = .ok (.invokevirtual 149, 3) := by decide +kernel
theorem dX5_rate_17 : decode cX5_rate 17 = .ok (.ifCond .ne 7, 3) := by decide +kernel
theorem dX5_rate_20 : decode cX5_rate 20 = .ok (.ldc_w 257, 3) := by decide +kernel
theorem dX5_rate_23 : decode cX5_rate 23 = .ok (.ireturn, 1) := by decide +kernel
theorem dX5_rate_24 : decode cX5_rate 24 = .ok (.iload_n 1, 1) := by decide +kernel
theorem dX5_rate_25 : decode cX5_rate 25 = .ok (.tableswitch 65 0 4 #[35, 41, 47, 53, 59], 35) := by decide +kernel
theorem dX5_rate_60 : decode cX5_rate 60 = .ok (.aload_n 0, 1) := by decide +kernel
theorem dX5_rate_61 : decode cX5_rate 61 = .ok (.iload_n 2, 1) := by decide +kernel
theorem dX5_rate_62 : decode cX5_rate 62 = .ok (.invokevirtual 238, 3) := by decide +kernel
theorem dX5_rate_65 : decode cX5_rate 65 = .ok (.ireturn, 1) := by decide +kernel
theorem dX5_rate_66 : decode cX5_rate 66 = .ok (.aload_n 0, 1) := by decide +kernel
theorem dX5_rate_67 : decode cX5_rate 67 = .ok (.iload_n 2, 1) := by decide +kernel
theorem dX5_rate_68 : decode cX5_rate 68 = .ok (.invokevirtual 245, 3) := by decide +kernel
theorem dX5_rate_71 : decode cX5_rate 71 = .ok (.ireturn, 1) := by decide +kernel
theorem dX5_rate_72 : decode cX5_rate 72 = .ok (.aload_n 0, 1) := by decide +kernel
theorem dX5_rate_73 : decode cX5_rate 73 = .ok (.iload_n 2, 1) := by decide +kernel
theorem dX5_rate_74 : decode cX5_rate 74 = .ok (.invokevirtual 250, 3) := by decide +kernel
theorem dX5_rate_77 : decode cX5_rate 77 = .ok (.ireturn, 1) := by decide +kernel
theorem dX5_rate_78 : decode cX5_rate 78 = .ok (.aload_n 0, 1) := by decide +kernel
theorem dX5_rate_79 : decode cX5_rate 79 = .ok (.iload_n 2, 1) := by decide +kernel
theorem dX5_rate_80 : decode cX5_rate 80 = .ok (.invokevirtual 258, 3) := by decide +kernel
theorem dX5_rate_83 : decode cX5_rate 83 = .ok (.ireturn, 1) := by decide +kernel
theorem dX5_rate_84 : decode cX5_rate 84 = .ok (.aload_n 0, 1) := by decide +kernel
theorem dX5_rate_85 : decode cX5_rate 85 = .ok (.iload_n 2, 1) := by decide +kernel
theorem dX5_rate_86 : decode cX5_rate 86 = .ok (.invokevirtual 261, 3) := by decide +kernel
theorem dX5_rate_89 : decode cX5_rate 89 = .ok (.ireturn, 1) := by decide +kernel
theorem dX5_rate_90 : decode cX5_rate 90 = .ok (.aload_n 0, 1) := by decide +kernel
theorem dX5_rate_91 : decode cX5_rate 91 = .ok (.iload_n 2, 1) := by decide +kernel
theorem dX5_rate_92 : decode cX5_rate 92 = .ok (.invokevirtual 264, 3) := by decide +kernel
theorem dX5_rate_95 : decode cX5_rate 95 = .ok (.ireturn, 1) := by decide +kernel
theorem dX5_keep_0 : decode cX5_keep 0 = .ok (.iload_n 1, 1) := by decide +kernel
theorem dX5_keep_1 : decode cX5_keep 1 = .ok (.i2l, 1) := by decide +kernel
theorem dX5_keep_2 : decode cX5_keep 2 = .ok (.lconst 0, 1) := by decide +kernel
theorem dX5_keep_3 : decode cX5_keep 3 = .ok (.lconst 1, 1) := by decide +kernel
theorem dX5_keep_4 : decode cX5_keep 4 = .ok (.invokestatic 59, 3) := by decide +kernel
theorem dX5_keep_7 : decode cX5_keep 7 = .ok (.ifCond .ne 5, 3) := by decide +kernel
theorem dX5_keep_10 : decode cX5_keep 10 = .ok (.iconst (-1), 1) := by decide +kernel
theorem dX5_keep_11 : decode cX5_keep 11 = .ok (.ireturn, 1) := by decide +kernel
theorem dX5_keep_12 : decode cX5_keep 12 = .ok (.aload_n 0, 1) := by decide +kernel
theorem dX5_keep_13 : decode cX5_keep 13 = .ok (.iconst 0, 1) := by decide +kernel
theorem dX5_keep_14 : decode cX5_keep 14 = .ok (.sipush 200, 3) := by decide +kernel
theorem dX5_keep_17 : decode cX5_keep 17 = .ok (.bipush 100, 2) := by decide +kernel
theorem dX5_keep_19 : decode cX5_keep 19 = .ok (.iload_n 1, 1) := by decide +kernel
theorem dX5_keep_20 : decode cX5_keep 20 = .ok (.imul, 1) := by decide +kernel
theorem dX5_keep_21 : decode cX5_keep 21 = .ok (.iadd, 1) := by decide +kernel
theorem dX5_keep_22 : decode cX5_keep 22 = .ok (.invokevirtual 172, 3) := by decide +kernel
theorem dX5_keep_25 : decode cX5_keep 25 = .ok (.aload_n 0, 1) := by decide +kernel
theorem dX5_keep_26 : decode cX5_keep 26 = .ok (.getfield 13, 3) := by decide +kernel
theorem dX5_keep_29 : decode cX5_keep 29 = .ok (.iload_n 1, 1) := by decide +kernel
theorem dX5_keep_30 : decode cX5_keep 30 = .ok (.iconst 1, 1) := by decide +kernel
theorem dX5_keep_31 : decode cX5_keep 31 = .ok (.bastore, 1) := by decide +kernel
theorem dX5_keep_32 : decode cX5_keep 32 = .ok (.aload_n 0, 1) := by decide +kernel
theorem dX5_keep_33 : decode cX5_keep 33 = .ok (.getfield 7, 3) := by decide +kernel
theorem dX5_keep_36 : decode cX5_keep 36 = .ok (.bipush 14, 2) := by decide +kernel
theorem dX5_keep_38 : decode cX5_keep 38 = .ok (.iaload, 1) := by decide +kernel
theorem dX5_keep_39 : decode cX5_keep 39 = .ok (.ireturn, 1) := by decide +kernel
theorem dX5_back_0 : decode cX5_back 0 = .ok (.iload_n 1, 1) := by decide +kernel
theorem dX5_back_1 : decode cX5_back 1 = .ok (.i2l, 1) := by decide +kernel
theorem dX5_back_2 : decode cX5_back 2 = .ok (.lconst 0, 1) := by decide +kernel
theorem dX5_back_3 : decode cX5_back 3 = .ok (.lconst 1, 1) := by decide +kernel
theorem dX5_back_4 : decode cX5_back 4 = .ok (.invokestatic 59, 3) := by decide +kernel
theorem dX5_back_7 : decode cX5_back 7 = .ok (.ifCond .ne 5, 3) := by decide +kernel
theorem dX5_back_10 : decode cX5_back 10 = .ok (.iconst (-1), 1) := by decide +kernel
theorem dX5_back_11 : decode cX5_back 11 = .ok (.ireturn, 1) := by decide +kernel
theorem dX5_back_12 : decode cX5_back 12 = .ok (.aload_n 0, 1) := by decide +kernel
theorem dX5_back_13 : decode cX5_back 13 = .ok (.getfield 13, 3) := by decide +kernel
theorem dX5_back_16 : decode cX5_back 16 = .ok (.iload_n 1, 1) := by decide +kernel
theorem dX5_back_17 : decode cX5_back 17 = .ok (.baload, 1) := by decide +kernel
theorem dX5_back_18 : decode cX5_back 18 = .ok (.ifCond .ne 6, 3) := by decide +kernel
theorem dX5_back_21 : decode cX5_back 21 = .ok (.bipush (-2), 2) := by decide +kernel
theorem dX5_back_23 : decode cX5_back 23 = .ok (.ireturn, 1) := by decide +kernel
theorem dX5_back_24 : decode cX5_back 24 = .ok (.aload_n 0, 1) := by decide +kernel
theorem dX5_back_25 : decode cX5_back 25 = .ok (.sipush 200, 3) := by decide +kernel
theorem dX5_back_28 : decode cX5_back 28 = .ok (.bipush 100, 2) := by decide +kernel
theorem dX5_back_30 : decode cX5_back 30 = .ok (.iload_n 1, 1) := by decide +kernel
theorem dX5_back_31 : decode cX5_back 31 = .ok (.imul, 1) := by decide +kernel
theorem dX5_back_32 : decode cX5_back 32 = .ok (.iadd, 1) := by decide +kernel
theorem dX5_back_33 : decode cX5_back 33 = .ok (.iconst 0, 1) := by decide +kernel
theorem dX5_back_34 : decode cX5_back 34 = .ok (.invokevirtual 172, 3) := by decide +kernel
theorem dX5_back_37 : decode cX5_back 37 = .ok (.aload_n 0, 1) := by decide +kernel
theorem dX5_back_38 : decode cX5_back 38 = .ok (.iconst 0, 1) := by decide +kernel
theorem dX5_back_39 : decode cX5_back 39 = .ok (.putfield 146, 3) := by decide +kernel
theorem dX5_back_42 : decode cX5_back 42 = .ok (.aload_n 0, 1) := by decide +kernel
theorem dX5_back_43 : decode cX5_back 43 = .ok (.getfield 7, 3) := by decide +kernel
theorem dX5_back_46 : decode cX5_back 46 = .ok (.bipush 14, 2) := by decide +kernel
theorem dX5_back_48 : decode cX5_back 48 = .ok (.iaload, 1) := by decide +kernel
theorem dX5_back_49 : decode cX5_back 49 = .ok (.ireturn, 1) := by decide +kernel
theorem dX5_count_0 : decode cX5_count 0 = .ok (.iload_n 1, 1) := by decide +kernel
theorem dX5_count_1 : decode cX5_count 1 = .ok (.tableswitch 78 0 6 #[43, 48, 53, 58, 63, 68, 73], 43) := by decide +kernel
theorem dX5_count_44 : decode cX5_count 44 = .ok (.aload_n 0, 1) := by decide +kernel
theorem dX5_count_45 : decode cX5_count 45 = .ok (.getfield 131, 3) := by decide +kernel
theorem dX5_count_48 : decode cX5_count 48 = .ok (.ireturn, 1) := by decide +kernel
theorem dX5_count_49 : decode cX5_count 49 = .ok (.aload_n 0, 1) := by decide +kernel
theorem dX5_count_50 : decode cX5_count 50 = .ok (.getfield 134, 3) := by decide +kernel
theorem dX5_count_53 : decode cX5_count 53 = .ok (.ireturn, 1) := by decide +kernel
theorem dX5_count_54 : decode cX5_count 54 = .ok (.aload_n 0, 1) := by decide +kernel
theorem dX5_count_55 : decode cX5_count 55 = .ok (.getfield 137, 3) := by decide +kernel
theorem dX5_count_58 : decode cX5_count 58 = .ok (.ireturn, 1) := by decide +kernel
theorem dX5_count_59 : decode cX5_count 59 = .ok (.aload_n 0, 1) := by decide +kernel
theorem dX5_count_60 : decode cX5_count 60 = .ok (.getfield 50, 3) := by decide +kernel
theorem dX5_count_63 : decode cX5_count 63 = .ok (.ireturn, 1) := by decide +kernel
theorem dX5_count_64 : decode cX5_count 64 = .ok (.aload_n 0, 1) := by decide +kernel
theorem dX5_count_65 : decode cX5_count 65 = .ok (.getfield 140, 3) := by decide +kernel
theorem dX5_count_68 : decode cX5_count 68 = .ok (.ireturn, 1) := by decide +kernel
theorem dX5_count_69 : decode cX5_count 69 = .ok (.aload_n 0, 1) := by decide +kernel
theorem dX5_count_70 : decode cX5_count 70 = .ok (.getfield 143, 3) := by decide +kernel
theorem dX5_count_73 : decode cX5_count 73 = .ok (.ireturn, 1) := by decide +kernel
theorem dX5_count_74 : decode cX5_count 74 = .ok (.aload_n 0, 1) := by decide +kernel
theorem dX5_count_75 : decode cX5_count 75 = .ok (.getfield 63, 3) := by decide +kernel
theorem dX5_count_78 : decode cX5_count 78 = .ok (.ireturn, 1) := by decide +kernel
theorem dX5_count_79 : decode cX5_count 79 = .ok (.iconst (-1), 1) := by decide +kernel
theorem dX5_count_80 : decode cX5_count 80 = .ok (.ireturn, 1) := by decide +kernel
theorem dX5_trace_0 : decode cX5_trace 0 = .ok (.aload_n 0, 1) := by decide +kernel
theorem dX5_trace_1 : decode cX5_trace 1 = .ok (.getfield 234, 3) := by decide +kernel
theorem dX5_trace_4 : decode cX5_trace 4 = .ok (.lreturn, 1) := by decide +kernel
