theorem dX0_init_0 : decode cX0_init 0 = .ok (.aload_n 0, 1) := by decide +kernel
theorem dX0_init_1 : decode cX0_init 1 = .ok (.invokespecial 3, 3) := by decide +kernel
theorem dX0_init_4 : decode cX0_init 4 = .ok (.aload_n 0, 1) := by decide +kernel
theorem dX0_init_5 : decode cX0_init 5 = .ok (.bipush 7, 2) := by decide +kernel
theorem dX0_init_7 : decode cX0_init 7 = .ok (.iconst 3, 1) := by decide +kernel
theorem dX0_init_8 : decode cX0_init 8 = .ok (.multianewarray 9 2, 4) := by decide +kernel
theorem dX0_init_12 : decode cX0_init 12 = .ok (.putfield 11, 3) := by decide +kernel
theorem dX0_init_15 : decode cX0_init 15 = .ok (.aload_n 0, 1) := by decide +kernel
theorem dX0_init_16 : decode cX0_init 16 = .ok (.bipush 6, 2) := by decide +kernel
theorem dX0_init_18 : decode cX0_init 18 = .ok (.newarray .int, 2) := by decide +kernel
theorem dX0_init_20 : decode cX0_init 20 = .ok (.putfield 16, 3) := by decide +kernel
theorem dX0_init_23 : decode cX0_init 23 = .ok (.aload_n 0, 1) := by decide +kernel
theorem dX0_init_24 : decode cX0_init 24 = .ok (.bipush 6, 2) := by decide +kernel
theorem dX0_init_26 : decode cX0_init 26 = .ok (.newarray .int, 2) := by decide +kernel
theorem dX0_init_28 : decode cX0_init 28 = .ok (.putfield 20, 3) := by decide +kernel
theorem dX0_init_31 : decode cX0_init 31 = .ok (.return_, 1) := by decide +kernel
theorem dX0_search_0 : decode cX0_search 0 = .ok (.aload_n 0, 1) := by decide +kernel
theorem dX0_search_1 : decode cX0_search 1 = .ok (.aload_n 2, 1) := by decide +kernel
theorem dX0_search_2 : decode cX0_search 2 = .ok (.aload_n 1, 1) := by decide +kernel
theorem dX0_search_3 : decode cX0_search 3 = .ok (.iload_n 3, 1) := by decide +kernel
theorem dX0_search_4 : decode cX0_search 4 = .ok (.invokevirtual 23, 3) := by decide +kernel
theorem dX0_search_7 : decode cX0_search 7 = .ok (.putfield 29, 3) := by decide +kernel
theorem dX0_search_10 : decode cX0_search 10 = .ok (.aload_n 0, 1) := by decide +kernel
theorem dX0_search_11 : decode cX0_search 11 = .ok (.aload_n 2, 1) := by decide +kernel
theorem dX0_search_12 : decode cX0_search 12 = .ok (.aload_n 1, 1) := by decide +kernel
theorem dX0_search_13 : decode cX0_search 13 = .ok (.invokevirtual 33, 3) := by decide +kernel
theorem dX0_search_16 : decode cX0_search 16 = .ok (.bipush 6, 2) := by decide +kernel
theorem dX0_search_18 : decode cX0_search 18 = .ok (.invokestatic 37, 3) := by decide +kernel
theorem dX0_search_21 : decode cX0_search 21 = .ok (.putfield 43, 3) := by decide +kernel
theorem dX0_search_24 : decode cX0_search 24 = .ok (.aload_n 0, 1) := by decide +kernel
theorem dX0_search_25 : decode cX0_search 25 = .ok (.aload_n 2, 1) := by decide +kernel
theorem dX0_search_26 : decode cX0_search 26 = .ok (.aload_n 1, 1) := by decide +kernel
theorem dX0_search_27 : decode cX0_search 27 = .ok (.iload_n 3, 1) := by decide +kernel
theorem dX0_search_28 : decode cX0_search 28 = .ok (.invokevirtual 46, 3) := by decide +kernel
theorem dX0_search_31 : decode cX0_search 31 = .ok (.putfield 49, 3) := by decide +kernel
theorem dX0_search_34 : decode cX0_search 34 = .ok (.aload_n 2, 1) := by decide +kernel
theorem dX0_search_35 : decode cX0_search 35 = .ok (.getfield 52, 3) := by decide +kernel
theorem dX0_search_38 : decode cX0_search 38 = .ok (.iconst 0, 1) := by decide +kernel
theorem dX0_search_39 : decode cX0_search 39 = .ok (.aload_n 0, 1) := by decide +kernel
theorem dX0_search_40 : decode cX0_search 40 = .ok (.getfield 11, 3) := by decide +kernel
theorem dX0_search_43 : decode cX0_search 43 = .ok (.iconst 0, 1) := by decide +kernel
theorem dX0_search_44 : decode cX0_search 44 = .ok (.aaload, 1) := by decide +kernel
theorem dX0_search_45 : decode cX0_search 45 = .ok (.iconst 0, 1) := by decide +kernel
theorem dX0_search_46 : decode cX0_search 46 = .ok (.iconst 3, 1) := by decide +kernel
theorem dX0_search_47 : decode cX0_search 47 = .ok (.invokestatic 54, 3) := by decide +kernel
theorem dX0_search_50 : decode cX0_search 50 = .ok (.aload_n 0, 1) := by decide +kernel
theorem dX0_search_51 : decode cX0_search 51 = .ok (.iconst 0, 1) := by decide +kernel
theorem dX0_search_52 : decode cX0_search 52 = .ok (.iconst 0, 1) := by decide +kernel
theorem dX0_search_53 : decode cX0_search 53 = .ok (.invokevirtual 60, 3) := by decide +kernel
theorem dX0_search_56 : decode cX0_search 56 = .ok (.aload_n 0, 1) := by decide +kernel
theorem dX0_search_57 : decode cX0_search 57 = .ok (.aload_n 1, 1) := by decide +kernel
theorem dX0_search_58 : decode cX0_search 58 = .ok (.iconst 0, 1) := by decide +kernel
theorem dX0_search_59 : decode cX0_search 59 = .ok (.iconst 0, 1) := by decide +kernel
theorem dX0_search_60 : decode cX0_search 60 = .ok (.invokevirtual 64, 3) := by decide +kernel
theorem dX0_search_63 : decode cX0_search 63 = .ok (.return_, 1) := by decide +kernel
theorem dX0_explore_0 : decode cX0_explore 0 = .ok (.iload_n 3, 1) := by decide +kernel
theorem dX0_explore_1 : decode cX0_explore 1 = .ok (.aload_n 0, 1) := by decide +kernel
theorem dX0_explore_2 : decode cX0_explore 2 = .ok (.getfield 68, 3) := by decide +kernel
theorem dX0_explore_5 : decode cX0_explore 5 = .ok (.if_icmp .le 9, 3) := by decide +kernel
theorem dX0_explore_8 : decode cX0_explore 8 = .ok (.aload_n 0, 1) := by decide +kernel
theorem dX0_explore_9 : decode cX0_explore 9 = .ok (.iload_n 2, 1) := by decide +kernel
theorem dX0_explore_10 : decode cX0_explore 10 = .ok (.iload_n 3, 1) := by decide +kernel
theorem dX0_explore_11 : decode cX0_explore 11 = .ok (.invokevirtual 60, 3) := by decide +kernel
theorem dX0_explore_14 : decode cX0_explore 14 = .ok (.iload_n 2, 1) := by decide +kernel
theorem dX0_explore_15 : decode cX0_explore 15 = .ok (.aload_n 0, 1) := by decide +kernel
theorem dX0_explore_16 : decode cX0_explore 16 = .ok (.getfield 43, 3) := by decide +kernel
theorem dX0_explore_19 : decode cX0_explore 19 = .ok (.if_icmp .ge 29, 3) := by decide +kernel
theorem dX0_explore_22 : decode cX0_explore 22 = .ok (.aload_n 0, 1) := by decide +kernel
theorem dX0_explore_23 : decode cX0_explore 23 = .ok (.getfield 68, 3) := by decide +kernel
theorem dX0_explore_26 : decode cX0_explore 26 = .ok (.aload_n 0, 1) := by decide +kernel
theorem dX0_explore_27 : decode cX0_explore 27 = .ok (.getfield 49, 3) := by decide +kernel
theorem dX0_explore_30 : decode cX0_explore 30 = .ok (.if_icmp .ge 18, 3) := by decide +kernel
theorem dX0_explore_33 : decode cX0_explore 33 = .ok (.iload_n 3, 1) := by decide +kernel
theorem dX0_explore_34 : decode cX0_explore 34 = .ok (.aload_n 0, 1) := by decide +kernel
theorem dX0_explore_35 : decode cX0_explore 35 = .ok (.getfield 43, 3) := by decide +kernel
theorem dX0_explore_38 : decode cX0_explore 38 = .ok (.iadd, 1) := by decide +kernel
theorem dX0_explore_39 : decode cX0_explore 39 = .ok (.iload_n 2, 1) := by decide +kernel
theorem dX0_explore_40 : decode cX0_explore 40 = .ok (.isub, 1) := by decide +kernel
theorem dX0_explore_41 : decode cX0_explore 41 = .ok (.aload_n 0, 1) := by decide +kernel
theorem dX0_explore_42 : decode cX0_explore 42 = .ok (.getfield 68, 3) := by decide +kernel
theorem dX0_explore_45 : decode cX0_explore 45 = .ok (.if_icmp .gt 4, 3) := by decide +kernel
theorem dX0_explore_48 : decode cX0_explore 48 = .ok (.return_, 1) := by decide +kernel
theorem dX0_explore_49 : decode cX0_explore 49 = .ok (.iconst 0, 1) := by decide +kernel
theorem dX0_explore_50 : decode cX0_explore 50 = .ok (.istore 4, 2) := by decide +kernel
theorem dX0_explore_52 : decode cX0_explore 52 = .ok (.iload 4, 2) := by decide +kernel
theorem dX0_explore_54 : decode cX0_explore 54 = .ok (.iconst 1, 1) := by decide +kernel
theorem dX0_explore_55 : decode cX0_explore 55 = .ok (.aload_n 1, 1) := by decide +kernel
theorem dX0_explore_56 : decode cX0_explore 56 = .ok (.getfield 71, 3) := by decide +kernel
theorem dX0_explore_59 : decode cX0_explore 59 = .ok (.ishl, 1) := by decide +kernel
theorem dX0_explore_60 : decode cX0_explore 60 = .ok (.if_icmp .ge 61, 3) := by decide +kernel
theorem dX0_explore_63 : decode cX0_explore 63 = .ok (.iload 4, 2) := by decide +kernel
theorem dX0_explore_65 : decode cX0_explore 65 = .ok (.ifCond .eq 14, 3) := by decide +kernel
theorem dX0_explore_68 : decode cX0_explore 68 = .ok (.aload_n 0, 1) := by decide +kernel
theorem dX0_explore_69 : decode cX0_explore 69 = .ok (.aload_n 1, 1) := by decide +kernel
theorem dX0_explore_70 : decode cX0_explore 70 = .ok (.iload_n 2, 1) := by decide +kernel
theorem dX0_explore_71 : decode cX0_explore 71 = .ok (.iload 4, 2) := by decide +kernel
theorem dX0_explore_73 : decode cX0_explore 73 = .ok (.invokevirtual 76, 3) := by decide +kernel
theorem dX0_explore_76 : decode cX0_explore 76 = .ok (.ifCond .eq 39, 3) := by decide +kernel
theorem dX0_explore_79 : decode cX0_explore 79 = .ok (.aload_n 0, 1) := by decide +kernel
theorem dX0_explore_80 : decode cX0_explore 80 = .ok (.getfield 16, 3) := by decide +kernel
theorem dX0_explore_83 : decode cX0_explore 83 = .ok (.iload_n 2, 1) := by decide +kernel
theorem dX0_explore_84 : decode cX0_explore 84 = .ok (.iload 4, 2) := by decide +kernel
theorem dX0_explore_86 : decode cX0_explore 86 = .ok (.iastore, 1) := by decide +kernel
theorem dX0_explore_87 : decode cX0_explore 87 = .ok (.aload_n 0, 1) := by decide +kernel
theorem dX0_explore_88 : decode cX0_explore 88 = .ok (.aload_n 1, 1) := by decide +kernel
theorem dX0_explore_89 : decode cX0_explore 89 = .ok (.iload_n 2, 1) := by decide +kernel
theorem dX0_explore_90 : decode cX0_explore 90 = .ok (.iload 4, 2) := by decide +kernel
theorem dX0_explore_92 : decode cX0_explore 92 = .ok (.invokevirtual 80, 3) := by decide +kernel
theorem dX0_explore_95 : decode cX0_explore 95 = .ok (.aload_n 0, 1) := by decide +kernel
theorem dX0_explore_96 : decode cX0_explore 96 = .ok (.aload_n 1, 1) := by decide +kernel
theorem dX0_explore_97 : decode cX0_explore 97 = .ok (.iload_n 2, 1) := by decide +kernel
theorem dX0_explore_98 : decode cX0_explore 98 = .ok (.iconst 1, 1) := by decide +kernel
theorem dX0_explore_99 : decode cX0_explore 99 = .ok (.iadd, 1) := by decide +kernel
theorem dX0_explore_100 : decode cX0_explore 100 = .ok (.iload 4, 2) := by decide +kernel
theorem dX0_explore_102 : decode cX0_explore 102 = .ok (.ifCond .ne 7, 3) := by decide +kernel
theorem dX0_explore_105 : decode cX0_explore 105 = .ok (.iload_n 3, 1) := by decide +kernel
theorem dX0_explore_106 : decode cX0_explore 106 = .ok (.goto 6, 3) := by decide +kernel
theorem dX0_explore_109 : decode cX0_explore 109 = .ok (.iload_n 3, 1) := by decide +kernel
theorem dX0_explore_110 : decode cX0_explore 110 = .ok (.iconst 1, 1) := by decide +kernel
theorem dX0_explore_111 : decode cX0_explore 111 = .ok (.iadd, 1) := by decide +kernel
theorem dX0_explore_112 : decode cX0_explore 112 = .ok (.invokevirtual 64, 3) := by decide +kernel
theorem dX0_explore_115 : decode cX0_explore 115 = .ok (.iinc 4 1, 3) := by decide +kernel
theorem dX0_explore_118 : decode cX0_explore 118 = .ok (.goto (-66), 3) := by decide +kernel
theorem dX0_explore_121 : decode cX0_explore 121 = .ok (.return_, 1) := by decide +kernel
theorem dX0_keepRow_0 : decode cX0_keepRow 0 = .ok (.aload_n 0, 1) := by decide +kernel
theorem dX0_keepRow_1 : decode cX0_keepRow 1 = .ok (.iload_n 2, 1) := by decide +kernel
theorem dX0_keepRow_2 : decode cX0_keepRow 2 = .ok (.putfield 68, 3) := by decide +kernel
theorem dX0_keepRow_5 : decode cX0_keepRow 5 = .ok (.iconst 0, 1) := by decide +kernel
theorem dX0_keepRow_6 : decode cX0_keepRow 6 = .ok (.istore_n 3, 1) := by decide +kernel
theorem dX0_keepRow_7 : decode cX0_keepRow 7 = .ok (.iload_n 3, 1) := by decide +kernel
theorem dX0_keepRow_8 : decode cX0_keepRow 8 = .ok (.bipush 6, 2) := by decide +kernel
theorem dX0_keepRow_10 : decode cX0_keepRow 10 = .ok (.if_icmp .ge 30, 3) := by decide +kernel
theorem dX0_keepRow_13 : decode cX0_keepRow 13 = .ok (.aload_n 0, 1) := by decide +kernel
theorem dX0_keepRow_14 : decode cX0_keepRow 14 = .ok (.getfield 20, 3) := by decide +kernel
theorem dX0_keepRow_17 : decode cX0_keepRow 17 = .ok (.iload_n 3, 1) := by decide +kernel
theorem dX0_keepRow_18 : decode cX0_keepRow 18 = .ok (.iload_n 3, 1) := by decide +kernel
theorem dX0_keepRow_19 : decode cX0_keepRow 19 = .ok (.iload_n 1, 1) := by decide +kernel
theorem dX0_keepRow_20 : decode cX0_keepRow 20 = .ok (.if_icmp .ge 12, 3) := by decide +kernel
theorem dX0_keepRow_23 : decode cX0_keepRow 23 = .ok (.aload_n 0, 1) := by decide +kernel
theorem dX0_keepRow_24 : decode cX0_keepRow 24 = .ok (.getfield 16, 3) := by decide +kernel
theorem dX0_keepRow_27 : decode cX0_keepRow 27 = .ok (.iload_n 3, 1) := by decide +kernel
theorem dX0_keepRow_28 : decode cX0_keepRow 28 = .ok (.iaload, 1) := by decide +kernel
theorem dX0_keepRow_29 : decode cX0_keepRow 29 = .ok (.goto 4, 3) := by decide +kernel
theorem dX0_keepRow_32 : decode cX0_keepRow 32 = .ok (.iconst 0, 1) := by decide +kernel
theorem dX0_keepRow_33 : decode cX0_keepRow 33 = .ok (.iastore, 1) := by decide +kernel
theorem dX0_keepRow_34 : decode cX0_keepRow 34 = .ok (.iinc 3 1, 3) := by decide +kernel
theorem dX0_keepRow_37 : decode cX0_keepRow 37 = .ok (.goto (-30), 3) := by decide +kernel
theorem dX0_keepRow_40 : decode cX0_keepRow 40 = .ok (.return_, 1) := by decide +kernel
theorem dX0_isJustEnough_0 : decode cX0_isJustEnough 0 = .ok (.iconst 0, 1) := by decide +kernel
theorem dX0_isJustEnough_1 : decode cX0_isJustEnough 1 = .ok (.istore 4, 2) := by decide +kernel
theorem dX0_isJustEnough_3 : decode cX0_isJustEnough 3 = .ok (.iconst 0, 1) := by decide +kernel
theorem dX0_isJustEnough_4 : decode cX0_isJustEnough 4 = .ok (.istore 5, 2) := by decide +kernel
theorem dX0_isJustEnough_6 : decode cX0_isJustEnough 6 = .ok (.iload 5, 2) := by decide +kernel
theorem dX0_isJustEnough_8 : decode cX0_isJustEnough 8 = .ok (.aload_n 1, 1) := by decide +kernel
theorem dX0_isJustEnough_9 : decode cX0_isJustEnough 9 = .ok (.getfield 71, 3) := by decide +kernel
theorem dX0_isJustEnough_12 : decode cX0_isJustEnough 12 = .ok (.if_icmp .ge 36, 3) := by decide +kernel
theorem dX0_isJustEnough_15 : decode cX0_isJustEnough 15 = .ok (.iload 4, 2) := by decide +kernel
theorem dX0_isJustEnough_17 : decode cX0_isJustEnough 17 = .ok (.iload_n 3, 1) := by decide +kernel
theorem dX0_isJustEnough_18 : decode cX0_isJustEnough 18 = .ok (.iload 5, 2) := by decide +kernel
theorem dX0_isJustEnough_20 : decode cX0_isJustEnough 20 = .ok (.invokestatic 83, 3) := by decide +kernel
theorem dX0_isJustEnough_23 : decode cX0_isJustEnough 23 = .ok (.ifCond .eq 15, 3) := by decide +kernel
theorem dX0_isJustEnough_26 : decode cX0_isJustEnough 26 = .ok (.aload_n 0, 1) := by decide +kernel
theorem dX0_isJustEnough_27 : decode cX0_isJustEnough 27 = .ok (.getfield 11, 3) := by decide +kernel
theorem dX0_isJustEnough_30 : decode cX0_isJustEnough 30 = .ok (.iload_n 2, 1) := by decide +kernel
theorem dX0_isJustEnough_31 : decode cX0_isJustEnough 31 = .ok (.aaload, 1) := by decide +kernel
theorem dX0_isJustEnough_32 : decode cX0_isJustEnough 32 = .ok (.iload 5, 2) := by decide +kernel
theorem dX0_isJustEnough_34 : decode cX0_isJustEnough 34 = .ok (.iaload, 1) := by decide +kernel
theorem dX0_isJustEnough_35 : decode cX0_isJustEnough 35 = .ok (.goto 4, 3) := by decide +kernel
theorem dX0_isJustEnough_38 : decode cX0_isJustEnough 38 = .ok (.iconst 0, 1) := by decide +kernel
theorem dX0_isJustEnough_39 : decode cX0_isJustEnough 39 = .ok (.iadd, 1) := by decide +kernel
theorem dX0_isJustEnough_40 : decode cX0_isJustEnough 40 = .ok (.istore 4, 2) := by decide +kernel
theorem dX0_isJustEnough_42 : decode cX0_isJustEnough 42 = .ok (.iinc 5 1, 3) := by decide +kernel
theorem dX0_isJustEnough_45 : decode cX0_isJustEnough 45 = .ok (.goto (-39), 3) := by decide +kernel
theorem dX0_isJustEnough_48 : decode cX0_isJustEnough 48 = .ok (.iload 4, 2) := by decide +kernel
theorem dX0_isJustEnough_50 : decode cX0_isJustEnough 50 = .ok (.aload_n 0, 1) := by decide +kernel
theorem dX0_isJustEnough_51 : decode cX0_isJustEnough 51 = .ok (.getfield 29, 3) := by decide +kernel
theorem dX0_isJustEnough_54 : decode cX0_isJustEnough 54 = .ok (.if_icmp .ge 5, 3) := by decide +kernel
theorem dX0_isJustEnough_57 : decode cX0_isJustEnough 57 = .ok (.iconst 0, 1) := by decide +kernel
theorem dX0_isJustEnough_58 : decode cX0_isJustEnough 58 = .ok (.ireturn, 1) := by decide +kernel
theorem dX0_isJustEnough_59 : decode cX0_isJustEnough 59 = .ok (.iconst 0, 1) := by decide +kernel
theorem dX0_isJustEnough_60 : decode cX0_isJustEnough 60 = .ok (.istore 5, 2) := by decide +kernel
theorem dX0_isJustEnough_62 : decode cX0_isJustEnough 62 = .ok (.iload 5, 2) := by decide +kernel
theorem dX0_isJustEnough_64 : decode cX0_isJustEnough 64 = .ok (.aload_n 1, 1) := by decide +kernel
theorem dX0_isJustEnough_65 : decode cX0_isJustEnough 65 = .ok (.getfield 71, 3) := by decide +kernel
theorem dX0_isJustEnough_68 : decode cX0_isJustEnough 68 = .ok (.if_icmp .ge 39, 3) := by decide +kernel
theorem dX0_isJustEnough_71 : decode cX0_isJustEnough 71 = .ok (.iload_n 3, 1) := by decide +kernel
theorem dX0_isJustEnough_72 : decode cX0_isJustEnough 72 = .ok (.iload 5, 2) := by decide +kernel
theorem dX0_isJustEnough_74 : decode cX0_isJustEnough 74 = .ok (.invokestatic 83, 3) := by decide +kernel
theorem dX0_isJustEnough_77 : decode cX0_isJustEnough 77 = .ok (.ifCond .eq 24, 3) := by decide +kernel
theorem dX0_isJustEnough_80 : decode cX0_isJustEnough 80 = .ok (.iload 4, 2) := by decide +kernel
theorem dX0_isJustEnough_82 : decode cX0_isJustEnough 82 = .ok (.aload_n 0, 1) := by decide +kernel
theorem dX0_isJustEnough_83 : decode cX0_isJustEnough 83 = .ok (.getfield 11, 3) := by decide +kernel
theorem dX0_isJustEnough_86 : decode cX0_isJustEnough 86 = .ok (.iload_n 2, 1) := by decide +kernel
theorem dX0_isJustEnough_87 : decode cX0_isJustEnough 87 = .ok (.aaload, 1) := by decide +kernel
theorem dX0_isJustEnough_88 : decode cX0_isJustEnough 88 = .ok (.iload 5, 2) := by decide +kernel
theorem dX0_isJustEnough_90 : decode cX0_isJustEnough 90 = .ok (.iaload, 1) := by decide +kernel
theorem dX0_isJustEnough_91 : decode cX0_isJustEnough 91 = .ok (.isub, 1) := by decide +kernel
theorem dX0_isJustEnough_92 : decode cX0_isJustEnough 92 = .ok (.aload_n 0, 1) := by decide +kernel
theorem dX0_isJustEnough_93 : decode cX0_isJustEnough 93 = .ok (.getfield 29, 3) := by decide +kernel
theorem dX0_isJustEnough_96 : decode cX0_isJustEnough 96 = .ok (.if_icmp .lt 5, 3) := by decide +kernel
theorem dX0_isJustEnough_99 : decode cX0_isJustEnough 99 = .ok (.iconst 0, 1) := by decide +kernel
theorem dX0_isJustEnough_100 : decode cX0_isJustEnough 100 = .ok (.ireturn, 1) := by decide +kernel
theorem dX0_isJustEnough_101 : decode cX0_isJustEnough 101 = .ok (.iinc 5 1, 3) := by decide +kernel
theorem dX0_isJustEnough_104 : decode cX0_isJustEnough 104 = .ok (.goto (-42), 3) := by decide +kernel
theorem dX0_isJustEnough_107 : decode cX0_isJustEnough 107 = .ok (.iconst 1, 1) := by decide +kernel
theorem dX0_isJustEnough_108 : decode cX0_isJustEnough 108 = .ok (.ireturn, 1) := by decide +kernel
theorem dX0_isIn_0 : decode cX0_isIn 0 = .ok (.iload_n 0, 1) := by decide +kernel
theorem dX0_isIn_1 : decode cX0_isIn 1 = .ok (.iload_n 1, 1) := by decide +kernel
theorem dX0_isIn_2 : decode cX0_isIn 2 = .ok (.ishr, 1) := by decide +kernel
theorem dX0_isIn_3 : decode cX0_isIn 3 = .ok (.iconst 1, 1) := by decide +kernel
theorem dX0_isIn_4 : decode cX0_isIn 4 = .ok (.iand, 1) := by decide +kernel
theorem dX0_isIn_5 : decode cX0_isIn 5 = .ok (.iconst 1, 1) := by decide +kernel
theorem dX0_isIn_6 : decode cX0_isIn 6 = .ok (.if_icmp .ne 7, 3) := by decide +kernel
theorem dX0_isIn_9 : decode cX0_isIn 9 = .ok (.iconst 1, 1) := by decide +kernel
theorem dX0_isIn_10 : decode cX0_isIn 10 = .ok (.goto 4, 3) := by decide +kernel
theorem dX0_isIn_13 : decode cX0_isIn 13 = .ok (.iconst 0, 1) := by decide +kernel
theorem dX0_isIn_14 : decode cX0_isIn 14 = .ok (.ireturn, 1) := by decide +kernel
theorem dX0_tire_0 : decode cX0_tire 0 = .ok (.iconst 0, 1) := by decide +kernel
theorem dX0_tire_1 : decode cX0_tire 1 = .ok (.istore 4, 2) := by decide +kernel
theorem dX0_tire_3 : decode cX0_tire 3 = .ok (.iload 4, 2) := by decide +kernel
theorem dX0_tire_5 : decode cX0_tire 5 = .ok (.aload_n 1, 1) := by decide +kernel
theorem dX0_tire_6 : decode cX0_tire 6 = .ok (.getfield 71, 3) := by decide +kernel
theorem dX0_tire_9 : decode cX0_tire 9 = .ok (.if_icmp .ge 65, 3) := by decide +kernel
theorem dX0_tire_12 : decode cX0_tire 12 = .ok (.aload_n 0, 1) := by decide +kernel
theorem dX0_tire_13 : decode cX0_tire 13 = .ok (.getfield 11, 3) := by decide +kernel
theorem dX0_tire_16 : decode cX0_tire 16 = .ok (.iload_n 2, 1) := by decide +kernel
theorem dX0_tire_17 : decode cX0_tire 17 = .ok (.aaload, 1) := by decide +kernel
theorem dX0_tire_18 : decode cX0_tire 18 = .ok (.iload 4, 2) := by decide +kernel
theorem dX0_tire_20 : decode cX0_tire 20 = .ok (.iaload, 1) := by decide +kernel
theorem dX0_tire_21 : decode cX0_tire 21 = .ok (.istore 5, 2) := by decide +kernel
theorem dX0_tire_23 : decode cX0_tire 23 = .ok (.aload_n 0, 1) := by decide +kernel
theorem dX0_tire_24 : decode cX0_tire 24 = .ok (.getfield 11, 3) := by decide +kernel
theorem dX0_tire_27 : decode cX0_tire 27 = .ok (.iload_n 2, 1) := by decide +kernel
theorem dX0_tire_28 : decode cX0_tire 28 = .ok (.iconst 1, 1) := by decide +kernel
theorem dX0_tire_29 : decode cX0_tire 29 = .ok (.iadd, 1) := by decide +kernel
theorem dX0_tire_30 : decode cX0_tire 30 = .ok (.aaload, 1) := by decide +kernel
theorem dX0_tire_31 : decode cX0_tire 31 = .ok (.iload 4, 2) := by decide +kernel
theorem dX0_tire_33 : decode cX0_tire 33 = .ok (.iload_n 3, 1) := by decide +kernel
theorem dX0_tire_34 : decode cX0_tire 34 = .ok (.iload 4, 2) := by decide +kernel
theorem dX0_tire_36 : decode cX0_tire 36 = .ok (.invokestatic 83, 3) := by decide +kernel
theorem dX0_tire_39 : decode cX0_tire 39 = .ok (.ifCond .eq 14, 3) := by decide +kernel
theorem dX0_tire_42 : decode cX0_tire 42 = .ok (.iconst 0, 1) := by decide +kernel
theorem dX0_tire_43 : decode cX0_tire 43 = .ok (.iload 5, 2) := by decide +kernel
theorem dX0_tire_45 : decode cX0_tire 45 = .ok (.iconst 1, 1) := by decide +kernel
theorem dX0_tire_46 : decode cX0_tire 46 = .ok (.isub, 1) := by decide +kernel
theorem dX0_tire_47 : decode cX0_tire 47 = .ok (.invokestatic 87, 3) := by decide +kernel
theorem dX0_tire_50 : decode cX0_tire 50 = .ok (.goto 17, 3) := by decide +kernel
theorem dX0_tire_53 : decode cX0_tire 53 = .ok (.aload_n 1, 1) := by decide +kernel
theorem dX0_tire_54 : decode cX0_tire 54 = .ok (.getfield 90, 3) := by decide +kernel
theorem dX0_tire_57 : decode cX0_tire 57 = .ok (.iload 4, 2) := by decide +kernel
theorem dX0_tire_59 : decode cX0_tire 59 = .ok (.iaload, 1) := by decide +kernel
theorem dX0_tire_60 : decode cX0_tire 60 = .ok (.iload 5, 2) := by decide +kernel
theorem dX0_tire_62 : decode cX0_tire 62 = .ok (.iconst 1, 1) := by decide +kernel
theorem dX0_tire_63 : decode cX0_tire 63 = .ok (.iadd, 1) := by decide +kernel
theorem dX0_tire_64 : decode cX0_tire 64 = .ok (.invokestatic 37, 3) := by decide +kernel
theorem dX0_tire_67 : decode cX0_tire 67 = .ok (.iastore, 1) := by decide +kernel
theorem dX0_tire_68 : decode cX0_tire 68 = .ok (.iinc 4 1, 3) := by decide +kernel
theorem dX0_tire_71 : decode cX0_tire 71 = .ok (.goto (-68), 3) := by decide +kernel
theorem dX0_tire_74 : decode cX0_tire 74 = .ok (.return_, 1) := by decide +kernel
theorem dX1_init_0 : decode cX1_init 0 = .ok (.aload_n 0, 1) := by decide +kernel
theorem dX1_init_1 : decode cX1_init 1 = .ok (.invokespecial 3, 3) := by decide +kernel
theorem dX1_init_4 : decode cX1_init 4 = .ok (.aload_n 0, 1) := by decide +kernel
theorem dX1_init_5 : decode cX1_init 5 = .ok (.iconst 4, 1) := by decide +kernel
theorem dX1_init_6 : decode cX1_init 6 = .ok (.newarray .int, 2) := by decide +kernel
theorem dX1_init_8 : decode cX1_init 8 = .ok (.putfield 9, 3) := by decide +kernel
theorem dX1_init_11 : decode cX1_init 11 = .ok (.aload_n 0, 1) := by decide +kernel
theorem dX1_init_12 : decode cX1_init 12 = .ok (.iconst 4, 1) := by decide +kernel
theorem dX1_init_13 : decode cX1_init 13 = .ok (.newarray .int, 2) := by decide +kernel
theorem dX1_init_15 : decode cX1_init 15 = .ok (.putfield 15, 3) := by decide +kernel
theorem dX1_init_18 : decode cX1_init 18 = .ok (.aload_n 0, 1) := by decide +kernel
theorem dX1_init_19 : decode cX1_init 19 = .ok (.iconst 4, 1) := by decide +kernel
theorem dX1_init_20 : decode cX1_init 20 = .ok (.newarray .int, 2) := by decide +kernel
theorem dX1_init_22 : decode cX1_init 22 = .ok (.putfield 18, 3) := by decide +kernel
theorem dX1_init_25 : decode cX1_init 25 = .ok (.aload_n 0, 1) := by decide +kernel
theorem dX1_init_26 : decode cX1_init 26 = .ok (.iconst 4, 1) := by decide +kernel
theorem dX1_init_27 : decode cX1_init 27 = .ok (.newarray .int, 2) := by decide +kernel
theorem dX1_init_29 : decode cX1_init 29 = .ok (.putfield 21, 3) := by decide +kernel
theorem dX1_init_32 : decode cX1_init 32 = .ok (.aload_n 0, 1) := by decide +kernel
theorem dX1_init_33 : decode cX1_init 33 = .ok (.iconst 4, 1) := by decide +kernel
theorem dX1_init_34 : decode cX1_init 34 = .ok (.newarray .int, 2) := by decide +kernel
theorem dX1_init_36 : decode cX1_init 36 = .ok (.putfield 24, 3) := by decide +kernel
theorem dX1_init_39 : decode cX1_init 39 = .ok (.aload_n 0, 1) := by decide +kernel
theorem dX1_init_40 : decode cX1_init 40 = .ok (.iconst 4, 1) := by decide +kernel
theorem dX1_init_41 : decode cX1_init 41 = .ok (.newarray .int, 2) := by decide +kernel
theorem dX1_init_43 : decode cX1_init 43 = .ok (.putfield 27, 3) := by decide +kernel
theorem dX1_init_46 : decode cX1_init 46 = .ok (.aload_n 0, 1) := by decide +kernel
theorem dX1_init_47 : decode cX1_init 47 = .ok (.iconst 4, 1) := by decide +kernel
theorem dX1_init_48 : decode cX1_init 48 = .ok (.newarray .int, 2) := by decide +kernel
theorem dX1_init_50 : decode cX1_init 50 = .ok (.putfield 30, 3) := by decide +kernel
theorem dX1_init_53 : decode cX1_init 53 = .ok (.aload_n 0, 1) := by decide +kernel
theorem dX1_init_54 : decode cX1_init 54 = .ok (.iconst 3, 1) := by decide +kernel
theorem dX1_init_55 : decode cX1_init 55 = .ok (.newarray .int, 2) := by decide +kernel
theorem dX1_init_57 : decode cX1_init 57 = .ok (.putfield 33, 3) := by decide +kernel
theorem dX1_init_60 : decode cX1_init 60 = .ok (.aload_n 0, 1) := by decide +kernel
theorem dX1_init_61 : decode cX1_init 61 = .ok (.iconst 4, 1) := by decide +kernel
theorem dX1_init_62 : decode cX1_init 62 = .ok (.putfield 36, 3) := by decide +kernel
theorem dX1_init_65 : decode cX1_init 65 = .ok (.return_, 1) := by decide +kernel
theorem dX1_empty_0 : decode cX1_empty 0 = .ok (.aload_n 0, 1) := by decide +kernel
theorem dX1_empty_1 : decode cX1_empty 1 = .ok (.iconst 0, 1) := by decide +kernel
theorem dX1_empty_2 : decode cX1_empty 2 = .ok (.putfield 40, 3) := by decide +kernel
theorem dX1_empty_5 : decode cX1_empty 5 = .ok (.aload_n 0, 1) := by decide +kernel
theorem dX1_empty_6 : decode cX1_empty 6 = .ok (.iconst 0, 1) := by decide +kernel
theorem dX1_empty_7 : decode cX1_empty 7 = .ok (.putfield 43, 3) := by decide +kernel
theorem dX1_empty_10 : decode cX1_empty 10 = .ok (.aload_n 0, 1) := by decide +kernel
theorem dX1_empty_11 : decode cX1_empty 11 = .ok (.iconst 0, 1) := by decide +kernel
theorem dX1_empty_12 : decode cX1_empty 12 = .ok (.putfield 46, 3) := by decide +kernel
theorem dX1_empty_15 : decode cX1_empty 15 = .ok (.aload_n 0, 1) := by decide +kernel
theorem dX1_empty_16 : decode cX1_empty 16 = .ok (.iconst 4, 1) := by decide +kernel
theorem dX1_empty_17 : decode cX1_empty 17 = .ok (.putfield 36, 3) := by decide +kernel
theorem dX1_empty_20 : decode cX1_empty 20 = .ok (.aload_n 0, 1) := by decide +kernel
theorem dX1_empty_21 : decode cX1_empty 21 = .ok (.iconst 0, 1) := by decide +kernel
theorem dX1_empty_22 : decode cX1_empty 22 = .ok (.putfield 49, 3) := by decide +kernel
theorem dX1_empty_25 : decode cX1_empty 25 = .ok (.aload_n 0, 1) := by decide +kernel
theorem dX1_empty_26 : decode cX1_empty 26 = .ok (.iconst 0, 1) := by decide +kernel
theorem dX1_empty_27 : decode cX1_empty 27 = .ok (.putfield 52, 3) := by decide +kernel
theorem dX1_empty_30 : decode cX1_empty 30 = .ok (.aload_n 0, 1) := by decide +kernel
theorem dX1_empty_31 : decode cX1_empty 31 = .ok (.iconst 0, 1) := by decide +kernel
theorem dX1_empty_32 : decode cX1_empty 32 = .ok (.putfield 56, 3) := by decide +kernel
theorem dX1_empty_35 : decode cX1_empty 35 = .ok (.return_, 1) := by decide +kernel
theorem dX1_hasHill_0 : decode cX1_hasHill 0 = .ok (.iload_n 1, 1) := by decide +kernel
theorem dX1_hasHill_1 : decode cX1_hasHill 1 = .ok (.ifCond .lt 15, 3) := by decide +kernel
theorem dX1_hasHill_4 : decode cX1_hasHill 4 = .ok (.iload_n 1, 1) := by decide +kernel
theorem dX1_hasHill_5 : decode cX1_hasHill 5 = .ok (.aload_n 0, 1) := by decide +kernel
theorem dX1_hasHill_6 : decode cX1_hasHill 6 = .ok (.getfield 40, 3) := by decide +kernel
theorem dX1_hasHill_9 : decode cX1_hasHill 9 = .ok (.if_icmp .ge 7, 3) := by decide +kernel
theorem dX1_hasHill_12 : decode cX1_hasHill 12 = .ok (.iconst 1, 1) := by decide +kernel
theorem dX1_hasHill_13 : decode cX1_hasHill 13 = .ok (.goto 4, 3) := by decide +kernel
theorem dX1_hasHill_16 : decode cX1_hasHill 16 = .ok (.iconst 0, 1) := by decide +kernel
theorem dX1_hasHill_17 : decode cX1_hasHill 17 = .ok (.ireturn, 1) := by decide +kernel
theorem dX1_hasMan_0 : decode cX1_hasMan 0 = .ok (.iload_n 1, 1) := by decide +kernel
theorem dX1_hasMan_1 : decode cX1_hasMan 1 = .ok (.ifCond .lt 15, 3) := by decide +kernel
theorem dX1_hasMan_4 : decode cX1_hasMan 4 = .ok (.iload_n 1, 1) := by decide +kernel
theorem dX1_hasMan_5 : decode cX1_hasMan 5 = .ok (.aload_n 0, 1) := by decide +kernel
theorem dX1_hasMan_6 : decode cX1_hasMan 6 = .ok (.getfield 46, 3) := by decide +kernel
theorem dX1_hasMan_9 : decode cX1_hasMan 9 = .ok (.if_icmp .ge 7, 3) := by decide +kernel
theorem dX1_hasMan_12 : decode cX1_hasMan 12 = .ok (.iconst 1, 1) := by decide +kernel
theorem dX1_hasMan_13 : decode cX1_hasMan 13 = .ok (.goto 4, 3) := by decide +kernel
theorem dX1_hasMan_16 : decode cX1_hasMan 16 = .ok (.iconst 0, 1) := by decide +kernel
theorem dX1_hasMan_17 : decode cX1_hasMan 17 = .ok (.ireturn, 1) := by decide +kernel
theorem dX1_rainsOn_0 : decode cX1_rainsOn 0 = .ok (.aload_n 0, 1) := by decide +kernel
theorem dX1_rainsOn_1 : decode cX1_rainsOn 1 = .ok (.getfield 49, 3) := by decide +kernel
theorem dX1_rainsOn_4 : decode cX1_rainsOn 4 = .ok (.iload_n 1, 1) := by decide +kernel
theorem dX1_rainsOn_5 : decode cX1_rainsOn 5 = .ok (.bipush 7, 2) := by decide +kernel
theorem dX1_rainsOn_7 : decode cX1_rainsOn 7 = .ok (.irem, 1) := by decide +kernel
theorem dX1_rainsOn_8 : decode cX1_rainsOn 8 = .ok (.ishr, 1) := by decide +kernel
theorem dX1_rainsOn_9 : decode cX1_rainsOn 9 = .ok (.iconst 1, 1) := by decide +kernel
theorem dX1_rainsOn_10 : decode cX1_rainsOn 10 = .ok (.iand, 1) := by decide +kernel
theorem dX1_rainsOn_11 : decode cX1_rainsOn 11 = .ok (.iconst 1, 1) := by decide +kernel
theorem dX1_rainsOn_12 : decode cX1_rainsOn 12 = .ok (.if_icmp .ne 7, 3) := by decide +kernel
theorem dX1_rainsOn_15 : decode cX1_rainsOn 15 = .ok (.iconst 1, 1) := by decide +kernel
theorem dX1_rainsOn_16 : decode cX1_rainsOn 16 = .ok (.goto 4, 3) := by decide +kernel
theorem dX1_rainsOn_19 : decode cX1_rainsOn 19 = .ok (.iconst 0, 1) := by decide +kernel
theorem dX1_rainsOn_20 : decode cX1_rainsOn 20 = .ok (.ireturn, 1) := by decide +kernel
theorem dX1_hasLedge_0 : decode cX1_hasLedge 0 = .ok (.aload_n 0, 1) := by decide +kernel
theorem dX1_hasLedge_1 : decode cX1_hasLedge 1 = .ok (.getfield 18, 3) := by decide +kernel
theorem dX1_hasLedge_4 : decode cX1_hasLedge 4 = .ok (.iload_n 1, 1) := by decide +kernel
theorem dX1_hasLedge_5 : decode cX1_hasLedge 5 = .ok (.iaload, 1) := by decide +kernel
theorem dX1_hasLedge_6 : decode cX1_hasLedge 6 = .ok (.iload_n 2, 1) := by decide +kernel
theorem dX1_hasLedge_7 : decode cX1_hasLedge 7 = .ok (.ishr, 1) := by decide +kernel
theorem dX1_hasLedge_8 : decode cX1_hasLedge 8 = .ok (.iconst 1, 1) := by decide +kernel
theorem dX1_hasLedge_9 : decode cX1_hasLedge 9 = .ok (.iand, 1) := by decide +kernel
theorem dX1_hasLedge_10 : decode cX1_hasLedge 10 = .ok (.iconst 1, 1) := by decide +kernel
theorem dX1_hasLedge_11 : decode cX1_hasLedge 11 = .ok (.if_icmp .ne 7, 3) := by decide +kernel
theorem dX1_hasLedge_14 : decode cX1_hasLedge 14 = .ok (.iconst 1, 1) := by decide +kernel
theorem dX1_hasLedge_15 : decode cX1_hasLedge 15 = .ok (.goto 4, 3) := by decide +kernel
theorem dX1_hasLedge_18 : decode cX1_hasLedge 18 = .ok (.iconst 0, 1) := by decide +kernel
theorem dX1_hasLedge_19 : decode cX1_hasLedge 19 = .ok (.ireturn, 1) := by decide +kernel
theorem dX1_isOnePlace_0 : decode cX1_isOnePlace 0 = .ok (.iconst 0, 1) := by decide +kernel
theorem dX1_isOnePlace_1 : decode cX1_isOnePlace 1 = .ok (.istore 4, 2) := by decide +kernel
theorem dX1_isOnePlace_3 : decode cX1_isOnePlace 3 = .ok (.iload 4, 2) := by decide +kernel
theorem dX1_isOnePlace_5 : decode cX1_isOnePlace 5 = .ok (.aload_n 0, 1) := by decide +kernel
theorem dX1_isOnePlace_6 : decode cX1_isOnePlace 6 = .ok (.getfield 43, 3) := by decide +kernel
theorem dX1_isOnePlace_9 : decode cX1_isOnePlace 9 = .ok (.if_icmp .ge 78, 3) := by decide +kernel
theorem dX1_isOnePlace_12 : decode cX1_isOnePlace 12 = .ok (.aload_n 0, 1) := by decide +kernel
theorem dX1_isOnePlace_13 : decode cX1_isOnePlace 13 = .ok (.getfield 24, 3) := by decide +kernel
theorem dX1_isOnePlace_16 : decode cX1_isOnePlace 16 = .ok (.iload 4, 2) := by decide +kernel
theorem dX1_isOnePlace_18 : decode cX1_isOnePlace 18 = .ok (.iaload, 1) := by decide +kernel
theorem dX1_isOnePlace_19 : decode cX1_isOnePlace 19 = .ok (.iload_n 1, 1) := by decide +kernel
theorem dX1_isOnePlace_20 : decode cX1_isOnePlace 20 = .ok (.if_icmp .ne 14, 3) := by decide +kernel
theorem dX1_isOnePlace_23 : decode cX1_isOnePlace 23 = .ok (.aload_n 0, 1) := by decide +kernel
theorem dX1_isOnePlace_24 : decode cX1_isOnePlace 24 = .ok (.getfield 27, 3) := by decide +kernel
theorem dX1_isOnePlace_27 : decode cX1_isOnePlace 27 = .ok (.iload 4, 2) := by decide +kernel
theorem dX1_isOnePlace_29 : decode cX1_isOnePlace 29 = .ok (.iaload, 1) := by decide +kernel
theorem dX1_isOnePlace_30 : decode cX1_isOnePlace 30 = .ok (.iload_n 2, 1) := by decide +kernel
theorem dX1_isOnePlace_31 : decode cX1_isOnePlace 31 = .ok (.if_icmp .eq 25, 3) := by decide +kernel
theorem dX1_isOnePlace_34 : decode cX1_isOnePlace 34 = .ok (.aload_n 0, 1) := by decide +kernel
theorem dX1_isOnePlace_35 : decode cX1_isOnePlace 35 = .ok (.getfield 24, 3) := by decide +kernel
theorem dX1_isOnePlace_38 : decode cX1_isOnePlace 38 = .ok (.iload 4, 2) := by decide +kernel
theorem dX1_isOnePlace_40 : decode cX1_isOnePlace 40 = .ok (.iaload, 1) := by decide +kernel
theorem dX1_isOnePlace_41 : decode cX1_isOnePlace 41 = .ok (.iload_n 2, 1) := by decide +kernel
theorem dX1_isOnePlace_42 : decode cX1_isOnePlace 42 = .ok (.if_icmp .ne 18, 3) := by decide +kernel
theorem dX1_isOnePlace_45 : decode cX1_isOnePlace 45 = .ok (.aload_n 0, 1) := by decide +kernel
theorem dX1_isOnePlace_46 : decode cX1_isOnePlace 46 = .ok (.getfield 27, 3) := by decide +kernel
theorem dX1_isOnePlace_49 : decode cX1_isOnePlace 49 = .ok (.iload 4, 2) := by decide +kernel
theorem dX1_isOnePlace_51 : decode cX1_isOnePlace 51 = .ok (.iaload, 1) := by decide +kernel
theorem dX1_isOnePlace_52 : decode cX1_isOnePlace 52 = .ok (.iload_n 1, 1) := by decide +kernel
theorem dX1_isOnePlace_53 : decode cX1_isOnePlace 53 = .ok (.if_icmp .ne 7, 3) := by decide +kernel
theorem dX1_isOnePlace_56 : decode cX1_isOnePlace 56 = .ok (.iconst 1, 1) := by decide +kernel
theorem dX1_isOnePlace_57 : decode cX1_isOnePlace 57 = .ok (.goto 4, 3) := by decide +kernel
theorem dX1_isOnePlace_60 : decode cX1_isOnePlace 60 = .ok (.iconst 0, 1) := by decide +kernel
theorem dX1_isOnePlace_61 : decode cX1_isOnePlace 61 = .ok (.istore 5, 2) := by decide +kernel
theorem dX1_isOnePlace_63 : decode cX1_isOnePlace 63 = .ok (.iload 5, 2) := by decide +kernel
theorem dX1_isOnePlace_65 : decode cX1_isOnePlace 65 = .ok (.ifCond .eq 16, 3) := by decide +kernel
theorem dX1_isOnePlace_68 : decode cX1_isOnePlace 68 = .ok (.aload_n 0, 1) := by decide +kernel
theorem dX1_isOnePlace_69 : decode cX1_isOnePlace 69 = .ok (.getfield 30, 3) := by decide +kernel
theorem dX1_isOnePlace_72 : decode cX1_isOnePlace 72 = .ok (.iload 4, 2) := by decide +kernel
theorem dX1_isOnePlace_74 : decode cX1_isOnePlace 74 = .ok (.iaload, 1) := by decide +kernel
theorem dX1_isOnePlace_75 : decode cX1_isOnePlace 75 = .ok (.iload_n 3, 1) := by decide +kernel
theorem dX1_isOnePlace_76 : decode cX1_isOnePlace 76 = .ok (.if_icmp .gt 5, 3) := by decide +kernel
theorem dX1_isOnePlace_79 : decode cX1_isOnePlace 79 = .ok (.iconst 1, 1) := by decide +kernel
theorem dX1_isOnePlace_80 : decode cX1_isOnePlace 80 = .ok (.ireturn, 1) := by decide +kernel
theorem dX1_isOnePlace_81 : decode cX1_isOnePlace 81 = .ok (.iinc 4 1, 3) := by decide +kernel
theorem dX1_isOnePlace_84 : decode cX1_isOnePlace 84 = .ok (.goto (-81), 3) := by decide +kernel
theorem dX1_isOnePlace_87 : decode cX1_isOnePlace 87 = .ok (.iconst 0, 1) := by decide +kernel
theorem dX1_isOnePlace_88 : decode cX1_isOnePlace 88 = .ok (.ireturn, 1) := by decide +kernel
theorem dX1_forceOf_0 : decode cX1_forceOf 0 = .ok (.iconst 0, 1) := by decide +kernel
theorem dX1_forceOf_1 : decode cX1_forceOf 1 = .ok (.istore_n 2, 1) := by decide +kernel
theorem dX1_forceOf_2 : decode cX1_forceOf 2 = .ok (.iconst 0, 1) := by decide +kernel
theorem dX1_forceOf_3 : decode cX1_forceOf 3 = .ok (.istore_n 3, 1) := by decide +kernel
theorem dX1_forceOf_4 : decode cX1_forceOf 4 = .ok (.iload_n 3, 1) := by decide +kernel
theorem dX1_forceOf_5 : decode cX1_forceOf 5 = .ok (.aload_n 0, 1) := by decide +kernel
theorem dX1_forceOf_6 : decode cX1_forceOf 6 = .ok (.getfield 46, 3) := by decide +kernel
theorem dX1_forceOf_9 : decode cX1_forceOf 9 = .ok (.if_icmp .ge 27, 3) := by decide +kernel
theorem dX1_forceOf_12 : decode cX1_forceOf 12 = .ok (.iload_n 1, 1) := by decide +kernel
theorem dX1_forceOf_13 : decode cX1_forceOf 13 = .ok (.iload_n 3, 1) := by decide +kernel
theorem dX1_forceOf_14 : decode cX1_forceOf 14 = .ok (.ishr, 1) := by decide +kernel
theorem dX1_forceOf_15 : decode cX1_forceOf 15 = .ok (.iconst 1, 1) := by decide +kernel
theorem dX1_forceOf_16 : decode cX1_forceOf 16 = .ok (.iand, 1) := by decide +kernel
theorem dX1_forceOf_17 : decode cX1_forceOf 17 = .ok (.iconst 1, 1) := by decide +kernel
theorem dX1_forceOf_18 : decode cX1_forceOf 18 = .ok (.if_icmp .ne 12, 3) := by decide +kernel
theorem dX1_forceOf_21 : decode cX1_forceOf 21 = .ok (.iload_n 2, 1) := by decide +kernel
theorem dX1_forceOf_22 : decode cX1_forceOf 22 = .ok (.aload_n 0, 1) := by decide +kernel
theorem dX1_forceOf_23 : decode cX1_forceOf 23 = .ok (.getfield 33, 3) := by decide +kernel
theorem dX1_forceOf_26 : decode cX1_forceOf 26 = .ok (.iload_n 3, 1) := by decide +kernel
theorem dX1_forceOf_27 : decode cX1_forceOf 27 = .ok (.iaload, 1) := by decide +kernel
theorem dX1_forceOf_28 : decode cX1_forceOf 28 = .ok (.iadd, 1) := by decide +kernel
theorem dX1_forceOf_29 : decode cX1_forceOf 29 = .ok (.istore_n 2, 1) := by decide +kernel
theorem dX1_forceOf_30 : decode cX1_forceOf 30 = .ok (.iinc 3 1, 3) := by decide +kernel
theorem dX1_forceOf_33 : decode cX1_forceOf 33 = .ok (.goto (-29), 3) := by decide +kernel
theorem dX1_forceOf_36 : decode cX1_forceOf 36 = .ok (.iload_n 2, 1) := by decide +kernel
theorem dX1_forceOf_37 : decode cX1_forceOf 37 = .ok (.ireturn, 1) := by decide +kernel
theorem dX1_addHill_0 : decode cX1_addHill 0 = .ok (.aload_n 0, 1) := by decide +kernel
theorem dX1_addHill_1 : decode cX1_addHill 1 = .ok (.getfield 40, 3) := by decide +kernel
theorem dX1_addHill_4 : decode cX1_addHill 4 = .ok (.iconst 4, 1) := by decide +kernel
theorem dX1_addHill_5 : decode cX1_addHill 5 = .ok (.if_icmp .ge 61, 3) := by decide +kernel
theorem dX1_addHill_8 : decode cX1_addHill 8 = .ok (.aload_n 0, 1) := by decide +kernel
theorem dX1_addHill_9 : decode cX1_addHill 9 = .ok (.getfield 9, 3) := by decide +kernel
theorem dX1_addHill_12 : decode cX1_addHill 12 = .ok (.aload_n 0, 1) := by decide +kernel
theorem dX1_addHill_13 : decode cX1_addHill 13 = .ok (.getfield 40, 3) := by decide +kernel
theorem dX1_addHill_16 : decode cX1_addHill 16 = .ok (.aload_n 1, 1) := by decide +kernel
theorem dX1_addHill_17 : decode cX1_addHill 17 = .ok (.iconst 0, 1) := by decide +kernel
theorem dX1_addHill_18 : decode cX1_addHill 18 = .ok (.iaload, 1) := by decide +kernel
theorem dX1_addHill_19 : decode cX1_addHill 19 = .ok (.iastore, 1) := by decide +kernel
theorem dX1_addHill_20 : decode cX1_addHill 20 = .ok (.aload_n 0, 1) := by decide +kernel
theorem dX1_addHill_21 : decode cX1_addHill 21 = .ok (.getfield 15, 3) := by decide +kernel
theorem dX1_addHill_24 : decode cX1_addHill 24 = .ok (.aload_n 0, 1) := by decide +kernel
theorem dX1_addHill_25 : decode cX1_addHill 25 = .ok (.getfield 40, 3) := by decide +kernel
theorem dX1_addHill_28 : decode cX1_addHill 28 = .ok (.aload_n 1, 1) := by decide +kernel
theorem dX1_addHill_29 : decode cX1_addHill 29 = .ok (.iconst 1, 1) := by decide +kernel
theorem dX1_addHill_30 : decode cX1_addHill 30 = .ok (.iaload, 1) := by decide +kernel
theorem dX1_addHill_31 : decode cX1_addHill 31 = .ok (.iastore, 1) := by decide +kernel
theorem dX1_addHill_32 : decode cX1_addHill 32 = .ok (.aload_n 0, 1) := by decide +kernel
theorem dX1_addHill_33 : decode cX1_addHill 33 = .ok (.getfield 18, 3) := by decide +kernel
theorem dX1_addHill_36 : decode cX1_addHill 36 = .ok (.aload_n 0, 1) := by decide +kernel
theorem dX1_addHill_37 : decode cX1_addHill 37 = .ok (.getfield 40, 3) := by decide +kernel
theorem dX1_addHill_40 : decode cX1_addHill 40 = .ok (.aload_n 1, 1) := by decide +kernel
theorem dX1_addHill_41 : decode cX1_addHill 41 = .ok (.iconst 2, 1) := by decide +kernel
theorem dX1_addHill_42 : decode cX1_addHill 42 = .ok (.iaload, 1) := by decide +kernel
theorem dX1_addHill_43 : decode cX1_addHill 43 = .ok (.iastore, 1) := by decide +kernel
theorem dX1_addHill_44 : decode cX1_addHill 44 = .ok (.aload_n 0, 1) := by decide +kernel
theorem dX1_addHill_45 : decode cX1_addHill 45 = .ok (.getfield 21, 3) := by decide +kernel
theorem dX1_addHill_48 : decode cX1_addHill 48 = .ok (.aload_n 0, 1) := by decide +kernel
theorem dX1_addHill_49 : decode cX1_addHill 49 = .ok (.getfield 40, 3) := by decide +kernel
theorem dX1_addHill_52 : decode cX1_addHill 52 = .ok (.aload_n 1, 1) := by decide +kernel
theorem dX1_addHill_53 : decode cX1_addHill 53 = .ok (.iconst 3, 1) := by decide +kernel
theorem dX1_addHill_54 : decode cX1_addHill 54 = .ok (.iaload, 1) := by decide +kernel
theorem dX1_addHill_55 : decode cX1_addHill 55 = .ok (.iastore, 1) := by decide +kernel
theorem dX1_addHill_56 : decode cX1_addHill 56 = .ok (.aload_n 0, 1) := by decide +kernel
theorem dX1_addHill_57 : decode cX1_addHill 57 = .ok (.dup, 1) := by decide +kernel
theorem dX1_addHill_58 : decode cX1_addHill 58 = .ok (.getfield 40, 3) := by decide +kernel
theorem dX1_addHill_61 : decode cX1_addHill 61 = .ok (.iconst 1, 1) := by decide +kernel
theorem dX1_addHill_62 : decode cX1_addHill 62 = .ok (.iadd, 1) := by decide +kernel
theorem dX1_addHill_63 : decode cX1_addHill 63 = .ok (.putfield 40, 3) := by decide +kernel
theorem dX1_addHill_66 : decode cX1_addHill 66 = .ok (.return_, 1) := by decide +kernel
theorem dX1_addJoin_0 : decode cX1_addJoin 0 = .ok (.aload_n 0, 1) := by decide +kernel
theorem dX1_addJoin_1 : decode cX1_addJoin 1 = .ok (.getfield 43, 3) := by decide +kernel
theorem dX1_addJoin_4 : decode cX1_addJoin 4 = .ok (.iconst 4, 1) := by decide +kernel
theorem dX1_addJoin_5 : decode cX1_addJoin 5 = .ok (.if_icmp .ge 49, 3) := by decide +kernel
theorem dX1_addJoin_8 : decode cX1_addJoin 8 = .ok (.aload_n 0, 1) := by decide +kernel
theorem dX1_addJoin_9 : decode cX1_addJoin 9 = .ok (.getfield 24, 3) := by decide +kernel
theorem dX1_addJoin_12 : decode cX1_addJoin 12 = .ok (.aload_n 0, 1) := by decide +kernel
theorem dX1_addJoin_13 : decode cX1_addJoin 13 = .ok (.getfield 43, 3) := by decide +kernel
theorem dX1_addJoin_16 : decode cX1_addJoin 16 = .ok (.aload_n 1, 1) := by decide +kernel
theorem dX1_addJoin_17 : decode cX1_addJoin 17 = .ok (.iconst 0, 1) := by decide +kernel
theorem dX1_addJoin_18 : decode cX1_addJoin 18 = .ok (.iaload, 1) := by decide +kernel
theorem dX1_addJoin_19 : decode cX1_addJoin 19 = .ok (.iastore, 1) := by decide +kernel
theorem dX1_addJoin_20 : decode cX1_addJoin 20 = .ok (.aload_n 0, 1) := by decide +kernel
theorem dX1_addJoin_21 : decode cX1_addJoin 21 = .ok (.getfield 27, 3) := by decide +kernel
theorem dX1_addJoin_24 : decode cX1_addJoin 24 = .ok (.aload_n 0, 1) := by decide +kernel
theorem dX1_addJoin_25 : decode cX1_addJoin 25 = .ok (.getfield 43, 3) := by decide +kernel
theorem dX1_addJoin_28 : decode cX1_addJoin 28 = .ok (.aload_n 1, 1) := by decide +kernel
theorem dX1_addJoin_29 : decode cX1_addJoin 29 = .ok (.iconst 1, 1) := by decide +kernel
theorem dX1_addJoin_30 : decode cX1_addJoin 30 = .ok (.iaload, 1) := by decide +kernel
theorem dX1_addJoin_31 : decode cX1_addJoin 31 = .ok (.iastore, 1) := by decide +kernel
theorem dX1_addJoin_32 : decode cX1_addJoin 32 = .ok (.aload_n 0, 1) := by decide +kernel
theorem dX1_addJoin_33 : decode cX1_addJoin 33 = .ok (.getfield 30, 3) := by decide +kernel
theorem dX1_addJoin_36 : decode cX1_addJoin 36 = .ok (.aload_n 0, 1) := by decide +kernel
theorem dX1_addJoin_37 : decode cX1_addJoin 37 = .ok (.getfield 43, 3) := by decide +kernel
theorem dX1_addJoin_40 : decode cX1_addJoin 40 = .ok (.aload_n 1, 1) := by decide +kernel
theorem dX1_addJoin_41 : decode cX1_addJoin 41 = .ok (.iconst 2, 1) := by decide +kernel
theorem dX1_addJoin_42 : decode cX1_addJoin 42 = .ok (.iaload, 1) := by decide +kernel
theorem dX1_addJoin_43 : decode cX1_addJoin 43 = .ok (.iastore, 1) := by decide +kernel
theorem dX1_addJoin_44 : decode cX1_addJoin 44 = .ok (.aload_n 0, 1) := by decide +kernel
theorem dX1_addJoin_45 : decode cX1_addJoin 45 = .ok (.dup, 1) := by decide +kernel
theorem dX1_addJoin_46 : decode cX1_addJoin 46 = .ok (.getfield 43, 3) := by decide +kernel
theorem dX1_addJoin_49 : decode cX1_addJoin 49 = .ok (.iconst 1, 1) := by decide +kernel
theorem dX1_addJoin_50 : decode cX1_addJoin 50 = .ok (.iadd, 1) := by decide +kernel
theorem dX1_addJoin_51 : decode cX1_addJoin 51 = .ok (.putfield 43, 3) := by decide +kernel
theorem dX1_addJoin_54 : decode cX1_addJoin 54 = .ok (.return_, 1) := by decide +kernel
theorem dX1_addMan_0 : decode cX1_addMan 0 = .ok (.aload_n 0, 1) := by decide +kernel
theorem dX1_addMan_1 : decode cX1_addMan 1 = .ok (.getfield 46, 3) := by decide +kernel
theorem dX1_addMan_4 : decode cX1_addMan 4 = .ok (.iconst 3, 1) := by decide +kernel
theorem dX1_addMan_5 : decode cX1_addMan 5 = .ok (.if_icmp .ge 23, 3) := by decide +kernel
theorem dX1_addMan_8 : decode cX1_addMan 8 = .ok (.aload_n 0, 1) := by decide +kernel
theorem dX1_addMan_9 : decode cX1_addMan 9 = .ok (.getfield 33, 3) := by decide +kernel
theorem dX1_addMan_12 : decode cX1_addMan 12 = .ok (.aload_n 0, 1) := by decide +kernel
theorem dX1_addMan_13 : decode cX1_addMan 13 = .ok (.getfield 46, 3) := by decide +kernel
theorem dX1_addMan_16 : decode cX1_addMan 16 = .ok (.iload_n 1, 1) := by decide +kernel
theorem dX1_addMan_17 : decode cX1_addMan 17 = .ok (.iastore, 1) := by decide +kernel
theorem dX1_addMan_18 : decode cX1_addMan 18 = .ok (.aload_n 0, 1) := by decide +kernel
theorem dX1_addMan_19 : decode cX1_addMan 19 = .ok (.dup, 1) := by decide +kernel
theorem dX1_addMan_20 : decode cX1_addMan 20 = .ok (.getfield 46, 3) := by decide +kernel
theorem dX1_addMan_23 : decode cX1_addMan 23 = .ok (.iconst 1, 1) := by decide +kernel
theorem dX1_addMan_24 : decode cX1_addMan 24 = .ok (.iadd, 1) := by decide +kernel
theorem dX1_addMan_25 : decode cX1_addMan 25 = .ok (.putfield 46, 3) := by decide +kernel
theorem dX1_addMan_28 : decode cX1_addMan 28 = .ok (.return_, 1) := by decide +kernel
theorem dX2_init_0 : decode cX2_init 0 = .ok (.aload_n 0, 1) := by decide +kernel
theorem dX2_init_1 : decode cX2_init 1 = .ok (.invokespecial 3, 3) := by decide +kernel
theorem dX2_init_4 : decode cX2_init 4 = .ok (.aload_n 0, 1) := by decide +kernel
theorem dX2_init_5 : decode cX2_init 5 = .ok (.iconst 4, 1) := by decide +kernel
theorem dX2_init_6 : decode cX2_init 6 = .ok (.newarray .int, 2) := by decide +kernel
theorem dX2_init_8 : decode cX2_init 8 = .ok (.putfield 9, 3) := by decide +kernel
theorem dX2_init_11 : decode cX2_init 11 = .ok (.aload_n 0, 1) := by decide +kernel
theorem dX2_init_12 : decode cX2_init 12 = .ok (.iconst 4, 1) := by decide +kernel
theorem dX2_init_13 : decode cX2_init 13 = .ok (.newarray .int, 2) := by decide +kernel
theorem dX2_init_15 : decode cX2_init 15 = .ok (.putfield 15, 3) := by decide +kernel
theorem dX2_init_18 : decode cX2_init 18 = .ok (.aload_n 0, 1) := by decide +kernel
theorem dX2_init_19 : decode cX2_init 19 = .ok (.iconst 3, 1) := by decide +kernel
theorem dX2_init_20 : decode cX2_init 20 = .ok (.newarray .int, 2) := by decide +kernel
theorem dX2_init_22 : decode cX2_init 22 = .ok (.putfield 18, 3) := by decide +kernel
theorem dX2_init_25 : decode cX2_init 25 = .ok (.aload_n 0, 1) := by decide +kernel
theorem dX2_init_26 : decode cX2_init 26 = .ok (.iconst 3, 1) := by decide +kernel
theorem dX2_init_27 : decode cX2_init 27 = .ok (.newarray .int, 2) := by decide +kernel
theorem dX2_init_29 : decode cX2_init 29 = .ok (.putfield 21, 3) := by decide +kernel
theorem dX2_init_32 : decode cX2_init 32 = .ok (.aload_n 0, 1) := by decide +kernel
theorem dX2_init_33 : decode cX2_init 33 = .ok (.bipush 20, 2) := by decide +kernel
theorem dX2_init_35 : decode cX2_init 35 = .ok (.newarray .int, 2) := by decide +kernel
theorem dX2_init_37 : decode cX2_init 37 = .ok (.putfield 24, 3) := by decide +kernel
theorem dX2_init_40 : decode cX2_init 40 = .ok (.return_, 1) := by decide +kernel
theorem dX2_begin_0 : decode cX2_begin 0 = .ok (.aload_n 0, 1) := by decide +kernel
theorem dX2_begin_1 : decode cX2_begin 1 = .ok (.iconst 0, 1) := by decide +kernel
theorem dX2_begin_2 : decode cX2_begin 2 = .ok (.putfield 27, 3) := by decide +kernel
theorem dX2_begin_5 : decode cX2_begin 5 = .ok (.aload_n 0, 1) := by decide +kernel
theorem dX2_begin_6 : decode cX2_begin 6 = .ok (.iconst 0, 1) := by decide +kernel
theorem dX2_begin_7 : decode cX2_begin 7 = .ok (.putfield 31, 3) := by decide +kernel
theorem dX2_begin_10 : decode cX2_begin 10 = .ok (.aload_n 0, 1) := by decide +kernel
theorem dX2_begin_11 : decode cX2_begin 11 = .ok (.iconst 0, 1) := by decide +kernel
theorem dX2_begin_12 : decode cX2_begin 12 = .ok (.putfield 34, 3) := by decide +kernel
theorem dX2_begin_15 : decode cX2_begin 15 = .ok (.iconst 0, 1) := by decide +kernel
theorem dX2_begin_16 : decode cX2_begin 16 = .ok (.istore_n 2, 1) := by decide +kernel
theorem dX2_begin_17 : decode cX2_begin 17 = .ok (.iload_n 2, 1) := by decide +kernel
theorem dX2_begin_18 : decode cX2_begin 18 = .ok (.iconst 4, 1) := by decide +kernel
theorem dX2_begin_19 : decode cX2_begin 19 = .ok (.if_icmp .ge 23, 3) := by decide +kernel
theorem dX2_begin_22 : decode cX2_begin 22 = .ok (.aload_n 0, 1) := by decide +kernel
theorem dX2_begin_23 : decode cX2_begin 23 = .ok (.getfield 9, 3) := by decide +kernel
theorem dX2_begin_26 : decode cX2_begin 26 = .ok (.iload_n 2, 1) := by decide +kernel
theorem dX2_begin_27 : decode cX2_begin 27 = .ok (.iconst 0, 1) := by decide +kernel
theorem dX2_begin_28 : decode cX2_begin 28 = .ok (.iastore, 1) := by decide +kernel
theorem dX2_begin_29 : decode cX2_begin 29 = .ok (.aload_n 0, 1) := by decide +kernel
theorem dX2_begin_30 : decode cX2_begin 30 = .ok (.getfield 15, 3) := by decide +kernel
theorem dX2_begin_33 : decode cX2_begin 33 = .ok (.iload_n 2, 1) := by decide +kernel
theorem dX2_begin_34 : decode cX2_begin 34 = .ok (.iconst 0, 1) := by decide +kernel
theorem dX2_begin_35 : decode cX2_begin 35 = .ok (.iastore, 1) := by decide +kernel
theorem dX2_begin_36 : decode cX2_begin 36 = .ok (.iinc 2 1, 3) := by decide +kernel
theorem dX2_begin_39 : decode cX2_begin 39 = .ok (.goto (-22), 3) := by decide +kernel
theorem dX2_begin_42 : decode cX2_begin 42 = .ok (.iconst 0, 1) := by decide +kernel
theorem dX2_begin_43 : decode cX2_begin 43 = .ok (.istore_n 2, 1) := by decide +kernel
theorem dX2_begin_44 : decode cX2_begin 44 = .ok (.iload_n 2, 1) := by decide +kernel
theorem dX2_begin_45 : decode cX2_begin 45 = .ok (.iconst 3, 1) := by decide +kernel
theorem dX2_begin_46 : decode cX2_begin 46 = .ok (.if_icmp .ge 17, 3) := by decide +kernel
theorem dX2_begin_49 : decode cX2_begin 49 = .ok (.aload_n 0, 1) := by decide +kernel
theorem dX2_begin_50 : decode cX2_begin 50 = .ok (.getfield 21, 3) := by decide +kernel
theorem dX2_begin_53 : decode cX2_begin 53 = .ok (.iload_n 2, 1) := by decide +kernel
theorem dX2_begin_54 : decode cX2_begin 54 = .ok (.bipush (-9), 2) := by decide +kernel
theorem dX2_begin_56 : decode cX2_begin 56 = .ok (.iastore, 1) := by decide +kernel
theorem dX2_begin_57 : decode cX2_begin 57 = .ok (.iinc 2 1, 3) := by decide +kernel
theorem dX2_begin_60 : decode cX2_begin 60 = .ok (.goto (-16), 3) := by decide +kernel
theorem dX2_begin_63 : decode cX2_begin 63 = .ok (.aload_n 0, 1) := by decide +kernel
theorem dX2_begin_64 : decode cX2_begin 64 = .ok (.aload_n 1, 1) := by decide +kernel
theorem dX2_begin_65 : decode cX2_begin 65 = .ok (.invokevirtual 37, 3) := by decide +kernel
theorem dX2_begin_68 : decode cX2_begin 68 = .ok (.return_, 1) := by decide +kernel
theorem dX2_copyFrom_0 : decode cX2_copyFrom 0 = .ok (.aload_n 0, 1) := by decide +kernel
theorem dX2_copyFrom_1 : decode cX2_copyFrom 1 = .ok (.aload_n 1, 1) := by decide +kernel
theorem dX2_copyFrom_2 : decode cX2_copyFrom 2 = .ok (.getfield 27, 3) := by decide +kernel
theorem dX2_copyFrom_5 : decode cX2_copyFrom 5 = .ok (.putfield 27, 3) := by decide +kernel
theorem dX2_copyFrom_8 : decode cX2_copyFrom 8 = .ok (.aload_n 0, 1) := by decide +kernel
theorem dX2_copyFrom_9 : decode cX2_copyFrom 9 = .ok (.aload_n 1, 1) := by decide +kernel
theorem dX2_copyFrom_10 : decode cX2_copyFrom 10 = .ok (.getfield 31, 3) := by decide +kernel
theorem dX2_copyFrom_13 : decode cX2_copyFrom 13 = .ok (.putfield 31, 3) := by decide +kernel
theorem dX2_copyFrom_16 : decode cX2_copyFrom 16 = .ok (.aload_n 1, 1) := by decide +kernel
theorem dX2_copyFrom_17 : decode cX2_copyFrom 17 = .ok (.getfield 9, 3) := by decide +kernel
theorem dX2_copyFrom_20 : decode cX2_copyFrom 20 = .ok (.iconst 0, 1) := by decide +kernel
theorem dX2_copyFrom_21 : decode cX2_copyFrom 21 = .ok (.aload_n 0, 1) := by decide +kernel
theorem dX2_copyFrom_22 : decode cX2_copyFrom 22 = .ok (.getfield 9, 3) := by decide +kernel
theorem dX2_copyFrom_25 : decode cX2_copyFrom 25 = .ok (.iconst 0, 1) := by decide +kernel
theorem dX2_copyFrom_26 : decode cX2_copyFrom 26 = .ok (.iconst 4, 1) := by decide +kernel
theorem dX2_copyFrom_27 : decode cX2_copyFrom 27 = .ok (.invokestatic 41, 3) := by decide +kernel
theorem dX2_copyFrom_30 : decode cX2_copyFrom 30 = .ok (.aload_n 1, 1) := by decide +kernel
theorem dX2_copyFrom_31 : decode cX2_copyFrom 31 = .ok (.getfield 15, 3) := by decide +kernel
theorem dX2_copyFrom_34 : decode cX2_copyFrom 34 = .ok (.iconst 0, 1) := by decide +kernel
theorem dX2_copyFrom_35 : decode cX2_copyFrom 35 = .ok (.aload_n 0, 1) := by decide +kernel
theorem dX2_copyFrom_36 : decode cX2_copyFrom 36 = .ok (.getfield 15, 3) := by decide +kernel
theorem dX2_copyFrom_39 : decode cX2_copyFrom 39 = .ok (.iconst 0, 1) := by decide +kernel
theorem dX2_copyFrom_40 : decode cX2_copyFrom 40 = .ok (.iconst 4, 1) := by decide +kernel
theorem dX2_copyFrom_41 : decode cX2_copyFrom 41 = .ok (.invokestatic 41, 3) := by decide +kernel
theorem dX2_copyFrom_44 : decode cX2_copyFrom 44 = .ok (.aload_n 1, 1) := by decide +kernel
theorem dX2_copyFrom_45 : decode cX2_copyFrom 45 = .ok (.getfield 18, 3) := by decide +kernel
theorem dX2_copyFrom_48 : decode cX2_copyFrom 48 = .ok (.iconst 0, 1) := by decide +kernel
theorem dX2_copyFrom_49 : decode cX2_copyFrom 49 = .ok (.aload_n 0, 1) := by decide +kernel
theorem dX2_copyFrom_50 : decode cX2_copyFrom 50 = .ok (.getfield 18, 3) := by decide +kernel
theorem dX2_copyFrom_53 : decode cX2_copyFrom 53 = .ok (.iconst 0, 1) := by decide +kernel
theorem dX2_copyFrom_54 : decode cX2_copyFrom 54 = .ok (.iconst 3, 1) := by decide +kernel
theorem dX2_copyFrom_55 : decode cX2_copyFrom 55 = .ok (.invokestatic 41, 3) := by decide +kernel
theorem dX2_copyFrom_58 : decode cX2_copyFrom 58 = .ok (.aload_n 1, 1) := by decide +kernel
theorem dX2_copyFrom_59 : decode cX2_copyFrom 59 = .ok (.getfield 21, 3) := by decide +kernel
theorem dX2_copyFrom_62 : decode cX2_copyFrom 62 = .ok (.iconst 0, 1) := by decide +kernel
theorem dX2_copyFrom_63 : decode cX2_copyFrom 63 = .ok (.aload_n 0, 1) := by decide +kernel
theorem dX2_copyFrom_64 : decode cX2_copyFrom 64 = .ok (.getfield 21, 3) := by decide +kernel
theorem dX2_copyFrom_67 : decode cX2_copyFrom 67 = .ok (.iconst 0, 1) := by decide +kernel
theorem dX2_copyFrom_68 : decode cX2_copyFrom 68 = .ok (.iconst 3, 1) := by decide +kernel
theorem dX2_copyFrom_69 : decode cX2_copyFrom 69 = .ok (.invokestatic 41, 3) := by decide +kernel
theorem dX2_copyFrom_72 : decode cX2_copyFrom 72 = .ok (.aload_n 1, 1) := by decide +kernel
theorem dX2_copyFrom_73 : decode cX2_copyFrom 73 = .ok (.getfield 24, 3) := by decide +kernel
theorem dX2_copyFrom_76 : decode cX2_copyFrom 76 = .ok (.iconst 0, 1) := by decide +kernel
theorem dX2_copyFrom_77 : decode cX2_copyFrom 77 = .ok (.aload_n 0, 1) := by decide +kernel
theorem dX2_copyFrom_78 : decode cX2_copyFrom 78 = .ok (.getfield 24, 3) := by decide +kernel
theorem dX2_copyFrom_81 : decode cX2_copyFrom 81 = .ok (.iconst 0, 1) := by decide +kernel
theorem dX2_copyFrom_82 : decode cX2_copyFrom 82 = .ok (.bipush 20, 2) := by decide +kernel
theorem dX2_copyFrom_84 : decode cX2_copyFrom 84 = .ok (.invokestatic 41, 3) := by decide +kernel
theorem dX2_copyFrom_87 : decode cX2_copyFrom 87 = .ok (.aload_n 0, 1) := by decide +kernel
theorem dX2_copyFrom_88 : decode cX2_copyFrom 88 = .ok (.aload_n 1, 1) := by decide +kernel
theorem dX2_copyFrom_89 : decode cX2_copyFrom 89 = .ok (.getfield 34, 3) := by decide +kernel
theorem dX2_copyFrom_92 : decode cX2_copyFrom 92 = .ok (.putfield 34, 3) := by decide +kernel
theorem dX2_copyFrom_95 : decode cX2_copyFrom 95 = .ok (.return_, 1) := by decide +kernel
theorem dX2_isOver_0 : decode cX2_isOver 0 = .ok (.aload_n 0, 1) := by decide +kernel
theorem dX2_isOver_1 : decode cX2_isOver 1 = .ok (.getfield 9, 3) := by decide +kernel
theorem dX2_isOver_4 : decode cX2_isOver 4 = .ok (.iload_n 2, 1) := by decide +kernel
theorem dX2_isOver_5 : decode cX2_isOver 5 = .ok (.iaload, 1) := by decide +kernel
theorem dX2_isOver_6 : decode cX2_isOver 6 = .ok (.aload_n 1, 1) := by decide +kernel
theorem dX2_isOver_7 : decode cX2_isOver 7 = .ok (.getfield 47, 3) := by decide +kernel
theorem dX2_isOver_10 : decode cX2_isOver 10 = .ok (.iload_n 2, 1) := by decide +kernel
theorem dX2_isOver_11 : decode cX2_isOver 11 = .ok (.iaload, 1) := by decide +kernel
theorem dX2_isOver_12 : decode cX2_isOver 12 = .ok (.if_icmp .lt 7, 3) := by decide +kernel
theorem dX2_isOver_15 : decode cX2_isOver 15 = .ok (.iconst 1, 1) := by decide +kernel
theorem dX2_isOver_16 : decode cX2_isOver 16 = .ok (.goto 4, 3) := by decide +kernel
theorem dX2_isOver_19 : decode cX2_isOver 19 = .ok (.iconst 0, 1) := by decide +kernel
theorem dX2_isOver_20 : decode cX2_isOver 20 = .ok (.ireturn, 1) := by decide +kernel
theorem dX2_overBits_0 : decode cX2_overBits 0 = .ok (.iconst 0, 1) := by decide +kernel
theorem dX2_overBits_1 : decode cX2_overBits 1 = .ok (.istore_n 2, 1) := by decide +kernel
theorem dX2_overBits_2 : decode cX2_overBits 2 = .ok (.iconst 0, 1) := by decide +kernel
theorem dX2_overBits_3 : decode cX2_overBits 3 = .ok (.istore_n 3, 1) := by decide +kernel
theorem dX2_overBits_4 : decode cX2_overBits 4 = .ok (.iload_n 3, 1) := by decide +kernel
theorem dX2_overBits_5 : decode cX2_overBits 5 = .ok (.aload_n 1, 1) := by decide +kernel
theorem dX2_overBits_6 : decode cX2_overBits 6 = .ok (.getfield 52, 3) := by decide +kernel
theorem dX2_overBits_9 : decode cX2_overBits 9 = .ok (.if_icmp .ge 24, 3) := by decide +kernel
theorem dX2_overBits_12 : decode cX2_overBits 12 = .ok (.aload_n 0, 1) := by decide +kernel
theorem dX2_overBits_13 : decode cX2_overBits 13 = .ok (.aload_n 1, 1) := by decide +kernel
theorem dX2_overBits_14 : decode cX2_overBits 14 = .ok (.iload_n 3, 1) := by decide +kernel
theorem dX2_overBits_15 : decode cX2_overBits 15 = .ok (.invokevirtual 55, 3) := by decide +kernel
theorem dX2_overBits_18 : decode cX2_overBits 18 = .ok (.ifCond .eq 9, 3) := by decide +kernel
theorem dX2_overBits_21 : decode cX2_overBits 21 = .ok (.iload_n 2, 1) := by decide +kernel
theorem dX2_overBits_22 : decode cX2_overBits 22 = .ok (.iconst 1, 1) := by decide +kernel
theorem dX2_overBits_23 : decode cX2_overBits 23 = .ok (.iload_n 3, 1) := by decide +kernel
theorem dX2_overBits_24 : decode cX2_overBits 24 = .ok (.ishl, 1) := by decide +kernel
theorem dX2_overBits_25 : decode cX2_overBits 25 = .ok (.ior, 1) := by decide +kernel
theorem dX2_overBits_26 : decode cX2_overBits 26 = .ok (.istore_n 2, 1) := by decide +kernel
theorem dX2_overBits_27 : decode cX2_overBits 27 = .ok (.iinc 3 1, 3) := by decide +kernel
theorem dX2_overBits_30 : decode cX2_overBits 30 = .ok (.goto (-26), 3) := by decide +kernel
theorem dX2_overBits_33 : decode cX2_overBits 33 = .ok (.iload_n 2, 1) := by decide +kernel
theorem dX2_overBits_34 : decode cX2_overBits 34 = .ok (.ireturn, 1) := by decide +kernel
theorem dX2_sizeNow_0 : decode cX2_sizeNow 0 = .ok (.iconst 1, 1) := by decide +kernel
theorem dX2_sizeNow_1 : decode cX2_sizeNow 1 = .ok (.aload_n 1, 1) := by decide +kernel
theorem dX2_sizeNow_2 : decode cX2_sizeNow 2 = .ok (.getfield 59, 3) := by decide +kernel
theorem dX2_sizeNow_5 : decode cX2_sizeNow 5 = .ok (.iload_n 2, 1) := by decide +kernel
theorem dX2_sizeNow_6 : decode cX2_sizeNow 6 = .ok (.iaload, 1) := by decide +kernel
theorem dX2_sizeNow_7 : decode cX2_sizeNow 7 = .ok (.aload_n 0, 1) := by decide +kernel
theorem dX2_sizeNow_8 : decode cX2_sizeNow 8 = .ok (.getfield 15, 3) := by decide +kernel
theorem dX2_sizeNow_11 : decode cX2_sizeNow 11 = .ok (.iload_n 2, 1) := by decide +kernel
theorem dX2_sizeNow_12 : decode cX2_sizeNow 12 = .ok (.iaload, 1) := by decide +kernel
theorem dX2_sizeNow_13 : decode cX2_sizeNow 13 = .ok (.bipush 8, 2) := by decide +kernel
theorem dX2_sizeNow_15 : decode cX2_sizeNow 15 = .ok (.idiv, 1) := by decide +kernel
theorem dX2_sizeNow_16 : decode cX2_sizeNow 16 = .ok (.isub, 1) := by decide +kernel
theorem dX2_sizeNow_17 : decode cX2_sizeNow 17 = .ok (.invokestatic 62, 3) := by decide +kernel
theorem dX2_sizeNow_20 : decode cX2_sizeNow 20 = .ok (.ireturn, 1) := by decide +kernel
theorem dX2_needOf_0 : decode cX2_needOf 0 = .ok (.aload_n 0, 1) := by decide +kernel
theorem dX2_needOf_1 : decode cX2_needOf 1 = .ok (.aload_n 1, 1) := by decide +kernel
theorem dX2_needOf_2 : decode cX2_needOf 2 = .ok (.iload_n 2, 1) := by decide +kernel
theorem dX2_needOf_3 : decode cX2_needOf 3 = .ok (.invokevirtual 68, 3) := by decide +kernel
theorem dX2_needOf_6 : decode cX2_needOf 6 = .ok (.aload_n 1, 1) := by decide +kernel
theorem dX2_needOf_7 : decode cX2_needOf 7 = .ok (.getfield 72, 3) := by decide +kernel
theorem dX2_needOf_10 : decode cX2_needOf 10 = .ok (.iload_n 2, 1) := by decide +kernel
theorem dX2_needOf_11 : decode cX2_needOf 11 = .ok (.iaload, 1) := by decide +kernel
theorem dX2_needOf_12 : decode cX2_needOf 12 = .ok (.iadd, 1) := by decide +kernel
theorem dX2_needOf_13 : decode cX2_needOf 13 = .ok (.ireturn, 1) := by decide +kernel
theorem dX2_hoursLeft_0 : decode cX2_hoursLeft 0 = .ok (.aload_n 1, 1) := by decide +kernel
theorem dX2_hoursLeft_1 : decode cX2_hoursLeft 1 = .ok (.getfield 75, 3) := by decide +kernel
theorem dX2_hoursLeft_4 : decode cX2_hoursLeft 4 = .ok (.aload_n 0, 1) := by decide +kernel
theorem dX2_hoursLeft_5 : decode cX2_hoursLeft 5 = .ok (.getfield 31, 3) := by decide +kernel
theorem dX2_hoursLeft_8 : decode cX2_hoursLeft 8 = .ok (.isub, 1) := by decide +kernel
theorem dX2_hoursLeft_9 : decode cX2_hoursLeft 9 = .ok (.ireturn, 1) := by decide +kernel
theorem dX2_menAt_0 : decode cX2_menAt 0 = .ok (.iconst 0, 1) := by decide +kernel
theorem dX2_menAt_1 : decode cX2_menAt 1 = .ok (.istore_n 3, 1) := by decide +kernel
theorem dX2_menAt_2 : decode cX2_menAt 2 = .ok (.iconst 0, 1) := by decide +kernel
theorem dX2_menAt_3 : decode cX2_menAt 3 = .ok (.istore 4, 2) := by decide +kernel
theorem dX2_menAt_5 : decode cX2_menAt 5 = .ok (.iload 4, 2) := by decide +kernel
theorem dX2_menAt_7 : decode cX2_menAt 7 = .ok (.aload_n 1, 1) := by decide +kernel
theorem dX2_menAt_8 : decode cX2_menAt 8 = .ok (.getfield 78, 3) := by decide +kernel
theorem dX2_menAt_11 : decode cX2_menAt 11 = .ok (.if_icmp .ge 23, 3) := by decide +kernel
theorem dX2_menAt_14 : decode cX2_menAt 14 = .ok (.aload_n 0, 1) := by decide +kernel
theorem dX2_menAt_15 : decode cX2_menAt 15 = .ok (.getfield 21, 3) := by decide +kernel
theorem dX2_menAt_18 : decode cX2_menAt 18 = .ok (.iload 4, 2) := by decide +kernel
theorem dX2_menAt_20 : decode cX2_menAt 20 = .ok (.iaload, 1) := by decide +kernel
theorem dX2_menAt_21 : decode cX2_menAt 21 = .ok (.iload_n 2, 1) := by decide +kernel
theorem dX2_menAt_22 : decode cX2_menAt 22 = .ok (.if_icmp .ne 6, 3) := by decide +kernel
theorem dX2_menAt_25 : decode cX2_menAt 25 = .ok (.iinc 3 1, 3) := by decide +kernel
theorem dX2_menAt_28 : decode cX2_menAt 28 = .ok (.iinc 4 1, 3) := by decide +kernel
theorem dX2_menAt_31 : decode cX2_menAt 31 = .ok (.goto (-26), 3) := by decide +kernel
theorem dX2_menAt_34 : decode cX2_menAt 34 = .ok (.iload_n 3, 1) := by decide +kernel
theorem dX2_menAt_35 : decode cX2_menAt 35 = .ok (.ireturn, 1) := by decide +kernel
theorem dX2_strengthAt_0 : decode cX2_strengthAt 0 = .ok (.iconst 0, 1) := by decide +kernel
theorem dX2_strengthAt_1 : decode cX2_strengthAt 1 = .ok (.istore_n 3, 1) := by decide +kernel
theorem dX2_strengthAt_2 : decode cX2_strengthAt 2 = .ok (.iconst 0, 1) := by decide +kernel
theorem dX2_strengthAt_3 : decode cX2_strengthAt 3 = .ok (.istore 4, 2) := by decide +kernel
theorem dX2_strengthAt_5 : decode cX2_strengthAt 5 = .ok (.iload 4, 2) := by decide +kernel
theorem dX2_strengthAt_7 : decode cX2_strengthAt 7 = .ok (.aload_n 1, 1) := by decide +kernel
theorem dX2_strengthAt_8 : decode cX2_strengthAt 8 = .ok (.getfield 78, 3) := by decide +kernel
theorem dX2_strengthAt_11 : decode cX2_strengthAt 11 = .ok (.if_icmp .ge 30, 3) := by decide +kernel
theorem dX2_strengthAt_14 : decode cX2_strengthAt 14 = .ok (.aload_n 0, 1) := by decide +kernel
theorem dX2_strengthAt_15 : decode cX2_strengthAt 15 = .ok (.getfield 21, 3) := by decide +kernel
theorem dX2_strengthAt_18 : decode cX2_strengthAt 18 = .ok (.iload 4, 2) := by decide +kernel
theorem dX2_strengthAt_20 : decode cX2_strengthAt 20 = .ok (.iaload, 1) := by decide +kernel
theorem dX2_strengthAt_21 : decode cX2_strengthAt 21 = .ok (.iload_n 2, 1) := by decide +kernel
theorem dX2_strengthAt_22 : decode cX2_strengthAt 22 = .ok (.if_icmp .ne 13, 3) := by decide +kernel
theorem dX2_strengthAt_25 : decode cX2_strengthAt 25 = .ok (.iload_n 3, 1) := by decide +kernel
theorem dX2_strengthAt_26 : decode cX2_strengthAt 26 = .ok (.aload_n 0, 1) := by decide +kernel
theorem dX2_strengthAt_27 : decode cX2_strengthAt 27 = .ok (.getfield 18, 3) := by decide +kernel
theorem dX2_strengthAt_30 : decode cX2_strengthAt 30 = .ok (.iload 4, 2) := by decide +kernel
theorem dX2_strengthAt_32 : decode cX2_strengthAt 32 = .ok (.iaload, 1) := by decide +kernel
theorem dX2_strengthAt_33 : decode cX2_strengthAt 33 = .ok (.iadd, 1) := by decide +kernel
theorem dX2_strengthAt_34 : decode cX2_strengthAt 34 = .ok (.istore_n 3, 1) := by decide +kernel
theorem dX2_strengthAt_35 : decode cX2_strengthAt 35 = .ok (.iinc 4 1, 3) := by decide +kernel
theorem dX2_strengthAt_38 : decode cX2_strengthAt 38 = .ok (.goto (-33), 3) := by decide +kernel
theorem dX2_strengthAt_41 : decode cX2_strengthAt 41 = .ok (.iload_n 3, 1) := by decide +kernel
theorem dX2_strengthAt_42 : decode cX2_strengthAt 42 = .ok (.ireturn, 1) := by decide +kernel
theorem dX2_strengthAfter_0 : decode cX2_strengthAfter 0 = .ok (.iconst 0, 1) := by decide +kernel
theorem dX2_strengthAfter_1 : decode cX2_strengthAfter 1 = .ok (.istore_n 3, 1) := by decide +kernel
theorem dX2_strengthAfter_2 : decode cX2_strengthAfter 2 = .ok (.iconst 0, 1) := by decide +kernel
theorem dX2_strengthAfter_3 : decode cX2_strengthAfter 3 = .ok (.istore 4, 2) := by decide +kernel
theorem dX2_strengthAfter_5 : decode cX2_strengthAfter 5 = .ok (.iload 4, 2) := by decide +kernel
theorem dX2_strengthAfter_7 : decode cX2_strengthAfter 7 = .ok (.aload_n 1, 1) := by decide +kernel
theorem dX2_strengthAfter_8 : decode cX2_strengthAfter 8 = .ok (.getfield 78, 3) := by decide +kernel
theorem dX2_strengthAfter_11 : decode cX2_strengthAfter 11 = .ok (.if_icmp .ge 25, 3) := by decide +kernel
theorem dX2_strengthAfter_14 : decode cX2_strengthAfter 14 = .ok (.iload_n 3, 1) := by decide +kernel
theorem dX2_strengthAfter_15 : decode cX2_strengthAfter 15 = .ok (.iconst 0, 1) := by decide +kernel
theorem dX2_strengthAfter_16 : decode cX2_strengthAfter 16 = .ok (.aload_n 0, 1) := by decide +kernel
theorem dX2_strengthAfter_17 : decode cX2_strengthAfter 17 = .ok (.getfield 18, 3) := by decide +kernel
theorem dX2_strengthAfter_20 : decode cX2_strengthAfter 20 = .ok (.iload 4, 2) := by decide +kernel
theorem dX2_strengthAfter_22 : decode cX2_strengthAfter 22 = .ok (.iaload, 1) := by decide +kernel
theorem dX2_strengthAfter_23 : decode cX2_strengthAfter 23 = .ok (.iload_n 2, 1) := by decide +kernel
theorem dX2_strengthAfter_24 : decode cX2_strengthAfter 24 = .ok (.isub, 1) := by decide +kernel
theorem dX2_strengthAfter_25 : decode cX2_strengthAfter 25 = .ok (.invokestatic 62, 3) := by decide +kernel
theorem dX2_strengthAfter_28 : decode cX2_strengthAfter 28 = .ok (.iadd, 1) := by decide +kernel
theorem dX2_strengthAfter_29 : decode cX2_strengthAfter 29 = .ok (.istore_n 3, 1) := by decide +kernel
theorem dX2_strengthAfter_30 : decode cX2_strengthAfter 30 = .ok (.iinc 4 1, 3) := by decide +kernel
theorem dX2_strengthAfter_33 : decode cX2_strengthAfter 33 = .ok (.goto (-28), 3) := by decide +kernel
theorem dX2_strengthAfter_36 : decode cX2_strengthAfter 36 = .ok (.iload_n 3, 1) := by decide +kernel
theorem dX2_strengthAfter_37 : decode cX2_strengthAfter 37 = .ok (.ireturn, 1) := by decide +kernel
theorem dX2_blockersAt_0 : decode cX2_blockersAt 0 = .ok (.iconst 0, 1) := by decide +kernel
theorem dX2_blockersAt_1 : decode cX2_blockersAt 1 = .ok (.istore 4, 2) := by decide +kernel
theorem dX2_blockersAt_3 : decode cX2_blockersAt 3 = .ok (.iconst 0, 1) := by decide +kernel
theorem dX2_blockersAt_4 : decode cX2_blockersAt 4 = .ok (.istore 5, 2) := by decide +kernel
theorem dX2_blockersAt_6 : decode cX2_blockersAt 6 = .ok (.iload 5, 2) := by decide +kernel
theorem dX2_blockersAt_8 : decode cX2_blockersAt 8 = .ok (.aload_n 1, 1) := by decide +kernel
theorem dX2_blockersAt_9 : decode cX2_blockersAt 9 = .ok (.getfield 52, 3) := by decide +kernel
theorem dX2_blockersAt_12 : decode cX2_blockersAt 12 = .ok (.if_icmp .ge 68, 3) := by decide +kernel
theorem dX2_blockersAt_15 : decode cX2_blockersAt 15 = .ok (.iload 5, 2) := by decide +kernel
theorem dX2_blockersAt_17 : decode cX2_blockersAt 17 = .ok (.iload_n 2, 1) := by decide +kernel
theorem dX2_blockersAt_18 : decode cX2_blockersAt 18 = .ok (.if_icmp .eq 28, 3) := by decide +kernel
theorem dX2_blockersAt_21 : decode cX2_blockersAt 21 = .ok (.aload_n 0, 1) := by decide +kernel
theorem dX2_blockersAt_22 : decode cX2_blockersAt 22 = .ok (.getfield 9, 3) := by decide +kernel
theorem dX2_blockersAt_25 : decode cX2_blockersAt 25 = .ok (.iload 5, 2) := by decide +kernel
theorem dX2_blockersAt_27 : decode cX2_blockersAt 27 = .ok (.iaload, 1) := by decide +kernel
theorem dX2_blockersAt_28 : decode cX2_blockersAt 28 = .ok (.iload_n 3, 1) := by decide +kernel
theorem dX2_blockersAt_29 : decode cX2_blockersAt 29 = .ok (.if_icmp .ne 17, 3) := by decide +kernel
theorem dX2_blockersAt_32 : decode cX2_blockersAt 32 = .ok (.aload_n 0, 1) := by decide +kernel
theorem dX2_blockersAt_33 : decode cX2_blockersAt 33 = .ok (.aload_n 1, 1) := by decide +kernel
theorem dX2_blockersAt_34 : decode cX2_blockersAt 34 = .ok (.iload 5, 2) := by decide +kernel
theorem dX2_blockersAt_36 : decode cX2_blockersAt 36 = .ok (.invokevirtual 55, 3) := by decide +kernel
theorem dX2_blockersAt_39 : decode cX2_blockersAt 39 = .ok (.ifCond .ne 7, 3) := by decide +kernel
theorem dX2_blockersAt_42 : decode cX2_blockersAt 42 = .ok (.iconst 1, 1) := by decide +kernel
theorem dX2_blockersAt_43 : decode cX2_blockersAt 43 = .ok (.goto 4, 3) := by decide +kernel
theorem dX2_blockersAt_46 : decode cX2_blockersAt 46 = .ok (.iconst 0, 1) := by decide +kernel
theorem dX2_blockersAt_47 : decode cX2_blockersAt 47 = .ok (.istore 6, 2) := by decide +kernel
theorem dX2_blockersAt_49 : decode cX2_blockersAt 49 = .ok (.iload 6, 2) := by decide +kernel
theorem dX2_blockersAt_51 : decode cX2_blockersAt 51 = .ok (.ifCond .eq 23, 3) := by decide +kernel
theorem dX2_blockersAt_54 : decode cX2_blockersAt 54 = .ok (.aload_n 1, 1) := by decide +kernel
theorem dX2_blockersAt_55 : decode cX2_blockersAt 55 = .ok (.iload_n 2, 1) := by decide +kernel
theorem dX2_blockersAt_56 : decode cX2_blockersAt 56 = .ok (.iload 5, 2) := by decide +kernel
theorem dX2_blockersAt_58 : decode cX2_blockersAt 58 = .ok (.iload_n 3, 1) := by decide +kernel
theorem dX2_blockersAt_59 : decode cX2_blockersAt 59 = .ok (.invokevirtual 81, 3) := by decide +kernel
theorem dX2_blockersAt_62 : decode cX2_blockersAt 62 = .ok (.ifCond .eq 12, 3) := by decide +kernel
theorem dX2_blockersAt_65 : decode cX2_blockersAt 65 = .ok (.iload 4, 2) := by decide +kernel
theorem dX2_blockersAt_67 : decode cX2_blockersAt 67 = .ok (.iconst 1, 1) := by decide +kernel
theorem dX2_blockersAt_68 : decode cX2_blockersAt 68 = .ok (.iload 5, 2) := by decide +kernel
theorem dX2_blockersAt_70 : decode cX2_blockersAt 70 = .ok (.ishl, 1) := by decide +kernel
theorem dX2_blockersAt_71 : decode cX2_blockersAt 71 = .ok (.ior, 1) := by decide +kernel
theorem dX2_blockersAt_72 : decode cX2_blockersAt 72 = .ok (.istore 4, 2) := by decide +kernel
theorem dX2_blockersAt_74 : decode cX2_blockersAt 74 = .ok (.iinc 5 1, 3) := by decide +kernel
theorem dX2_blockersAt_77 : decode cX2_blockersAt 77 = .ok (.goto (-71), 3) := by decide +kernel
theorem dX2_blockersAt_80 : decode cX2_blockersAt 80 = .ok (.iload 4, 2) := by decide +kernel
theorem dX2_blockersAt_82 : decode cX2_blockersAt 82 = .ok (.ireturn, 1) := by decide +kernel
theorem dX2_freeSteps_0 : decode cX2_freeSteps 0 = .ok (.iconst 0, 1) := by decide +kernel
theorem dX2_freeSteps_1 : decode cX2_freeSteps 1 = .ok (.istore_n 3, 1) := by decide +kernel
theorem dX2_freeSteps_2 : decode cX2_freeSteps 2 = .ok (.aload_n 0, 1) := by decide +kernel
theorem dX2_freeSteps_3 : decode cX2_freeSteps 3 = .ok (.getfield 9, 3) := by decide +kernel
theorem dX2_freeSteps_6 : decode cX2_freeSteps 6 = .ok (.iload_n 2, 1) := by decide +kernel
theorem dX2_freeSteps_7 : decode cX2_freeSteps 7 = .ok (.iaload, 1) := by decide +kernel
theorem dX2_freeSteps_8 : decode cX2_freeSteps 8 = .ok (.iconst 1, 1) := by decide +kernel
theorem dX2_freeSteps_9 : decode cX2_freeSteps 9 = .ok (.iadd, 1) := by decide +kernel
theorem dX2_freeSteps_10 : decode cX2_freeSteps 10 = .ok (.istore 4, 2) := by decide +kernel
theorem dX2_freeSteps_12 : decode cX2_freeSteps 12 = .ok (.iload 4, 2) := by decide +kernel
theorem dX2_freeSteps_14 : decode cX2_freeSteps 14 = .ok (.aload_n 1, 1) := by decide +kernel
theorem dX2_freeSteps_15 : decode cX2_freeSteps 15 = .ok (.getfield 47, 3) := by decide +kernel
theorem dX2_freeSteps_18 : decode cX2_freeSteps 18 = .ok (.iload_n 2, 1) := by decide +kernel
theorem dX2_freeSteps_19 : decode cX2_freeSteps 19 = .ok (.iaload, 1) := by decide +kernel
theorem dX2_freeSteps_20 : decode cX2_freeSteps 20 = .ok (.if_icmp .gt 26, 3) := by decide +kernel
theorem dX2_freeSteps_23 : decode cX2_freeSteps 23 = .ok (.aload_n 0, 1) := by decide +kernel
theorem dX2_freeSteps_24 : decode cX2_freeSteps 24 = .ok (.aload_n 1, 1) := by decide +kernel
theorem dX2_freeSteps_25 : decode cX2_freeSteps 25 = .ok (.iload_n 2, 1) := by decide +kernel
theorem dX2_freeSteps_26 : decode cX2_freeSteps 26 = .ok (.iload 4, 2) := by decide +kernel
theorem dX2_freeSteps_28 : decode cX2_freeSteps 28 = .ok (.invokevirtual 85, 3) := by decide +kernel
theorem dX2_freeSteps_31 : decode cX2_freeSteps 31 = .ok (.ifCond .eq 6, 3) := by decide +kernel
theorem dX2_freeSteps_34 : decode cX2_freeSteps 34 = .ok (.goto 12, 3) := by decide +kernel
theorem dX2_freeSteps_37 : decode cX2_freeSteps 37 = .ok (.iinc 3 1, 3) := by decide +kernel
theorem dX2_freeSteps_40 : decode cX2_freeSteps 40 = .ok (.iinc 4 1, 3) := by decide +kernel
theorem dX2_freeSteps_43 : decode cX2_freeSteps 43 = .ok (.goto (-31), 3) := by decide +kernel
theorem dX2_freeSteps_46 : decode cX2_freeSteps 46 = .ok (.iload_n 3, 1) := by decide +kernel
theorem dX2_freeSteps_47 : decode cX2_freeSteps 47 = .ok (.ireturn, 1) := by decide +kernel
theorem dX2_passHour_0 : decode cX2_passHour 0 = .ok (.aload_n 0, 1) := by decide +kernel
theorem dX2_passHour_1 : decode cX2_passHour 1 = .ok (.aload_n 1, 1) := by decide +kernel
theorem dX2_passHour_2 : decode cX2_passHour 2 = .ok (.invokevirtual 89, 3) := by decide +kernel
theorem dX2_passHour_5 : decode cX2_passHour 5 = .ok (.istore_n 2, 1) := by decide +kernel
theorem dX2_passHour_6 : decode cX2_passHour 6 = .ok (.iconst 0, 1) := by decide +kernel
theorem dX2_passHour_7 : decode cX2_passHour 7 = .ok (.istore_n 3, 1) := by decide +kernel
theorem dX2_passHour_8 : decode cX2_passHour 8 = .ok (.iconst 0, 1) := by decide +kernel
theorem dX2_passHour_9 : decode cX2_passHour 9 = .ok (.istore 4, 2) := by decide +kernel
theorem dX2_passHour_11 : decode cX2_passHour 11 = .ok (.iload 4, 2) := by decide +kernel
theorem dX2_passHour_13 : decode cX2_passHour 13 = .ok (.aload_n 1, 1) := by decide +kernel
theorem dX2_passHour_14 : decode cX2_passHour 14 = .ok (.getfield 52, 3) := by decide +kernel
theorem dX2_passHour_17 : decode cX2_passHour 17 = .ok (.if_icmp .ge 33, 3) := by decide +kernel
theorem dX2_passHour_20 : decode cX2_passHour 20 = .ok (.aload_n 0, 1) := by decide +kernel
theorem dX2_passHour_21 : decode cX2_passHour 21 = .ok (.aload_n 1, 1) := by decide +kernel
theorem dX2_passHour_22 : decode cX2_passHour 22 = .ok (.iload 4, 2) := by decide +kernel
theorem dX2_passHour_24 : decode cX2_passHour 24 = .ok (.invokevirtual 93, 3) := by decide +kernel
theorem dX2_passHour_27 : decode cX2_passHour 27 = .ok (.ifCond .eq 17, 3) := by decide +kernel
theorem dX2_passHour_30 : decode cX2_passHour 30 = .ok (.aload_n 0, 1) := by decide +kernel
theorem dX2_passHour_31 : decode cX2_passHour 31 = .ok (.getfield 9, 3) := by decide +kernel
theorem dX2_passHour_34 : decode cX2_passHour 34 = .ok (.iload 4, 2) := by decide +kernel
theorem dX2_passHour_36 : decode cX2_passHour 36 = .ok (.dup2, 1) := by decide +kernel
theorem dX2_passHour_37 : decode cX2_passHour 37 = .ok (.iaload, 1) := by decide +kernel
theorem dX2_passHour_38 : decode cX2_passHour 38 = .ok (.iconst 1, 1) := by decide +kernel
theorem dX2_passHour_39 : decode cX2_passHour 39 = .ok (.iadd, 1) := by decide +kernel
theorem dX2_passHour_40 : decode cX2_passHour 40 = .ok (.iastore, 1) := by decide +kernel
theorem dX2_passHour_41 : decode cX2_passHour 41 = .ok (.iinc 3 1, 3) := by decide +kernel
theorem dX2_passHour_44 : decode cX2_passHour 44 = .ok (.iinc 4 1, 3) := by decide +kernel
theorem dX2_passHour_47 : decode cX2_passHour 47 = .ok (.goto (-36), 3) := by decide +kernel
theorem dX2_passHour_50 : decode cX2_passHour 50 = .ok (.iconst 0, 1) := by decide +kernel
theorem dX2_passHour_51 : decode cX2_passHour 51 = .ok (.istore 4, 2) := by decide +kernel
theorem dX2_passHour_53 : decode cX2_passHour 53 = .ok (.iload 4, 2) := by decide +kernel
theorem dX2_passHour_55 : decode cX2_passHour 55 = .ok (.aload_n 1, 1) := by decide +kernel
theorem dX2_passHour_56 : decode cX2_passHour 56 = .ok (.getfield 78, 3) := by decide +kernel
theorem dX2_passHour_59 : decode cX2_passHour 59 = .ok (.if_icmp .ge 91, 3) := by decide +kernel
theorem dX2_passHour_62 : decode cX2_passHour 62 = .ok (.aload_n 1, 1) := by decide +kernel
theorem dX2_passHour_63 : decode cX2_passHour 63 = .ok (.aload_n 0, 1) := by decide +kernel
theorem dX2_passHour_64 : decode cX2_passHour 64 = .ok (.getfield 21, 3) := by decide +kernel
theorem dX2_passHour_67 : decode cX2_passHour 67 = .ok (.iload 4, 2) := by decide +kernel
theorem dX2_passHour_69 : decode cX2_passHour 69 = .ok (.iaload, 1) := by decide +kernel
theorem dX2_passHour_70 : decode cX2_passHour 70 = .ok (.invokevirtual 96, 3) := by decide +kernel
theorem dX2_passHour_73 : decode cX2_passHour 73 = .ok (.ifCond .eq 21, 3) := by decide +kernel
theorem dX2_passHour_76 : decode cX2_passHour 76 = .ok (.iload_n 2, 1) := by decide +kernel
theorem dX2_passHour_77 : decode cX2_passHour 77 = .ok (.aload_n 0, 1) := by decide +kernel
theorem dX2_passHour_78 : decode cX2_passHour 78 = .ok (.getfield 21, 3) := by decide +kernel
theorem dX2_passHour_81 : decode cX2_passHour 81 = .ok (.iload 4, 2) := by decide +kernel
theorem dX2_passHour_83 : decode cX2_passHour 83 = .ok (.iaload, 1) := by decide +kernel
theorem dX2_passHour_84 : decode cX2_passHour 84 = .ok (.ishr, 1) := by decide +kernel
theorem dX2_passHour_85 : decode cX2_passHour 85 = .ok (.iconst 1, 1) := by decide +kernel
theorem dX2_passHour_86 : decode cX2_passHour 86 = .ok (.iand, 1) := by decide +kernel
theorem dX2_passHour_87 : decode cX2_passHour 87 = .ok (.ifCond .ne 7, 3) := by decide +kernel
theorem dX2_passHour_90 : decode cX2_passHour 90 = .ok (.iconst 1, 1) := by decide +kernel
theorem dX2_passHour_91 : decode cX2_passHour 91 = .ok (.goto 4, 3) := by decide +kernel
theorem dX2_passHour_94 : decode cX2_passHour 94 = .ok (.iconst 0, 1) := by decide +kernel
theorem dX2_passHour_95 : decode cX2_passHour 95 = .ok (.istore 5, 2) := by decide +kernel
theorem dX2_passHour_97 : decode cX2_passHour 97 = .ok (.aload_n 0, 1) := by decide +kernel
theorem dX2_passHour_98 : decode cX2_passHour 98 = .ok (.getfield 18, 3) := by decide +kernel
theorem dX2_passHour_101 : decode cX2_passHour 101 = .ok (.iload 4, 2) := by decide +kernel
theorem dX2_passHour_103 : decode cX2_passHour 103 = .ok (.iload 5, 2) := by decide +kernel
theorem dX2_passHour_105 : decode cX2_passHour 105 = .ok (.ifCond .eq 19, 3) := by decide +kernel
theorem dX2_passHour_108 : decode cX2_passHour 108 = .ok (.iconst 0, 1) := by decide +kernel
theorem dX2_passHour_109 : decode cX2_passHour 109 = .ok (.aload_n 0, 1) := by decide +kernel
theorem dX2_passHour_110 : decode cX2_passHour 110 = .ok (.getfield 18, 3) := by decide +kernel
theorem dX2_passHour_113 : decode cX2_passHour 113 = .ok (.iload 4, 2) := by decide +kernel
theorem dX2_passHour_115 : decode cX2_passHour 115 = .ok (.iaload, 1) := by decide +kernel
theorem dX2_passHour_116 : decode cX2_passHour 116 = .ok (.iconst 1, 1) := by decide +kernel
theorem dX2_passHour_117 : decode cX2_passHour 117 = .ok (.isub, 1) := by decide +kernel
theorem dX2_passHour_118 : decode cX2_passHour 118 = .ok (.invokestatic 62, 3) := by decide +kernel
theorem dX2_passHour_121 : decode cX2_passHour 121 = .ok (.goto 22, 3) := by decide +kernel
theorem dX2_passHour_124 : decode cX2_passHour 124 = .ok (.aload_n 1, 1) := by decide +kernel
theorem dX2_passHour_125 : decode cX2_passHour 125 = .ok (.getfield 100, 3) := by decide +kernel
theorem dX2_passHour_128 : decode cX2_passHour 128 = .ok (.iload 4, 2) := by decide +kernel
theorem dX2_passHour_130 : decode cX2_passHour 130 = .ok (.iaload, 1) := by decide +kernel
theorem dX2_passHour_131 : decode cX2_passHour 131 = .ok (.aload_n 0, 1) := by decide +kernel
theorem dX2_passHour_132 : decode cX2_passHour 132 = .ok (.getfield 18, 3) := by decide +kernel
theorem dX2_passHour_135 : decode cX2_passHour 135 = .ok (.iload 4, 2) := by decide +kernel
theorem dX2_passHour_137 : decode cX2_passHour 137 = .ok (.iaload, 1) := by decide +kernel
theorem dX2_passHour_138 : decode cX2_passHour 138 = .ok (.iconst 1, 1) := by decide +kernel
theorem dX2_passHour_139 : decode cX2_passHour 139 = .ok (.iadd, 1) := by decide +kernel
theorem dX2_passHour_140 : decode cX2_passHour 140 = .ok (.invokestatic 103, 3) := by decide +kernel
theorem dX2_passHour_143 : decode cX2_passHour 143 = .ok (.iastore, 1) := by decide +kernel
theorem dX2_passHour_144 : decode cX2_passHour 144 = .ok (.iinc 4 1, 3) := by decide +kernel
theorem dX2_passHour_147 : decode cX2_passHour 147 = .ok (.goto (-94), 3) := by decide +kernel
theorem dX2_passHour_150 : decode cX2_passHour 150 = .ok (.aload_n 0, 1) := by decide +kernel
theorem dX2_passHour_151 : decode cX2_passHour 151 = .ok (.dup, 1) := by decide +kernel
theorem dX2_passHour_152 : decode cX2_passHour 152 = .ok (.getfield 31, 3) := by decide +kernel
theorem dX2_passHour_155 : decode cX2_passHour 155 = .ok (.iconst 1, 1) := by decide +kernel
theorem dX2_passHour_156 : decode cX2_passHour 156 = .ok (.iadd, 1) := by decide +kernel
theorem dX2_passHour_157 : decode cX2_passHour 157 = .ok (.putfield 31, 3) := by decide +kernel
theorem dX2_passHour_160 : decode cX2_passHour 160 = .ok (.iload_n 3, 1) := by decide +kernel
theorem dX2_passHour_161 : decode cX2_passHour 161 = .ok (.ireturn, 1) := by decide +kernel
theorem dX2_canComeUp_0 : decode cX2_canComeUp 0 = .ok (.aload_n 0, 1) := by decide +kernel
theorem dX2_canComeUp_1 : decode cX2_canComeUp 1 = .ok (.aload_n 1, 1) := by decide +kernel
theorem dX2_canComeUp_2 : decode cX2_canComeUp 2 = .ok (.iload_n 2, 1) := by decide +kernel
theorem dX2_canComeUp_3 : decode cX2_canComeUp 3 = .ok (.invokevirtual 55, 3) := by decide +kernel
theorem dX2_canComeUp_6 : decode cX2_canComeUp 6 = .ok (.ifCond .ne 39, 3) := by decide +kernel
theorem dX2_canComeUp_9 : decode cX2_canComeUp 9 = .ok (.aload_n 0, 1) := by decide +kernel
theorem dX2_canComeUp_10 : decode cX2_canComeUp 10 = .ok (.aload_n 1, 1) := by decide +kernel
theorem dX2_canComeUp_11 : decode cX2_canComeUp 11 = .ok (.iload_n 2, 1) := by decide +kernel
theorem dX2_canComeUp_12 : decode cX2_canComeUp 12 = .ok (.invokevirtual 106, 3) := by decide +kernel
theorem dX2_canComeUp_15 : decode cX2_canComeUp 15 = .ok (.aload_n 0, 1) := by decide +kernel
theorem dX2_canComeUp_16 : decode cX2_canComeUp 16 = .ok (.aload_n 1, 1) := by decide +kernel
theorem dX2_canComeUp_17 : decode cX2_canComeUp 17 = .ok (.iload_n 2, 1) := by decide +kernel
theorem dX2_canComeUp_18 : decode cX2_canComeUp 18 = .ok (.invokevirtual 109, 3) := by decide +kernel
theorem dX2_canComeUp_21 : decode cX2_canComeUp 21 = .ok (.if_icmp .lt 24, 3) := by decide +kernel
theorem dX2_canComeUp_24 : decode cX2_canComeUp 24 = .ok (.aload_n 0, 1) := by decide +kernel
theorem dX2_canComeUp_25 : decode cX2_canComeUp 25 = .ok (.aload_n 1, 1) := by decide +kernel
theorem dX2_canComeUp_26 : decode cX2_canComeUp 26 = .ok (.iload_n 2, 1) := by decide +kernel
theorem dX2_canComeUp_27 : decode cX2_canComeUp 27 = .ok (.aload_n 0, 1) := by decide +kernel
theorem dX2_canComeUp_28 : decode cX2_canComeUp 28 = .ok (.getfield 9, 3) := by decide +kernel
theorem dX2_canComeUp_31 : decode cX2_canComeUp 31 = .ok (.iload_n 2, 1) := by decide +kernel
theorem dX2_canComeUp_32 : decode cX2_canComeUp 32 = .ok (.iaload, 1) := by decide +kernel
theorem dX2_canComeUp_33 : decode cX2_canComeUp 33 = .ok (.iconst 1, 1) := by decide +kernel
theorem dX2_canComeUp_34 : decode cX2_canComeUp 34 = .ok (.iadd, 1) := by decide +kernel
theorem dX2_canComeUp_35 : decode cX2_canComeUp 35 = .ok (.invokevirtual 85, 3) := by decide +kernel
theorem dX2_canComeUp_38 : decode cX2_canComeUp 38 = .ok (.ifCond .ne 7, 3) := by decide +kernel
theorem dX2_canComeUp_41 : decode cX2_canComeUp 41 = .ok (.iconst 1, 1) := by decide +kernel
theorem dX2_canComeUp_42 : decode cX2_canComeUp 42 = .ok (.goto 4, 3) := by decide +kernel
theorem dX2_canComeUp_45 : decode cX2_canComeUp 45 = .ok (.iconst 0, 1) := by decide +kernel
theorem dX2_canComeUp_46 : decode cX2_canComeUp 46 = .ok (.ireturn, 1) := by decide +kernel
theorem dX2_passDay_0 : decode cX2_passDay 0 = .ok (.aload_n 0, 1) := by decide +kernel
theorem dX2_passDay_1 : decode cX2_passDay 1 = .ok (.aload_n 1, 1) := by decide +kernel
theorem dX2_passDay_2 : decode cX2_passDay 2 = .ok (.invokevirtual 112, 3) := by decide +kernel
theorem dX2_passDay_5 : decode cX2_passDay 5 = .ok (.istore_n 2, 1) := by decide +kernel
theorem dX2_passDay_6 : decode cX2_passDay 6 = .ok (.iconst 0, 1) := by decide +kernel
theorem dX2_passDay_7 : decode cX2_passDay 7 = .ok (.istore_n 3, 1) := by decide +kernel
theorem dX2_passDay_8 : decode cX2_passDay 8 = .ok (.iload_n 3, 1) := by decide +kernel
theorem dX2_passDay_9 : decode cX2_passDay 9 = .ok (.iload_n 2, 1) := by decide +kernel
theorem dX2_passDay_10 : decode cX2_passDay 10 = .ok (.if_icmp .ge 15, 3) := by decide +kernel
theorem dX2_passDay_13 : decode cX2_passDay 13 = .ok (.aload_n 0, 1) := by decide +kernel
theorem dX2_passDay_14 : decode cX2_passDay 14 = .ok (.aload_n 1, 1) := by decide +kernel
theorem dX2_passDay_15 : decode cX2_passDay 15 = .ok (.invokevirtual 115, 3) := by decide +kernel
theorem dX2_passDay_18 : decode cX2_passDay 18 = .ok (.pop, 1) := by decide +kernel
theorem dX2_passDay_19 : decode cX2_passDay 19 = .ok (.iinc 3 1, 3) := by decide +kernel
theorem dX2_passDay_22 : decode cX2_passDay 22 = .ok (.goto (-14), 3) := by decide +kernel
theorem dX2_passDay_25 : decode cX2_passDay 25 = .ok (.return_, 1) := by decide +kernel
theorem dX2_fallDusk_0 : decode cX2_fallDusk 0 = .ok (.iconst 0, 1) := by decide +kernel
theorem dX2_fallDusk_1 : decode cX2_fallDusk 1 = .ok (.istore_n 3, 1) := by decide +kernel
theorem dX2_fallDusk_2 : decode cX2_fallDusk 2 = .ok (.iload_n 3, 1) := by decide +kernel
theorem dX2_fallDusk_3 : decode cX2_fallDusk 3 = .ok (.aload_n 1, 1) := by decide +kernel
theorem dX2_fallDusk_4 : decode cX2_fallDusk 4 = .ok (.getfield 52, 3) := by decide +kernel
theorem dX2_fallDusk_7 : decode cX2_fallDusk 7 = .ok (.if_icmp .ge 70, 3) := by decide +kernel
theorem dX2_fallDusk_10 : decode cX2_fallDusk 10 = .ok (.aload_n 0, 1) := by decide +kernel
theorem dX2_fallDusk_11 : decode cX2_fallDusk 11 = .ok (.aload_n 1, 1) := by decide +kernel
theorem dX2_fallDusk_12 : decode cX2_fallDusk 12 = .ok (.iload_n 3, 1) := by decide +kernel
theorem dX2_fallDusk_13 : decode cX2_fallDusk 13 = .ok (.invokevirtual 55, 3) := by decide +kernel
theorem dX2_fallDusk_16 : decode cX2_fallDusk 16 = .ok (.ifCond .ne 21, 3) := by decide +kernel
theorem dX2_fallDusk_19 : decode cX2_fallDusk 19 = .ok (.iload_n 2, 1) := by decide +kernel
theorem dX2_fallDusk_20 : decode cX2_fallDusk 20 = .ok (.ifCond .ne 21, 3) := by decide +kernel
theorem dX2_fallDusk_23 : decode cX2_fallDusk 23 = .ok (.aload_n 1, 1) := by decide +kernel
theorem dX2_fallDusk_24 : decode cX2_fallDusk 24 = .ok (.iload_n 3, 1) := by decide +kernel
theorem dX2_fallDusk_25 : decode cX2_fallDusk 25 = .ok (.aload_n 0, 1) := by decide +kernel
theorem dX2_fallDusk_26 : decode cX2_fallDusk 26 = .ok (.getfield 9, 3) := by decide +kernel
theorem dX2_fallDusk_29 : decode cX2_fallDusk 29 = .ok (.iload_n 3, 1) := by decide +kernel
theorem dX2_fallDusk_30 : decode cX2_fallDusk 30 = .ok (.iaload, 1) := by decide +kernel
theorem dX2_fallDusk_31 : decode cX2_fallDusk 31 = .ok (.invokevirtual 118, 3) := by decide +kernel
theorem dX2_fallDusk_34 : decode cX2_fallDusk 34 = .ok (.ifCond .eq 7, 3) := by decide +kernel
theorem dX2_fallDusk_37 : decode cX2_fallDusk 37 = .ok (.iconst 1, 1) := by decide +kernel
theorem dX2_fallDusk_38 : decode cX2_fallDusk 38 = .ok (.goto 4, 3) := by decide +kernel
theorem dX2_fallDusk_41 : decode cX2_fallDusk 41 = .ok (.iconst 0, 1) := by decide +kernel
theorem dX2_fallDusk_42 : decode cX2_fallDusk 42 = .ok (.istore 4, 2) := by decide +kernel
theorem dX2_fallDusk_44 : decode cX2_fallDusk 44 = .ok (.iload 4, 2) := by decide +kernel
theorem dX2_fallDusk_46 : decode cX2_fallDusk 46 = .ok (.ifCond .ne 25, 3) := by decide +kernel
theorem dX2_fallDusk_49 : decode cX2_fallDusk 49 = .ok (.aload_n 0, 1) := by decide +kernel
theorem dX2_fallDusk_50 : decode cX2_fallDusk 50 = .ok (.getfield 15, 3) := by decide +kernel
theorem dX2_fallDusk_53 : decode cX2_fallDusk 53 = .ok (.iload_n 3, 1) := by decide +kernel
theorem dX2_fallDusk_54 : decode cX2_fallDusk 54 = .ok (.dup2, 1) := by decide +kernel
theorem dX2_fallDusk_55 : decode cX2_fallDusk 55 = .ok (.iaload, 1) := by decide +kernel
theorem dX2_fallDusk_56 : decode cX2_fallDusk 56 = .ok (.aload_n 0, 1) := by decide +kernel
theorem dX2_fallDusk_57 : decode cX2_fallDusk 57 = .ok (.getfield 9, 3) := by decide +kernel
theorem dX2_fallDusk_60 : decode cX2_fallDusk 60 = .ok (.iload_n 3, 1) := by decide +kernel
theorem dX2_fallDusk_61 : decode cX2_fallDusk 61 = .ok (.iaload, 1) := by decide +kernel
theorem dX2_fallDusk_62 : decode cX2_fallDusk 62 = .ok (.iadd, 1) := by decide +kernel
theorem dX2_fallDusk_63 : decode cX2_fallDusk 63 = .ok (.iastore, 1) := by decide +kernel
theorem dX2_fallDusk_64 : decode cX2_fallDusk 64 = .ok (.aload_n 0, 1) := by decide +kernel
theorem dX2_fallDusk_65 : decode cX2_fallDusk 65 = .ok (.getfield 9, 3) := by decide +kernel
theorem dX2_fallDusk_68 : decode cX2_fallDusk 68 = .ok (.iload_n 3, 1) := by decide +kernel
theorem dX2_fallDusk_69 : decode cX2_fallDusk 69 = .ok (.iconst 0, 1) := by decide +kernel
theorem dX2_fallDusk_70 : decode cX2_fallDusk 70 = .ok (.iastore, 1) := by decide +kernel
theorem dX2_fallDusk_71 : decode cX2_fallDusk 71 = .ok (.iinc 3 1, 3) := by decide +kernel
theorem dX2_fallDusk_74 : decode cX2_fallDusk 74 = .ok (.goto (-72), 3) := by decide +kernel
theorem dX2_fallDusk_77 : decode cX2_fallDusk 77 = .ok (.aload_n 0, 1) := by decide +kernel
theorem dX2_fallDusk_78 : decode cX2_fallDusk 78 = .ok (.aload_n 1, 1) := by decide +kernel
theorem dX2_fallDusk_79 : decode cX2_fallDusk 79 = .ok (.invokevirtual 37, 3) := by decide +kernel
theorem dX2_fallDusk_82 : decode cX2_fallDusk 82 = .ok (.aload_n 0, 1) := by decide +kernel
theorem dX2_fallDusk_83 : decode cX2_fallDusk 83 = .ok (.dup, 1) := by decide +kernel
theorem dX2_fallDusk_84 : decode cX2_fallDusk 84 = .ok (.getfield 27, 3) := by decide +kernel
theorem dX2_fallDusk_87 : decode cX2_fallDusk 87 = .ok (.iconst 1, 1) := by decide +kernel
theorem dX2_fallDusk_88 : decode cX2_fallDusk 88 = .ok (.iadd, 1) := by decide +kernel
theorem dX2_fallDusk_89 : decode cX2_fallDusk 89 = .ok (.putfield 27, 3) := by decide +kernel
theorem dX2_fallDusk_92 : decode cX2_fallDusk 92 = .ok (.aload_n 0, 1) := by decide +kernel
theorem dX2_fallDusk_93 : decode cX2_fallDusk 93 = .ok (.iconst 0, 1) := by decide +kernel
theorem dX2_fallDusk_94 : decode cX2_fallDusk 94 = .ok (.putfield 31, 3) := by decide +kernel
theorem dX2_fallDusk_97 : decode cX2_fallDusk 97 = .ok (.return_, 1) := by decide +kernel
theorem dX2_rest_0 : decode cX2_rest 0 = .ok (.iconst 0, 1) := by decide +kernel
theorem dX2_rest_1 : decode cX2_rest 1 = .ok (.istore_n 2, 1) := by decide +kernel
theorem dX2_rest_2 : decode cX2_rest 2 = .ok (.iload_n 2, 1) := by decide +kernel
theorem dX2_rest_3 : decode cX2_rest 3 = .ok (.aload_n 1, 1) := by decide +kernel
theorem dX2_rest_4 : decode cX2_rest 4 = .ok (.getfield 78, 3) := by decide +kernel
theorem dX2_rest_7 : decode cX2_rest 7 = .ok (.if_icmp .ge 21, 3) := by decide +kernel
theorem dX2_rest_10 : decode cX2_rest 10 = .ok (.aload_n 0, 1) := by decide +kernel
theorem dX2_rest_11 : decode cX2_rest 11 = .ok (.getfield 18, 3) := by decide +kernel
theorem dX2_rest_14 : decode cX2_rest 14 = .ok (.iload_n 2, 1) := by decide +kernel
theorem dX2_rest_15 : decode cX2_rest 15 = .ok (.aload_n 1, 1) := by decide +kernel
theorem dX2_rest_16 : decode cX2_rest 16 = .ok (.getfield 100, 3) := by decide +kernel
theorem dX2_rest_19 : decode cX2_rest 19 = .ok (.iload_n 2, 1) := by decide +kernel
theorem dX2_rest_20 : decode cX2_rest 20 = .ok (.iaload, 1) := by decide +kernel
theorem dX2_rest_21 : decode cX2_rest 21 = .ok (.iastore, 1) := by decide +kernel
theorem dX2_rest_22 : decode cX2_rest 22 = .ok (.iinc 2 1, 3) := by decide +kernel
theorem dX2_rest_25 : decode cX2_rest 25 = .ok (.goto (-23), 3) := by decide +kernel
theorem dX2_rest_28 : decode cX2_rest 28 = .ok (.return_, 1) := by decide +kernel
theorem dX2_writeDown_0 : decode cX2_writeDown 0 = .ok (.bipush 19, 2) := by decide +kernel
theorem dX2_writeDown_2 : decode cX2_writeDown 2 = .ok (.istore_n 2, 1) := by decide +kernel
theorem dX2_writeDown_3 : decode cX2_writeDown 3 = .ok (.iload_n 2, 1) := by decide +kernel
theorem dX2_writeDown_4 : decode cX2_writeDown 4 = .ok (.ifCond .le 23, 3) := by decide +kernel
theorem dX2_writeDown_7 : decode cX2_writeDown 7 = .ok (.aload_n 0, 1) := by decide +kernel
theorem dX2_writeDown_8 : decode cX2_writeDown 8 = .ok (.getfield 24, 3) := by decide +kernel
theorem dX2_writeDown_11 : decode cX2_writeDown 11 = .ok (.iload_n 2, 1) := by decide +kernel
theorem dX2_writeDown_12 : decode cX2_writeDown 12 = .ok (.aload_n 0, 1) := by decide +kernel
theorem dX2_writeDown_13 : decode cX2_writeDown 13 = .ok (.getfield 24, 3) := by decide +kernel
theorem dX2_writeDown_16 : decode cX2_writeDown 16 = .ok (.iload_n 2, 1) := by decide +kernel
theorem dX2_writeDown_17 : decode cX2_writeDown 17 = .ok (.iconst 1, 1) := by decide +kernel
theorem dX2_writeDown_18 : decode cX2_writeDown 18 = .ok (.isub, 1) := by decide +kernel
theorem dX2_writeDown_19 : decode cX2_writeDown 19 = .ok (.iaload, 1) := by decide +kernel
theorem dX2_writeDown_20 : decode cX2_writeDown 20 = .ok (.iastore, 1) := by decide +kernel
theorem dX2_writeDown_21 : decode cX2_writeDown 21 = .ok (.iinc 2 (-1), 3) := by decide +kernel
theorem dX2_writeDown_24 : decode cX2_writeDown 24 = .ok (.goto (-21), 3) := by decide +kernel
theorem dX2_writeDown_27 : decode cX2_writeDown 27 = .ok (.iconst 0, 1) := by decide +kernel
theorem dX2_writeDown_28 : decode cX2_writeDown 28 = .ok (.istore_n 2, 1) := by decide +kernel
theorem dX2_writeDown_29 : decode cX2_writeDown 29 = .ok (.iconst 0, 1) := by decide +kernel
theorem dX2_writeDown_30 : decode cX2_writeDown 30 = .ok (.istore_n 3, 1) := by decide +kernel
theorem dX2_writeDown_31 : decode cX2_writeDown 31 = .ok (.iload_n 3, 1) := by decide +kernel
theorem dX2_writeDown_32 : decode cX2_writeDown 32 = .ok (.aload_n 1, 1) := by decide +kernel
theorem dX2_writeDown_33 : decode cX2_writeDown 33 = .ok (.getfield 52, 3) := by decide +kernel
theorem dX2_writeDown_36 : decode cX2_writeDown 36 = .ok (.if_icmp .ge 22, 3) := by decide +kernel
theorem dX2_writeDown_39 : decode cX2_writeDown 39 = .ok (.iload_n 2, 1) := by decide +kernel
theorem dX2_writeDown_40 : decode cX2_writeDown 40 = .ok (.aload_n 0, 1) := by decide +kernel
theorem dX2_writeDown_41 : decode cX2_writeDown 41 = .ok (.getfield 9, 3) := by decide +kernel
theorem dX2_writeDown_44 : decode cX2_writeDown 44 = .ok (.iload_n 3, 1) := by decide +kernel
theorem dX2_writeDown_45 : decode cX2_writeDown 45 = .ok (.iaload, 1) := by decide +kernel
theorem dX2_writeDown_46 : decode cX2_writeDown 46 = .ok (.iload_n 3, 1) := by decide +kernel
theorem dX2_writeDown_47 : decode cX2_writeDown 47 = .ok (.iconst 4, 1) := by decide +kernel
theorem dX2_writeDown_48 : decode cX2_writeDown 48 = .ok (.imul, 1) := by decide +kernel
theorem dX2_writeDown_49 : decode cX2_writeDown 49 = .ok (.ishl, 1) := by decide +kernel
theorem dX2_writeDown_50 : decode cX2_writeDown 50 = .ok (.ior, 1) := by decide +kernel
theorem dX2_writeDown_51 : decode cX2_writeDown 51 = .ok (.istore_n 2, 1) := by decide +kernel
theorem dX2_writeDown_52 : decode cX2_writeDown 52 = .ok (.iinc 3 1, 3) := by decide +kernel
theorem dX2_writeDown_55 : decode cX2_writeDown 55 = .ok (.goto (-24), 3) := by decide +kernel
theorem dX2_writeDown_58 : decode cX2_writeDown 58 = .ok (.aload_n 0, 1) := by decide +kernel
theorem dX2_writeDown_59 : decode cX2_writeDown 59 = .ok (.getfield 24, 3) := by decide +kernel
theorem dX2_writeDown_62 : decode cX2_writeDown 62 = .ok (.iconst 0, 1) := by decide +kernel
theorem dX2_writeDown_63 : decode cX2_writeDown 63 = .ok (.iload_n 2, 1) := by decide +kernel
theorem dX2_writeDown_64 : decode cX2_writeDown 64 = .ok (.iastore, 1) := by decide +kernel
theorem dX2_writeDown_65 : decode cX2_writeDown 65 = .ok (.aload_n 0, 1) := by decide +kernel
theorem dX2_writeDown_66 : decode cX2_writeDown 66 = .ok (.aload_n 0, 1) := by decide +kernel
theorem dX2_writeDown_67 : decode cX2_writeDown 67 = .ok (.getfield 34, 3) := by decide +kernel
theorem dX2_writeDown_70 : decode cX2_writeDown 70 = .ok (.iconst 1, 1) := by decide +kernel
theorem dX2_writeDown_71 : decode cX2_writeDown 71 = .ok (.iadd, 1) := by decide +kernel
theorem dX2_writeDown_72 : decode cX2_writeDown 72 = .ok (.bipush 20, 2) := by decide +kernel
theorem dX2_writeDown_74 : decode cX2_writeDown 74 = .ok (.invokestatic 103, 3) := by decide +kernel
theorem dX2_writeDown_77 : decode cX2_writeDown 77 = .ok (.putfield 34, 3) := by decide +kernel
theorem dX2_writeDown_80 : decode cX2_writeDown 80 = .ok (.return_, 1) := by decide +kernel
theorem dX2_writtenStep_0 : decode cX2_writtenStep 0 = .ok (.iload_n 1, 1) := by decide +kernel
theorem dX2_writtenStep_1 : decode cX2_writtenStep 1 = .ok (.ifCond .lt 9, 3) := by decide +kernel
theorem dX2_writtenStep_4 : decode cX2_writtenStep 4 = .ok (.iload_n 1, 1) := by decide +kernel
theorem dX2_writtenStep_5 : decode cX2_writtenStep 5 = .ok (.bipush 20, 2) := by decide +kernel
theorem dX2_writtenStep_7 : decode cX2_writtenStep 7 = .ok (.if_icmp .lt 7, 3) := by decide +kernel
theorem dX2_writtenStep_10 : decode cX2_writtenStep 10 = .ok (.iconst (-1), 1) := by decide +kernel
theorem dX2_writtenStep_11 : decode cX2_writtenStep 11 = .ok (.goto 16, 3) := by decide +kernel
theorem dX2_writtenStep_14 : decode cX2_writtenStep 14 = .ok (.aload_n 0, 1) := by decide +kernel
theorem dX2_writtenStep_15 : decode cX2_writtenStep 15 = .ok (.getfield 24, 3) := by decide +kernel
theorem dX2_writtenStep_18 : decode cX2_writtenStep 18 = .ok (.iload_n 1, 1) := by decide +kernel
theorem dX2_writtenStep_19 : decode cX2_writtenStep 19 = .ok (.iaload, 1) := by decide +kernel
theorem dX2_writtenStep_20 : decode cX2_writtenStep 20 = .ok (.iload_n 2, 1) := by decide +kernel
theorem dX2_writtenStep_21 : decode cX2_writtenStep 21 = .ok (.iconst 4, 1) := by decide +kernel
theorem dX2_writtenStep_22 : decode cX2_writtenStep 22 = .ok (.imul, 1) := by decide +kernel
theorem dX2_writtenStep_23 : decode cX2_writtenStep 23 = .ok (.ishr, 1) := by decide +kernel
theorem dX2_writtenStep_24 : decode cX2_writtenStep 24 = .ok (.bipush 15, 2) := by decide +kernel
theorem dX2_writtenStep_26 : decode cX2_writtenStep 26 = .ok (.iand, 1) := by decide +kernel
theorem dX2_writtenStep_27 : decode cX2_writtenStep 27 = .ok (.ireturn, 1) := by decide +kernel
theorem dX3_init_0 : decode cX3_init 0 = .ok (.aload_n 0, 1) := by decide +kernel
theorem dX3_init_1 : decode cX3_init 1 = .ok (.invokespecial 3, 3) := by decide +kernel
theorem dX3_init_4 : decode cX3_init 4 = .ok (.aload_n 0, 1) := by decide +kernel
theorem dX3_init_5 : decode cX3_init 5 = .ok (.iconst 4, 1) := by decide +kernel
theorem dX3_init_6 : decode cX3_init 6 = .ok (.newarray .int, 2) := by decide +kernel
theorem dX3_init_8 : decode cX3_init 8 = .ok (.putfield 11, 3) := by decide +kernel
theorem dX3_init_11 : decode cX3_init 11 = .ok (.aload_n 0, 1) := by decide +kernel
theorem dX3_init_12 : decode cX3_init 12 = .ok (.aload_n 1, 1) := by decide +kernel
theorem dX3_init_13 : decode cX3_init 13 = .ok (.putfield 15, 3) := by decide +kernel
theorem dX3_init_16 : decode cX3_init 16 = .ok (.return_, 1) := by decide +kernel
theorem dX3_readAll_0 : decode cX3_readAll 0 = .ok (.aload_n 0, 1) := by decide +kernel
theorem dX3_readAll_1 : decode cX3_readAll 1 = .ok (.iload_n 1, 1) := by decide +kernel
theorem dX3_readAll_2 : decode cX3_readAll 2 = .ok (.aload_n 0, 1) := by decide +kernel
theorem dX3_readAll_3 : decode cX3_readAll 3 = .ok (.getfield 15, 3) := by decide +kernel
theorem dX3_readAll_6 : decode cX3_readAll 6 = .ok (.arraylength, 1) := by decide +kernel
theorem dX3_readAll_7 : decode cX3_readAll 7 = .ok (.invokestatic 19, 3) := by decide +kernel
theorem dX3_readAll_10 : decode cX3_readAll 10 = .ok (.putfield 25, 3) := by decide +kernel
theorem dX3_readAll_13 : decode cX3_readAll 13 = .ok (.aload_n 0, 1) := by decide +kernel
theorem dX3_readAll_14 : decode cX3_readAll 14 = .ok (.iconst 0, 1) := by decide +kernel
theorem dX3_readAll_15 : decode cX3_readAll 15 = .ok (.putfield 29, 3) := by decide +kernel
theorem dX3_readAll_18 : decode cX3_readAll 18 = .ok (.aload_n 2, 1) := by decide +kernel
theorem dX3_readAll_19 : decode cX3_readAll 19 = .ok (.invokevirtual 32, 3) := by decide +kernel
theorem dX3_readAll_22 : decode cX3_readAll 22 = .ok (.iconst 0, 1) := by decide +kernel
theorem dX3_readAll_23 : decode cX3_readAll 23 = .ok (.istore_n 3, 1) := by decide +kernel
theorem dX3_readAll_24 : decode cX3_readAll 24 = .ok (.iload_n 3, 1) := by decide +kernel
theorem dX3_readAll_25 : decode cX3_readAll 25 = .ok (.sipush 200, 3) := by decide +kernel
theorem dX3_readAll_28 : decode cX3_readAll 28 = .ok (.if_icmp .gt 33, 3) := by decide +kernel
theorem dX3_readAll_31 : decode cX3_readAll 31 = .ok (.aload_n 0, 1) := by decide +kernel
theorem dX3_readAll_32 : decode cX3_readAll 32 = .ok (.invokevirtual 37, 3) := by decide +kernel
theorem dX3_readAll_35 : decode cX3_readAll 35 = .ok (.aload_n 0, 1) := by decide +kernel
theorem dX3_readAll_36 : decode cX3_readAll 36 = .ok (.getfield 40, 3) := by decide +kernel
theorem dX3_readAll_39 : decode cX3_readAll 39 = .ok (.ifCond .ne 5, 3) := by decide +kernel
theorem dX3_readAll_42 : decode cX3_readAll 42 = .ok (.iload_n 3, 1) := by decide +kernel
theorem dX3_readAll_43 : decode cX3_readAll 43 = .ok (.ireturn, 1) := by decide +kernel
theorem dX3_readAll_44 : decode cX3_readAll 44 = .ok (.aload_n 0, 1) := by decide +kernel
theorem dX3_readAll_45 : decode cX3_readAll 45 = .ok (.aload_n 2, 1) := by decide +kernel
theorem dX3_readAll_46 : decode cX3_readAll 46 = .ok (.invokevirtual 43, 3) := by decide +kernel
theorem dX3_readAll_49 : decode cX3_readAll 49 = .ok (.ifCond .ne 6, 3) := by decide +kernel
theorem dX3_readAll_52 : decode cX3_readAll 52 = .ok (.goto 9, 3) := by decide +kernel
theorem dX3_readAll_55 : decode cX3_readAll 55 = .ok (.iinc 3 1, 3) := by decide +kernel
theorem dX3_readAll_58 : decode cX3_readAll 58 = .ok (.goto (-34), 3) := by decide +kernel
theorem dX3_readAll_61 : decode cX3_readAll 61 = .ok (.bipush (-10), 2) := by decide +kernel
theorem dX3_readAll_63 : decode cX3_readAll 63 = .ok (.aload_n 0, 1) := by decide +kernel
theorem dX3_readAll_64 : decode cX3_readAll 64 = .ok (.getfield 47, 3) := by decide +kernel
theorem dX3_readAll_67 : decode cX3_readAll 67 = .ok (.isub, 1) := by decide +kernel
theorem dX3_readAll_68 : decode cX3_readAll 68 = .ok (.ireturn, 1) := by decide +kernel
theorem dX3_readItem_0 : decode cX3_readItem 0 = .ok (.aload_n 0, 1) := by decide +kernel
theorem dX3_readItem_1 : decode cX3_readItem 1 = .ok (.getfield 40, 3) := by decide +kernel
theorem dX3_readItem_4 : decode cX3_readItem 4 = .ok (.istore_n 2, 1) := by decide +kernel
theorem dX3_readItem_5 : decode cX3_readItem 5 = .ok (.iload_n 2, 1) := by decide +kernel
theorem dX3_readItem_6 : decode cX3_readItem 6 = .ok (.aload_n 1, 1) := by decide +kernel
theorem dX3_readItem_7 : decode cX3_readItem 7 = .ok (.invokestatic 50, 3) := by decide +kernel
theorem dX3_readItem_10 : decode cX3_readItem 10 = .ok (.ifCond .ne 5, 3) := by decide +kernel
theorem dX3_readItem_13 : decode cX3_readItem 13 = .ok (.iconst 0, 1) := by decide +kernel
theorem dX3_readItem_14 : decode cX3_readItem 14 = .ok (.ireturn, 1) := by decide +kernel
theorem dX3_readItem_15 : decode cX3_readItem 15 = .ok (.iload_n 2, 1) := by decide +kernel
theorem dX3_readItem_16 : decode cX3_readItem 16 = .ok (.invokestatic 54, 3) := by decide +kernel
theorem dX3_readItem_19 : decode cX3_readItem 19 = .ok (.istore_n 3, 1) := by decide +kernel
theorem dX3_readItem_20 : decode cX3_readItem 20 = .ok (.iconst 0, 1) := by decide +kernel
theorem dX3_readItem_21 : decode cX3_readItem 21 = .ok (.istore 4, 2) := by decide +kernel
theorem dX3_readItem_23 : decode cX3_readItem 23 = .ok (.iload 4, 2) := by decide +kernel
theorem dX3_readItem_25 : decode cX3_readItem 25 = .ok (.iload_n 3, 1) := by decide +kernel
theorem dX3_readItem_26 : decode cX3_readItem 26 = .ok (.if_icmp .ge 45, 3) := by decide +kernel
theorem dX3_readItem_29 : decode cX3_readItem 29 = .ok (.aload_n 0, 1) := by decide +kernel
theorem dX3_readItem_30 : decode cX3_readItem 30 = .ok (.invokevirtual 37, 3) := by decide +kernel
theorem dX3_readItem_33 : decode cX3_readItem 33 = .ok (.aload_n 0, 1) := by decide +kernel
theorem dX3_readItem_34 : decode cX3_readItem 34 = .ok (.getfield 40, 3) := by decide +kernel
theorem dX3_readItem_37 : decode cX3_readItem 37 = .ok (.iconst 2, 1) := by decide +kernel
theorem dX3_readItem_38 : decode cX3_readItem 38 = .ok (.if_icmp .ne 14, 3) := by decide +kernel
theorem dX3_readItem_41 : decode cX3_readItem 41 = .ok (.aload_n 0, 1) := by decide +kernel
theorem dX3_readItem_42 : decode cX3_readItem 42 = .ok (.iload_n 2, 1) := by decide +kernel
theorem dX3_readItem_43 : decode cX3_readItem 43 = .ok (.iload 4, 2) := by decide +kernel
theorem dX3_readItem_45 : decode cX3_readItem 45 = .ok (.aload_n 1, 1) := by decide +kernel
theorem dX3_readItem_46 : decode cX3_readItem 46 = .ok (.invokevirtual 58, 3) := by decide +kernel
theorem dX3_readItem_49 : decode cX3_readItem 49 = .ok (.ifCond .ne 5, 3) := by decide +kernel
theorem dX3_readItem_52 : decode cX3_readItem 52 = .ok (.iconst 0, 1) := by decide +kernel
theorem dX3_readItem_53 : decode cX3_readItem 53 = .ok (.ireturn, 1) := by decide +kernel
theorem dX3_readItem_54 : decode cX3_readItem 54 = .ok (.aload_n 0, 1) := by decide +kernel
theorem dX3_readItem_55 : decode cX3_readItem 55 = .ok (.getfield 11, 3) := by decide +kernel
theorem dX3_readItem_58 : decode cX3_readItem 58 = .ok (.iload 4, 2) := by decide +kernel
theorem dX3_readItem_60 : decode cX3_readItem 60 = .ok (.aload_n 0, 1) := by decide +kernel
theorem dX3_readItem_61 : decode cX3_readItem 61 = .ok (.getfield 62, 3) := by decide +kernel
theorem dX3_readItem_64 : decode cX3_readItem 64 = .ok (.iastore, 1) := by decide +kernel
theorem dX3_readItem_65 : decode cX3_readItem 65 = .ok (.iinc 4 1, 3) := by decide +kernel
theorem dX3_readItem_68 : decode cX3_readItem 68 = .ok (.goto (-45), 3) := by decide +kernel
theorem dX3_readItem_71 : decode cX3_readItem 71 = .ok (.aload_n 0, 1) := by decide +kernel
theorem dX3_readItem_72 : decode cX3_readItem 72 = .ok (.invokevirtual 37, 3) := by decide +kernel
theorem dX3_readItem_75 : decode cX3_readItem 75 = .ok (.aload_n 0, 1) := by decide +kernel
theorem dX3_readItem_76 : decode cX3_readItem 76 = .ok (.getfield 40, 3) := by decide +kernel
theorem dX3_readItem_79 : decode cX3_readItem 79 = .ok (.bipush 59, 2) := by decide +kernel
theorem dX3_readItem_81 : decode cX3_readItem 81 = .ok (.if_icmp .eq 5, 3) := by decide +kernel
theorem dX3_readItem_84 : decode cX3_readItem 84 = .ok (.iconst 0, 1) := by decide +kernel
theorem dX3_readItem_85 : decode cX3_readItem 85 = .ok (.ireturn, 1) := by decide +kernel
theorem dX3_readItem_86 : decode cX3_readItem 86 = .ok (.aload_n 0, 1) := by decide +kernel
theorem dX3_readItem_87 : decode cX3_readItem 87 = .ok (.iload_n 2, 1) := by decide +kernel
theorem dX3_readItem_88 : decode cX3_readItem 88 = .ok (.aload_n 1, 1) := by decide +kernel
theorem dX3_readItem_89 : decode cX3_readItem 89 = .ok (.invokevirtual 65, 3) := by decide +kernel
theorem dX3_readItem_92 : decode cX3_readItem 92 = .ok (.iconst 1, 1) := by decide +kernel
theorem dX3_readItem_93 : decode cX3_readItem 93 = .ok (.ireturn, 1) := by decide +kernel
theorem dX3_canStand_0 : decode cX3_canStand 0 = .ok (.iload_n 0, 1) := by decide +kernel
theorem dX3_canStand_1 : decode cX3_canStand 1 = .ok (.tableswitch 127 104 114 #[59, 127, 73, 127, 127, 87, 127, 101, 127, 127, 114], 59) := by decide +kernel
theorem dX3_canStand_60 : decode cX3_canStand 60 = .ok (.aload_n 1, 1) := by decide +kernel
theorem dX3_canStand_61 : decode cX3_canStand 61 = .ok (.getfield 69, 3) := by decide +kernel
theorem dX3_canStand_64 : decode cX3_canStand 64 = .ok (.iconst 4, 1) := by decide +kernel
theorem dX3_canStand_65 : decode cX3_canStand 65 = .ok (.if_icmp .ge 7, 3) := by decide +kernel
theorem dX3_canStand_68 : decode cX3_canStand 68 = .ok (.iconst 1, 1) := by decide +kernel
theorem dX3_canStand_69 : decode cX3_canStand 69 = .ok (.goto 4, 3) := by decide +kernel
theorem dX3_canStand_72 : decode cX3_canStand 72 = .ok (.iconst 0, 1) := by decide +kernel
theorem dX3_canStand_73 : decode cX3_canStand 73 = .ok (.ireturn, 1) := by decide +kernel
theorem dX3_canStand_74 : decode cX3_canStand 74 = .ok (.aload_n 1, 1) := by decide +kernel
theorem dX3_canStand_75 : decode cX3_canStand 75 = .ok (.getfield 72, 3) := by decide +kernel
theorem dX3_canStand_78 : decode cX3_canStand 78 = .ok (.iconst 4, 1) := by decide +kernel
theorem dX3_canStand_79 : decode cX3_canStand 79 = .ok (.if_icmp .ge 7, 3) := by decide +kernel
theorem dX3_canStand_82 : decode cX3_canStand 82 = .ok (.iconst 1, 1) := by decide +kernel
theorem dX3_canStand_83 : decode cX3_canStand 83 = .ok (.goto 4, 3) := by decide +kernel
theorem dX3_canStand_86 : decode cX3_canStand 86 = .ok (.iconst 0, 1) := by decide +kernel
theorem dX3_canStand_87 : decode cX3_canStand 87 = .ok (.ireturn, 1) := by decide +kernel
theorem dX3_canStand_88 : decode cX3_canStand 88 = .ok (.aload_n 1, 1) := by decide +kernel
theorem dX3_canStand_89 : decode cX3_canStand 89 = .ok (.getfield 75, 3) := by decide +kernel
theorem dX3_canStand_92 : decode cX3_canStand 92 = .ok (.iconst 3, 1) := by decide +kernel
theorem dX3_canStand_93 : decode cX3_canStand 93 = .ok (.if_icmp .ge 7, 3) := by decide +kernel
theorem dX3_canStand_96 : decode cX3_canStand 96 = .ok (.iconst 1, 1) := by decide +kernel
theorem dX3_canStand_97 : decode cX3_canStand 97 = .ok (.goto 4, 3) := by decide +kernel
theorem dX3_canStand_100 : decode cX3_canStand 100 = .ok (.iconst 0, 1) := by decide +kernel
theorem dX3_canStand_101 : decode cX3_canStand 101 = .ok (.ireturn, 1) := by decide +kernel
theorem dX3_canStand_102 : decode cX3_canStand 102 = .ok (.aload_n 1, 1) := by decide +kernel
theorem dX3_canStand_103 : decode cX3_canStand 103 = .ok (.getfield 78, 3) := by decide +kernel
theorem dX3_canStand_106 : decode cX3_canStand 106 = .ok (.ifCond .ne 7, 3) := by decide +kernel
theorem dX3_canStand_109 : decode cX3_canStand 109 = .ok (.iconst 1, 1) := by decide +kernel
theorem dX3_canStand_110 : decode cX3_canStand 110 = .ok (.goto 4, 3) := by decide +kernel
theorem dX3_canStand_113 : decode cX3_canStand 113 = .ok (.iconst 0, 1) := by decide +kernel
theorem dX3_canStand_114 : decode cX3_canStand 114 = .ok (.ireturn, 1) := by decide +kernel
theorem dX3_canStand_115 : decode cX3_canStand 115 = .ok (.aload_n 1, 1) := by decide +kernel
theorem dX3_canStand_116 : decode cX3_canStand 116 = .ok (.getfield 82, 3) := by decide +kernel
theorem dX3_canStand_119 : decode cX3_canStand 119 = .ok (.ifCond .ne 7, 3) := by decide +kernel
theorem dX3_canStand_122 : decode cX3_canStand 122 = .ok (.iconst 1, 1) := by decide +kernel
theorem dX3_canStand_123 : decode cX3_canStand 123 = .ok (.goto 4, 3) := by decide +kernel
theorem dX3_canStand_126 : decode cX3_canStand 126 = .ok (.iconst 0, 1) := by decide +kernel
theorem dX3_canStand_127 : decode cX3_canStand 127 = .ok (.ireturn, 1) := by decide +kernel
theorem dX3_canStand_128 : decode cX3_canStand 128 = .ok (.iconst 0, 1) := by decide +kernel
theorem dX3_canStand_129 : decode cX3_canStand 129 = .ok (.ireturn, 1) := by decide +kernel
theorem dX3_numbersOf_0 : decode cX3_numbersOf 0 = .ok (.iload_n 0, 1) := by decide +kernel
theorem dX3_numbersOf_1 : decode cX3_numbersOf 1 = .ok (.lookupswitch 31 #[(104, 27), (106, 29)], 27) := by decide +kernel
theorem dX3_numbersOf_28 : decode cX3_numbersOf 28 = .ok (.iconst 4, 1) := by decide +kernel
theorem dX3_numbersOf_29 : decode cX3_numbersOf 29 = .ok (.ireturn, 1) := by decide +kernel
theorem dX3_numbersOf_30 : decode cX3_numbersOf 30 = .ok (.iconst 3, 1) := by decide +kernel
theorem dX3_numbersOf_31 : decode cX3_numbersOf 31 = .ok (.ireturn, 1) := by decide +kernel
theorem dX3_numbersOf_32 : decode cX3_numbersOf 32 = .ok (.iconst 1, 1) := by decide +kernel
theorem dX3_numbersOf_33 : decode cX3_numbersOf 33 = .ok (.ireturn, 1) := by decide +kernel
theorem dX3_fits_0 : decode cX3_fits 0 = .ok (.iload_n 1, 1) := by decide +kernel
theorem dX3_fits_1 : decode cX3_fits 1 = .ok (.tableswitch 85 104 111 #[47, 85, 62, 85, 85, 69, 85, 77], 47) := by decide +kernel
theorem dX3_fits_48 : decode cX3_fits 48 = .ok (.aload_n 0, 1) := by decide +kernel
theorem dX3_fits_49 : decode cX3_fits 49 = .ok (.getstatic 85, 3) := by decide +kernel
theorem dX3_fits_52 : decode cX3_fits 52 = .ok (.iload_n 2, 1) := by decide +kernel
theorem dX3_fits_53 : decode cX3_fits 53 = .ok (.iaload, 1) := by decide +kernel
theorem dX3_fits_54 : decode cX3_fits 54 = .ok (.getstatic 88, 3) := by decide +kernel
theorem dX3_fits_57 : decode cX3_fits 57 = .ok (.iload_n 2, 1) := by decide +kernel
theorem dX3_fits_58 : decode cX3_fits 58 = .ok (.iaload, 1) := by decide +kernel
theorem dX3_fits_59 : decode cX3_fits 59 = .ok (.invokevirtual 91, 3) := by decide +kernel
theorem dX3_fits_62 : decode cX3_fits 62 = .ok (.ireturn, 1) := by decide +kernel
theorem dX3_fits_63 : decode cX3_fits 63 = .ok (.aload_n 0, 1) := by decide +kernel
theorem dX3_fits_64 : decode cX3_fits 64 = .ok (.iload_n 2, 1) := by decide +kernel
theorem dX3_fits_65 : decode cX3_fits 65 = .ok (.aload_n 3, 1) := by decide +kernel
theorem dX3_fits_66 : decode cX3_fits 66 = .ok (.invokevirtual 95, 3) := by decide +kernel
theorem dX3_fits_69 : decode cX3_fits 69 = .ok (.ireturn, 1) := by decide +kernel
theorem dX3_fits_70 : decode cX3_fits 70 = .ok (.aload_n 0, 1) := by decide +kernel
theorem dX3_fits_71 : decode cX3_fits 71 = .ok (.iconst 1, 1) := by decide +kernel
theorem dX3_fits_72 : decode cX3_fits 72 = .ok (.bipush 9, 2) := by decide +kernel
theorem dX3_fits_74 : decode cX3_fits 74 = .ok (.invokevirtual 91, 3) := by decide +kernel
theorem dX3_fits_77 : decode cX3_fits 77 = .ok (.ireturn, 1) := by decide +kernel
theorem dX3_fits_78 : decode cX3_fits 78 = .ok (.aload_n 0, 1) := by decide +kernel
theorem dX3_fits_79 : decode cX3_fits 79 = .ok (.iconst 1, 1) := by decide +kernel
theorem dX3_fits_80 : decode cX3_fits 80 = .ok (.bipush 6, 2) := by decide +kernel
theorem dX3_fits_82 : decode cX3_fits 82 = .ok (.invokevirtual 91, 3) := by decide +kernel
theorem dX3_fits_85 : decode cX3_fits 85 = .ok (.ireturn, 1) := by decide +kernel
theorem dX3_fits_86 : decode cX3_fits 86 = .ok (.aload_n 0, 1) := by decide +kernel
theorem dX3_fits_87 : decode cX3_fits 87 = .ok (.iconst 0, 1) := by decide +kernel
theorem dX3_fits_88 : decode cX3_fits 88 = .ok (.bipush 127, 2) := by decide +kernel
theorem dX3_fits_90 : decode cX3_fits 90 = .ok (.invokevirtual 91, 3) := by decide +kernel
theorem dX3_fits_93 : decode cX3_fits 93 = .ok (.ireturn, 1) := by decide +kernel
theorem dX3_fitsJoin_0 : decode cX3_fitsJoin 0 = .ok (.iload_n 1, 1) := by decide +kernel
theorem dX3_fitsJoin_1 : decode cX3_fitsJoin 1 = .ok (.lookupswitch 66 #[(0, 27), (1, 36)], 27) := by decide +kernel
theorem dX3_fitsJoin_28 : decode cX3_fitsJoin 28 = .ok (.aload_n 2, 1) := by decide +kernel
theorem dX3_fitsJoin_29 : decode cX3_fitsJoin 29 = .ok (.aload_n 0, 1) := by decide +kernel
theorem dX3_fitsJoin_30 : decode cX3_fitsJoin 30 = .ok (.getfield 62, 3) := by decide +kernel
theorem dX3_fitsJoin_33 : decode cX3_fitsJoin 33 = .ok (.invokevirtual 98, 3) := by decide +kernel
theorem dX3_fitsJoin_36 : decode cX3_fitsJoin 36 = .ok (.ireturn, 1) := by decide +kernel
theorem dX3_fitsJoin_37 : decode cX3_fitsJoin 37 = .ok (.aload_n 2, 1) := by decide +kernel
theorem dX3_fitsJoin_38 : decode cX3_fitsJoin 38 = .ok (.aload_n 0, 1) := by decide +kernel
theorem dX3_fitsJoin_39 : decode cX3_fitsJoin 39 = .ok (.getfield 62, 3) := by decide +kernel
theorem dX3_fitsJoin_42 : decode cX3_fitsJoin 42 = .ok (.invokevirtual 98, 3) := by decide +kernel
theorem dX3_fitsJoin_45 : decode cX3_fitsJoin 45 = .ok (.ifCond .eq 20, 3) := by decide +kernel
theorem dX3_fitsJoin_48 : decode cX3_fitsJoin 48 = .ok (.aload_n 0, 1) := by decide +kernel
theorem dX3_fitsJoin_49 : decode cX3_fitsJoin 49 = .ok (.getfield 62, 3) := by decide +kernel
theorem dX3_fitsJoin_52 : decode cX3_fitsJoin 52 = .ok (.aload_n 0, 1) := by decide +kernel
theorem dX3_fitsJoin_53 : decode cX3_fitsJoin 53 = .ok (.getfield 11, 3) := by decide +kernel
theorem dX3_fitsJoin_56 : decode cX3_fitsJoin 56 = .ok (.iconst 0, 1) := by decide +kernel
theorem dX3_fitsJoin_57 : decode cX3_fitsJoin 57 = .ok (.iaload, 1) := by decide +kernel
theorem dX3_fitsJoin_58 : decode cX3_fitsJoin 58 = .ok (.if_icmp .eq 7, 3) := by decide +kernel
theorem dX3_fitsJoin_61 : decode cX3_fitsJoin 61 = .ok (.iconst 1, 1) := by decide +kernel
theorem dX3_fitsJoin_62 : decode cX3_fitsJoin 62 = .ok (.goto 4, 3) := by decide +kernel
theorem dX3_fitsJoin_65 : decode cX3_fitsJoin 65 = .ok (.iconst 0, 1) := by decide +kernel
theorem dX3_fitsJoin_66 : decode cX3_fitsJoin 66 = .ok (.ireturn, 1) := by decide +kernel
theorem dX3_fitsJoin_67 : decode cX3_fitsJoin 67 = .ok (.aload_n 0, 1) := by decide +kernel
theorem dX3_fitsJoin_68 : decode cX3_fitsJoin 68 = .ok (.iconst 1, 1) := by decide +kernel
theorem dX3_fitsJoin_69 : decode cX3_fitsJoin 69 = .ok (.bipush 9, 2) := by decide +kernel
theorem dX3_fitsJoin_71 : decode cX3_fitsJoin 71 = .ok (.invokevirtual 91, 3) := by decide +kernel
theorem dX3_fitsJoin_74 : decode cX3_fitsJoin 74 = .ok (.ireturn, 1) := by decide +kernel
theorem dX3_isWithin_0 : decode cX3_isWithin 0 = .ok (.aload_n 0, 1) := by decide +kernel
theorem dX3_isWithin_1 : decode cX3_isWithin 1 = .ok (.getfield 62, 3) := by decide +kernel
theorem dX3_isWithin_4 : decode cX3_isWithin 4 = .ok (.iload_n 1, 1) := by decide +kernel
theorem dX3_isWithin_5 : decode cX3_isWithin 5 = .ok (.if_icmp .lt 15, 3) := by decide +kernel
theorem dX3_isWithin_8 : decode cX3_isWithin 8 = .ok (.aload_n 0, 1) := by decide +kernel
theorem dX3_isWithin_9 : decode cX3_isWithin 9 = .ok (.getfield 62, 3) := by decide +kernel
theorem dX3_isWithin_12 : decode cX3_isWithin 12 = .ok (.iload_n 2, 1) := by decide +kernel
theorem dX3_isWithin_13 : decode cX3_isWithin 13 = .ok (.if_icmp .gt 7, 3) := by decide +kernel
theorem dX3_isWithin_16 : decode cX3_isWithin 16 = .ok (.iconst 1, 1) := by decide +kernel
theorem dX3_isWithin_17 : decode cX3_isWithin 17 = .ok (.goto 4, 3) := by decide +kernel
theorem dX3_isWithin_20 : decode cX3_isWithin 20 = .ok (.iconst 0, 1) := by decide +kernel
theorem dX3_isWithin_21 : decode cX3_isWithin 21 = .ok (.ireturn, 1) := by decide +kernel
theorem dX3_addItem_0 : decode cX3_addItem 0 = .ok (.iload_n 1, 1) := by decide +kernel
theorem dX3_addItem_1 : decode cX3_addItem 1 = .ok (.tableswitch 100 104 111 #[47, 100, 58, 100, 100, 69, 100, 82], 47) := by decide +kernel
theorem dX3_addItem_48 : decode cX3_addItem 48 = .ok (.aload_n 2, 1) := by decide +kernel
theorem dX3_addItem_49 : decode cX3_addItem 49 = .ok (.aload_n 0, 1) := by decide +kernel
theorem dX3_addItem_50 : decode cX3_addItem 50 = .ok (.getfield 11, 3) := by decide +kernel
theorem dX3_addItem_53 : decode cX3_addItem 53 = .ok (.invokevirtual 102, 3) := by decide +kernel
theorem dX3_addItem_56 : decode cX3_addItem 56 = .ok (.goto 60, 3) := by decide +kernel
theorem dX3_addItem_59 : decode cX3_addItem 59 = .ok (.aload_n 2, 1) := by decide +kernel
theorem dX3_addItem_60 : decode cX3_addItem 60 = .ok (.aload_n 0, 1) := by decide +kernel
theorem dX3_addItem_61 : decode cX3_addItem 61 = .ok (.getfield 11, 3) := by decide +kernel
theorem dX3_addItem_64 : decode cX3_addItem 64 = .ok (.invokevirtual 106, 3) := by decide +kernel
theorem dX3_addItem_67 : decode cX3_addItem 67 = .ok (.goto 49, 3) := by decide +kernel
theorem dX3_addItem_70 : decode cX3_addItem 70 = .ok (.aload_n 2, 1) := by decide +kernel
theorem dX3_addItem_71 : decode cX3_addItem 71 = .ok (.aload_n 0, 1) := by decide +kernel
theorem dX3_addItem_72 : decode cX3_addItem 72 = .ok (.getfield 11, 3) := by decide +kernel
theorem dX3_addItem_75 : decode cX3_addItem 75 = .ok (.iconst 0, 1) := by decide +kernel
theorem dX3_addItem_76 : decode cX3_addItem 76 = .ok (.iaload, 1) := by decide +kernel
theorem dX3_addItem_77 : decode cX3_addItem 77 = .ok (.invokevirtual 109, 3) := by decide +kernel
theorem dX3_addItem_80 : decode cX3_addItem 80 = .ok (.goto 36, 3) := by decide +kernel
theorem dX3_addItem_83 : decode cX3_addItem 83 = .ok (.aload_n 2, 1) := by decide +kernel
theorem dX3_addItem_84 : decode cX3_addItem 84 = .ok (.aload_n 0, 1) := by decide +kernel
theorem dX3_addItem_85 : decode cX3_addItem 85 = .ok (.getfield 11, 3) := by decide +kernel
theorem dX3_addItem_88 : decode cX3_addItem 88 = .ok (.iconst 0, 1) := by decide +kernel
theorem dX3_addItem_89 : decode cX3_addItem 89 = .ok (.iaload, 1) := by decide +kernel
theorem dX3_addItem_90 : decode cX3_addItem 90 = .ok (.putfield 113, 3) := by decide +kernel
theorem dX3_addItem_93 : decode cX3_addItem 93 = .ok (.aload_n 2, 1) := by decide +kernel
theorem dX3_addItem_94 : decode cX3_addItem 94 = .ok (.iconst 1, 1) := by decide +kernel
theorem dX3_addItem_95 : decode cX3_addItem 95 = .ok (.putfield 78, 3) := by decide +kernel
theorem dX3_addItem_98 : decode cX3_addItem 98 = .ok (.goto 18, 3) := by decide +kernel
theorem dX3_addItem_101 : decode cX3_addItem 101 = .ok (.aload_n 2, 1) := by decide +kernel
theorem dX3_addItem_102 : decode cX3_addItem 102 = .ok (.aload_n 0, 1) := by decide +kernel
theorem dX3_addItem_103 : decode cX3_addItem 103 = .ok (.getfield 11, 3) := by decide +kernel
theorem dX3_addItem_106 : decode cX3_addItem 106 = .ok (.iconst 0, 1) := by decide +kernel
theorem dX3_addItem_107 : decode cX3_addItem 107 = .ok (.iaload, 1) := by decide +kernel
theorem dX3_addItem_108 : decode cX3_addItem 108 = .ok (.putfield 116, 3) := by decide +kernel
theorem dX3_addItem_111 : decode cX3_addItem 111 = .ok (.aload_n 2, 1) := by decide +kernel
theorem dX3_addItem_112 : decode cX3_addItem 112 = .ok (.iconst 1, 1) := by decide +kernel
theorem dX3_addItem_113 : decode cX3_addItem 113 = .ok (.putfield 82, 3) := by decide +kernel
theorem dX3_addItem_116 : decode cX3_addItem 116 = .ok (.return_, 1) := by decide +kernel
theorem dX3_take_0 : decode cX3_take 0 = .ok (.aload_n 0, 1) := by decide +kernel
theorem dX3_take_1 : decode cX3_take 1 = .ok (.getfield 29, 3) := by decide +kernel
theorem dX3_take_4 : decode cX3_take 4 = .ok (.aload_n 0, 1) := by decide +kernel
theorem dX3_take_5 : decode cX3_take 5 = .ok (.getfield 25, 3) := by decide +kernel
theorem dX3_take_8 : decode cX3_take 8 = .ok (.if_icmp .ge 30, 3) := by decide +kernel
theorem dX3_take_11 : decode cX3_take 11 = .ok (.aload_n 0, 1) := by decide +kernel
theorem dX3_take_12 : decode cX3_take 12 = .ok (.getfield 15, 3) := by decide +kernel
theorem dX3_take_15 : decode cX3_take 15 = .ok (.aload_n 0, 1) := by decide +kernel
theorem dX3_take_16 : decode cX3_take 16 = .ok (.getfield 29, 3) := by decide +kernel
theorem dX3_take_19 : decode cX3_take 19 = .ok (.caload, 1) := by decide +kernel
theorem dX3_take_20 : decode cX3_take 20 = .ok (.bipush 32, 2) := by decide +kernel
theorem dX3_take_22 : decode cX3_take 22 = .ok (.if_icmp .ne 16, 3) := by decide +kernel
theorem dX3_take_25 : decode cX3_take 25 = .ok (.aload_n 0, 1) := by decide +kernel
theorem dX3_take_26 : decode cX3_take 26 = .ok (.dup, 1) := by decide +kernel
theorem dX3_take_27 : decode cX3_take 27 = .ok (.getfield 29, 3) := by decide +kernel
theorem dX3_take_30 : decode cX3_take 30 = .ok (.iconst 1, 1) := by decide +kernel
theorem dX3_take_31 : decode cX3_take 31 = .ok (.iadd, 1) := by decide +kernel
theorem dX3_take_32 : decode cX3_take 32 = .ok (.putfield 29, 3) := by decide +kernel
theorem dX3_take_35 : decode cX3_take 35 = .ok (.goto (-35), 3) := by decide +kernel
theorem dX3_take_38 : decode cX3_take 38 = .ok (.aload_n 0, 1) := by decide +kernel
theorem dX3_take_39 : decode cX3_take 39 = .ok (.aload_n 0, 1) := by decide +kernel
theorem dX3_take_40 : decode cX3_take 40 = .ok (.getfield 29, 3) := by decide +kernel
theorem dX3_take_43 : decode cX3_take 43 = .ok (.putfield 47, 3) := by decide +kernel
theorem dX3_take_46 : decode cX3_take 46 = .ok (.aload_n 0, 1) := by decide +kernel
theorem dX3_take_47 : decode cX3_take 47 = .ok (.getfield 29, 3) := by decide +kernel
theorem dX3_take_50 : decode cX3_take 50 = .ok (.aload_n 0, 1) := by decide +kernel
theorem dX3_take_51 : decode cX3_take 51 = .ok (.getfield 25, 3) := by decide +kernel
theorem dX3_take_54 : decode cX3_take 54 = .ok (.if_icmp .lt 11, 3) := by decide +kernel
theorem dX3_take_57 : decode cX3_take 57 = .ok (.aload_n 0, 1) := by decide +kernel
theorem dX3_take_58 : decode cX3_take 58 = .ok (.iconst 0, 1) := by decide +kernel
theorem dX3_take_59 : decode cX3_take 59 = .ok (.putfield 40, 3) := by decide +kernel
theorem dX3_take_62 : decode cX3_take 62 = .ok (.goto 67, 3) := by decide +kernel
theorem dX3_take_65 : decode cX3_take 65 = .ok (.aload_n 0, 1) := by decide +kernel
theorem dX3_take_66 : decode cX3_take 66 = .ok (.getfield 15, 3) := by decide +kernel
theorem dX3_take_69 : decode cX3_take 69 = .ok (.aload_n 0, 1) := by decide +kernel
theorem dX3_take_70 : decode cX3_take 70 = .ok (.getfield 29, 3) := by decide +kernel
theorem dX3_take_73 : decode cX3_take 73 = .ok (.caload, 1) := by decide +kernel
theorem dX3_take_74 : decode cX3_take 74 = .ok (.invokestatic 119, 3) := by decide +kernel
theorem dX3_take_77 : decode cX3_take 77 = .ok (.ifCond .eq 10, 3) := by decide +kernel
theorem dX3_take_80 : decode cX3_take 80 = .ok (.aload_n 0, 1) := by decide +kernel
theorem dX3_take_81 : decode cX3_take 81 = .ok (.invokevirtual 123, 3) := by decide +kernel
theorem dX3_take_84 : decode cX3_take 84 = .ok (.goto 45, 3) := by decide +kernel
theorem dX3_take_87 : decode cX3_take 87 = .ok (.aload_n 0, 1) := by decide +kernel
theorem dX3_take_88 : decode cX3_take 88 = .ok (.aload_n 0, 1) := by decide +kernel
theorem dX3_take_89 : decode cX3_take 89 = .ok (.getfield 15, 3) := by decide +kernel
theorem dX3_take_92 : decode cX3_take 92 = .ok (.aload_n 0, 1) := by decide +kernel
theorem dX3_take_93 : decode cX3_take 93 = .ok (.getfield 29, 3) := by decide +kernel
theorem dX3_take_96 : decode cX3_take 96 = .ok (.caload, 1) := by decide +kernel
theorem dX3_take_97 : decode cX3_take 97 = .ok (.invokestatic 126, 3) := by decide +kernel
theorem dX3_take_100 : decode cX3_take 100 = .ok (.ifCond .eq 15, 3) := by decide +kernel
theorem dX3_take_103 : decode cX3_take 103 = .ok (.aload_n 0, 1) := by decide +kernel
theorem dX3_take_104 : decode cX3_take 104 = .ok (.getfield 15, 3) := by decide +kernel
theorem dX3_take_107 : decode cX3_take 107 = .ok (.aload_n 0, 1) := by decide +kernel
theorem dX3_take_108 : decode cX3_take 108 = .ok (.getfield 29, 3) := by decide +kernel
theorem dX3_take_111 : decode cX3_take 111 = .ok (.caload, 1) := by decide +kernel
theorem dX3_take_112 : decode cX3_take 112 = .ok (.goto 4, 3) := by decide +kernel
theorem dX3_take_115 : decode cX3_take 115 = .ok (.iconst 1, 1) := by decide +kernel
theorem dX3_take_116 : decode cX3_take 116 = .ok (.putfield 40, 3) := by decide +kernel
theorem dX3_take_119 : decode cX3_take 119 = .ok (.aload_n 0, 1) := by decide +kernel
theorem dX3_take_120 : decode cX3_take 120 = .ok (.dup, 1) := by decide +kernel
theorem dX3_take_121 : decode cX3_take 121 = .ok (.getfield 29, 3) := by decide +kernel
theorem dX3_take_124 : decode cX3_take 124 = .ok (.iconst 1, 1) := by decide +kernel
theorem dX3_take_125 : decode cX3_take 125 = .ok (.iadd, 1) := by decide +kernel
theorem dX3_take_126 : decode cX3_take 126 = .ok (.putfield 29, 3) := by decide +kernel
theorem dX3_take_129 : decode cX3_take 129 = .ok (.return_, 1) := by decide +kernel
theorem dX3_takeNumber_0 : decode cX3_takeNumber 0 = .ok (.aload_n 0, 1) := by decide +kernel
theorem dX3_takeNumber_1 : decode cX3_takeNumber 1 = .ok (.getfield 29, 3) := by decide +kernel
theorem dX3_takeNumber_4 : decode cX3_takeNumber 4 = .ok (.aload_n 0, 1) := by decide +kernel
theorem dX3_takeNumber_5 : decode cX3_takeNumber 5 = .ok (.getfield 25, 3) := by decide +kernel
theorem dX3_takeNumber_8 : decode cX3_takeNumber 8 = .ok (.if_icmp .ge 21, 3) := by decide +kernel
theorem dX3_takeNumber_11 : decode cX3_takeNumber 11 = .ok (.aload_n 0, 1) := by decide +kernel
theorem dX3_takeNumber_12 : decode cX3_takeNumber 12 = .ok (.getfield 15, 3) := by decide +kernel
theorem dX3_takeNumber_15 : decode cX3_takeNumber 15 = .ok (.aload_n 0, 1) := by decide +kernel
theorem dX3_takeNumber_16 : decode cX3_takeNumber 16 = .ok (.getfield 29, 3) := by decide +kernel
theorem dX3_takeNumber_19 : decode cX3_takeNumber 19 = .ok (.caload, 1) := by decide +kernel
theorem dX3_takeNumber_20 : decode cX3_takeNumber 20 = .ok (.bipush 48, 2) := by decide +kernel
theorem dX3_takeNumber_22 : decode cX3_takeNumber 22 = .ok (.if_icmp .ne 7, 3) := by decide +kernel
theorem dX3_takeNumber_25 : decode cX3_takeNumber 25 = .ok (.iconst 1, 1) := by decide +kernel
theorem dX3_takeNumber_26 : decode cX3_takeNumber 26 = .ok (.goto 4, 3) := by decide +kernel
theorem dX3_takeNumber_29 : decode cX3_takeNumber 29 = .ok (.iconst 0, 1) := by decide +kernel
theorem dX3_takeNumber_30 : decode cX3_takeNumber 30 = .ok (.istore_n 1, 1) := by decide +kernel
theorem dX3_takeNumber_31 : decode cX3_takeNumber 31 = .ok (.aload_n 0, 1) := by decide +kernel
theorem dX3_takeNumber_32 : decode cX3_takeNumber 32 = .ok (.iconst 0, 1) := by decide +kernel
theorem dX3_takeNumber_33 : decode cX3_takeNumber 33 = .ok (.putfield 62, 3) := by decide +kernel
theorem dX3_takeNumber_36 : decode cX3_takeNumber 36 = .ok (.aload_n 0, 1) := by decide +kernel
theorem dX3_takeNumber_37 : decode cX3_takeNumber 37 = .ok (.getfield 29, 3) := by decide +kernel
theorem dX3_takeNumber_40 : decode cX3_takeNumber 40 = .ok (.aload_n 0, 1) := by decide +kernel
theorem dX3_takeNumber_41 : decode cX3_takeNumber 41 = .ok (.getfield 25, 3) := by decide +kernel
theorem dX3_takeNumber_44 : decode cX3_takeNumber 44 = .ok (.if_icmp .ge 65, 3) := by decide +kernel
theorem dX3_takeNumber_47 : decode cX3_takeNumber 47 = .ok (.aload_n 0, 1) := by decide +kernel
theorem dX3_takeNumber_48 : decode cX3_takeNumber 48 = .ok (.getfield 15, 3) := by decide +kernel
theorem dX3_takeNumber_51 : decode cX3_takeNumber 51 = .ok (.aload_n 0, 1) := by decide +kernel
theorem dX3_takeNumber_52 : decode cX3_takeNumber 52 = .ok (.getfield 29, 3) := by decide +kernel
theorem dX3_takeNumber_55 : decode cX3_takeNumber 55 = .ok (.caload, 1) := by decide +kernel
theorem dX3_takeNumber_56 : decode cX3_takeNumber 56 = .ok (.invokestatic 119, 3) := by decide +kernel
theorem dX3_takeNumber_59 : decode cX3_takeNumber 59 = .ok (.ifCond .eq 50, 3) := by decide +kernel
theorem dX3_takeNumber_62 : decode cX3_takeNumber 62 = .ok (.aload_n 0, 1) := by decide +kernel
theorem dX3_takeNumber_63 : decode cX3_takeNumber 63 = .ok (.getfield 62, 3) := by decide +kernel
theorem dX3_takeNumber_66 : decode cX3_takeNumber 66 = .ok (.sipush 511, 3) := by decide +kernel
theorem dX3_takeNumber_69 : decode cX3_takeNumber 69 = .ok (.if_icmp .gt 27, 3) := by decide +kernel
theorem dX3_takeNumber_72 : decode cX3_takeNumber 72 = .ok (.aload_n 0, 1) := by decide +kernel
theorem dX3_takeNumber_73 : decode cX3_takeNumber 73 = .ok (.aload_n 0, 1) := by decide +kernel
theorem dX3_takeNumber_74 : decode cX3_takeNumber 74 = .ok (.getfield 62, 3) := by decide +kernel
theorem dX3_takeNumber_77 : decode cX3_takeNumber 77 = .ok (.bipush 10, 2) := by decide +kernel
theorem dX3_takeNumber_79 : decode cX3_takeNumber 79 = .ok (.imul, 1) := by decide +kernel
theorem dX3_takeNumber_80 : decode cX3_takeNumber 80 = .ok (.aload_n 0, 1) := by decide +kernel
theorem dX3_takeNumber_81 : decode cX3_takeNumber 81 = .ok (.getfield 15, 3) := by decide +kernel
theorem dX3_takeNumber_84 : decode cX3_takeNumber 84 = .ok (.aload_n 0, 1) := by decide +kernel
theorem dX3_takeNumber_85 : decode cX3_takeNumber 85 = .ok (.getfield 29, 3) := by decide +kernel
theorem dX3_takeNumber_88 : decode cX3_takeNumber 88 = .ok (.caload, 1) := by decide +kernel
theorem dX3_takeNumber_89 : decode cX3_takeNumber 89 = .ok (.bipush 48, 2) := by decide +kernel
theorem dX3_takeNumber_91 : decode cX3_takeNumber 91 = .ok (.isub, 1) := by decide +kernel
theorem dX3_takeNumber_92 : decode cX3_takeNumber 92 = .ok (.iadd, 1) := by decide +kernel
theorem dX3_takeNumber_93 : decode cX3_takeNumber 93 = .ok (.putfield 62, 3) := by decide +kernel
theorem dX3_takeNumber_96 : decode cX3_takeNumber 96 = .ok (.aload_n 0, 1) := by decide +kernel
theorem dX3_takeNumber_97 : decode cX3_takeNumber 97 = .ok (.dup, 1) := by decide +kernel
theorem dX3_takeNumber_98 : decode cX3_takeNumber 98 = .ok (.getfield 29, 3) := by decide +kernel
theorem dX3_takeNumber_101 : decode cX3_takeNumber 101 = .ok (.iconst 1, 1) := by decide +kernel
theorem dX3_takeNumber_102 : decode cX3_takeNumber 102 = .ok (.iadd, 1) := by decide +kernel
theorem dX3_takeNumber_103 : decode cX3_takeNumber 103 = .ok (.putfield 29, 3) := by decide +kernel
theorem dX3_takeNumber_106 : decode cX3_takeNumber 106 = .ok (.goto (-70), 3) := by decide +kernel
theorem dX3_takeNumber_109 : decode cX3_takeNumber 109 = .ok (.aload_n 0, 1) := by decide +kernel
theorem dX3_takeNumber_110 : decode cX3_takeNumber 110 = .ok (.getfield 62, 3) := by decide +kernel
theorem dX3_takeNumber_113 : decode cX3_takeNumber 113 = .ok (.sipush 511, 3) := by decide +kernel
theorem dX3_takeNumber_116 : decode cX3_takeNumber 116 = .ok (.if_icmp .gt 20, 3) := by decide +kernel
theorem dX3_takeNumber_119 : decode cX3_takeNumber 119 = .ok (.iload_n 1, 1) := by decide +kernel
theorem dX3_takeNumber_120 : decode cX3_takeNumber 120 = .ok (.ifCond .eq 20, 3) := by decide +kernel
theorem dX3_takeNumber_123 : decode cX3_takeNumber 123 = .ok (.aload_n 0, 1) := by decide +kernel
theorem dX3_takeNumber_124 : decode cX3_takeNumber 124 = .ok (.getfield 29, 3) := by decide +kernel
theorem dX3_takeNumber_127 : decode cX3_takeNumber 127 = .ok (.aload_n 0, 1) := by decide +kernel
theorem dX3_takeNumber_128 : decode cX3_takeNumber 128 = .ok (.getfield 47, 3) := by decide +kernel
theorem dX3_takeNumber_131 : decode cX3_takeNumber 131 = .ok (.isub, 1) := by decide +kernel
theorem dX3_takeNumber_132 : decode cX3_takeNumber 132 = .ok (.iconst 1, 1) := by decide +kernel
theorem dX3_takeNumber_133 : decode cX3_takeNumber 133 = .ok (.if_icmp .le 7, 3) := by decide +kernel
theorem dX3_takeNumber_136 : decode cX3_takeNumber 136 = .ok (.iconst 1, 1) := by decide +kernel
theorem dX3_takeNumber_137 : decode cX3_takeNumber 137 = .ok (.goto 4, 3) := by decide +kernel
theorem dX3_takeNumber_140 : decode cX3_takeNumber 140 = .ok (.iconst 0, 1) := by decide +kernel
theorem dX3_takeNumber_141 : decode cX3_takeNumber 141 = .ok (.istore_n 2, 1) := by decide +kernel
theorem dX3_takeNumber_142 : decode cX3_takeNumber 142 = .ok (.aload_n 0, 1) := by decide +kernel
theorem dX3_takeNumber_143 : decode cX3_takeNumber 143 = .ok (.iload_n 2, 1) := by decide +kernel
theorem dX3_takeNumber_144 : decode cX3_takeNumber 144 = .ok (.ifCond .eq 7, 3) := by decide +kernel
theorem dX3_takeNumber_147 : decode cX3_takeNumber 147 = .ok (.iconst 1, 1) := by decide +kernel
theorem dX3_takeNumber_148 : decode cX3_takeNumber 148 = .ok (.goto 4, 3) := by decide +kernel
theorem dX3_takeNumber_151 : decode cX3_takeNumber 151 = .ok (.iconst 2, 1) := by decide +kernel
theorem dX3_takeNumber_152 : decode cX3_takeNumber 152 = .ok (.putfield 40, 3) := by decide +kernel
theorem dX3_takeNumber_155 : decode cX3_takeNumber 155 = .ok (.return_, 1) := by decide +kernel
theorem dX3_isDigit_0 : decode cX3_isDigit 0 = .ok (.iload_n 0, 1) := by decide +kernel
theorem dX3_isDigit_1 : decode cX3_isDigit 1 = .ok (.bipush 48, 2) := by decide +kernel
theorem dX3_isDigit_3 : decode cX3_isDigit 3 = .ok (.if_icmp .lt 13, 3) := by decide +kernel
theorem dX3_isDigit_6 : decode cX3_isDigit 6 = .ok (.iload_n 0, 1) := by decide +kernel
theorem dX3_isDigit_7 : decode cX3_isDigit 7 = .ok (.bipush 57, 2) := by decide +kernel
theorem dX3_isDigit_9 : decode cX3_isDigit 9 = .ok (.if_icmp .gt 7, 3) := by decide +kernel
theorem dX3_isDigit_12 : decode cX3_isDigit 12 = .ok (.iconst 1, 1) := by decide +kernel
theorem dX3_isDigit_13 : decode cX3_isDigit 13 = .ok (.goto 4, 3) := by decide +kernel
theorem dX3_isDigit_16 : decode cX3_isDigit 16 = .ok (.iconst 0, 1) := by decide +kernel
theorem dX3_isDigit_17 : decode cX3_isDigit 17 = .ok (.ireturn, 1) := by decide +kernel
theorem dX3_isSign_0 : decode cX3_isSign 0 = .ok (.iload_n 0, 1) := by decide +kernel
theorem dX3_isSign_1 : decode cX3_isSign 1 = .ok (.bipush 104, 2) := by decide +kernel
theorem dX3_isSign_3 : decode cX3_isSign 3 = .ok (.if_icmp .eq 33, 3) := by decide +kernel
theorem dX3_isSign_6 : decode cX3_isSign 6 = .ok (.iload_n 0, 1) := by decide +kernel
theorem dX3_isSign_7 : decode cX3_isSign 7 = .ok (.bipush 106, 2) := by decide +kernel
theorem dX3_isSign_9 : decode cX3_isSign 9 = .ok (.if_icmp .eq 27, 3) := by decide +kernel
theorem dX3_isSign_12 : decode cX3_isSign 12 = .ok (.iload_n 0, 1) := by decide +kernel
theorem dX3_isSign_13 : decode cX3_isSign 13 = .ok (.bipush 109, 2) := by decide +kernel
theorem dX3_isSign_15 : decode cX3_isSign 15 = .ok (.if_icmp .eq 21, 3) := by decide +kernel
theorem dX3_isSign_18 : decode cX3_isSign 18 = .ok (.iload_n 0, 1) := by decide +kernel
theorem dX3_isSign_19 : decode cX3_isSign 19 = .ok (.bipush 111, 2) := by decide +kernel
theorem dX3_isSign_21 : decode cX3_isSign 21 = .ok (.if_icmp .eq 15, 3) := by decide +kernel
theorem dX3_isSign_24 : decode cX3_isSign 24 = .ok (.iload_n 0, 1) := by decide +kernel
theorem dX3_isSign_25 : decode cX3_isSign 25 = .ok (.bipush 114, 2) := by decide +kernel
theorem dX3_isSign_27 : decode cX3_isSign 27 = .ok (.if_icmp .eq 9, 3) := by decide +kernel
theorem dX3_isSign_30 : decode cX3_isSign 30 = .ok (.iload_n 0, 1) := by decide +kernel
theorem dX3_isSign_31 : decode cX3_isSign 31 = .ok (.bipush 59, 2) := by decide +kernel
theorem dX3_isSign_33 : decode cX3_isSign 33 = .ok (.if_icmp .ne 7, 3) := by decide +kernel
theorem dX3_isSign_36 : decode cX3_isSign 36 = .ok (.iconst 1, 1) := by decide +kernel
theorem dX3_isSign_37 : decode cX3_isSign 37 = .ok (.goto 4, 3) := by decide +kernel
theorem dX3_isSign_40 : decode cX3_isSign 40 = .ok (.iconst 0, 1) := by decide +kernel
theorem dX3_isSign_41 : decode cX3_isSign 41 = .ok (.ireturn, 1) := by decide +kernel
theorem dJ6_bitCount_0f7a4_0 : decode cJ6_bitCount_0f7a4 0 = .ok (.iload_n 0, 1) := by decide +kernel
theorem dJ6_bitCount_0f7a4_1 : decode cJ6_bitCount_0f7a4 1 = .ok (.iload_n 0, 1) := by decide +kernel
theorem dJ6_bitCount_0f7a4_2 : decode cJ6_bitCount_0f7a4 2 = .ok (.iconst 1, 1) := by decide +kernel
theorem dJ6_bitCount_0f7a4_3 : decode cJ6_bitCount_0f7a4 3 = .ok (.iushr, 1) := by decide +kernel
theorem dJ6_bitCount_0f7a4_4 : decode cJ6_bitCount_0f7a4 4 = .ok (.ldc_w 265, 3) := by decide +kernel
theorem dJ6_bitCount_0f7a4_7 : decode cJ6_bitCount_0f7a4 7 = .ok (.iand, 1) := by decide +kernel
theorem dJ6_bitCount_0f7a4_8 : decode cJ6_bitCount_0f7a4 8 = .ok (.isub, 1) := by decide +kernel
theorem dJ6_bitCount_0f7a4_9 : decode cJ6_bitCount_0f7a4 9 = .ok (.istore_n 0, 1) := by decide +kernel
theorem dJ6_bitCount_0f7a4_10 : decode cJ6_bitCount_0f7a4 10 = .ok (.iload_n 0, 1) := by decide +kernel
theorem dJ6_bitCount_0f7a4_11 : decode cJ6_bitCount_0f7a4 11 = .ok (.ldc_w 266, 3) := by decide +kernel
theorem dJ6_bitCount_0f7a4_14 : decode cJ6_bitCount_0f7a4 14 = .ok (.iand, 1) := by decide +kernel
theorem dJ6_bitCount_0f7a4_15 : decode cJ6_bitCount_0f7a4 15 = .ok (.iload_n 0, 1) := by decide +kernel
theorem dJ6_bitCount_0f7a4_16 : decode cJ6_bitCount_0f7a4 16 = .ok (.iconst 2, 1) := by decide +kernel
theorem dJ6_bitCount_0f7a4_17 : decode cJ6_bitCount_0f7a4 17 = .ok (.iushr, 1) := by decide +kernel
theorem dJ6_bitCount_0f7a4_18 : decode cJ6_bitCount_0f7a4 18 = .ok (.ldc_w 266, 3) := by decide +kernel
theorem dJ6_bitCount_0f7a4_21 : decode cJ6_bitCount_0f7a4 21 = .ok (.iand, 1) := by decide +kernel
theorem dJ6_bitCount_0f7a4_22 : decode cJ6_bitCount_0f7a4 22 = .ok (.iadd, 1) := by decide +kernel
theorem dJ6_bitCount_0f7a4_23 : decode cJ6_bitCount_0f7a4 23 = .ok (.istore_n 0, 1) := by decide +kernel
theorem dJ6_bitCount_0f7a4_24 : decode cJ6_bitCount_0f7a4 24 = .ok (.iload_n 0, 1) := by decide +kernel
theorem dJ6_bitCount_0f7a4_25 : decode cJ6_bitCount_0f7a4 25 = .ok (.iload_n 0, 1) := by decide +kernel
theorem dJ6_bitCount_0f7a4_26 : decode cJ6_bitCount_0f7a4 26 = .ok (.iconst 4, 1) := by decide +kernel
theorem dJ6_bitCount_0f7a4_27 : decode cJ6_bitCount_0f7a4 27 = .ok (.iushr, 1) := by decide +kernel
theorem dJ6_bitCount_0f7a4_28 : decode cJ6_bitCount_0f7a4 28 = .ok (.iadd, 1) := by decide +kernel
theorem dJ6_bitCount_0f7a4_29 : decode cJ6_bitCount_0f7a4 29 = .ok (.ldc_w 267, 3) := by decide +kernel
theorem dJ6_bitCount_0f7a4_32 : decode cJ6_bitCount_0f7a4 32 = .ok (.iand, 1) := by decide +kernel
theorem dJ6_bitCount_0f7a4_33 : decode cJ6_bitCount_0f7a4 33 = .ok (.istore_n 0, 1) := by decide +kernel
theorem dJ6_bitCount_0f7a4_34 : decode cJ6_bitCount_0f7a4 34 = .ok (.iload_n 0, 1) := by decide +kernel
theorem dJ6_bitCount_0f7a4_35 : decode cJ6_bitCount_0f7a4 35 = .ok (.iload_n 0, 1) := by decide +kernel
theorem dJ6_bitCount_0f7a4_36 : decode cJ6_bitCount_0f7a4 36 = .ok (.bipush 8, 2) := by decide +kernel
theorem dJ6_bitCount_0f7a4_38 : decode cJ6_bitCount_0f7a4 38 = .ok (.iushr, 1) := by decide +kernel
theorem dJ6_bitCount_0f7a4_39 : decode cJ6_bitCount_0f7a4 39 = .ok (.iadd, 1) := by decide +kernel
theorem dJ6_bitCount_0f7a4_40 : decode cJ6_bitCount_0f7a4 40 = .ok (.istore_n 0, 1) := by decide +kernel
theorem dJ6_bitCount_0f7a4_41 : decode cJ6_bitCount_0f7a4 41 = .ok (.iload_n 0, 1) := by decide +kernel
theorem dJ6_bitCount_0f7a4_42 : decode cJ6_bitCount_0f7a4 42 = .ok (.iload_n 0, 1) := by decide +kernel
theorem dJ6_bitCount_0f7a4_43 : decode cJ6_bitCount_0f7a4 43 = .ok (.bipush 16, 2) := by decide +kernel
theorem dJ6_bitCount_0f7a4_45 : decode cJ6_bitCount_0f7a4 45 = .ok (.iushr, 1) := by decide +kernel
theorem dJ6_bitCount_0f7a4_46 : decode cJ6_bitCount_0f7a4 46 = .ok (.iadd, 1) := by decide +kernel
theorem dJ6_bitCount_0f7a4_47 : decode cJ6_bitCount_0f7a4 47 = .ok (.istore_n 0, 1) := by decide +kernel
theorem dJ6_bitCount_0f7a4_48 : decode cJ6_bitCount_0f7a4 48 = .ok (.iload_n 0, 1) := by decide +kernel
theorem dJ6_bitCount_0f7a4_49 : decode cJ6_bitCount_0f7a4 49 = .ok (.bipush 63, 2) := by decide +kernel
theorem dJ6_bitCount_0f7a4_51 : decode cJ6_bitCount_0f7a4 51 = .ok (.iand, 1) := by decide +kernel
theorem dJ6_bitCount_0f7a4_52 : decode cJ6_bitCount_0f7a4 52 = .ok (.ireturn, 1) := by decide +kernel
theorem dJ9_max_7cf53_0 : decode cJ9_max_7cf53 0 = .ok (.iload_n 0, 1) := by decide +kernel
theorem dJ9_max_7cf53_1 : decode cJ9_max_7cf53 1 = .ok (.iload_n 1, 1) := by decide +kernel
theorem dJ9_max_7cf53_2 : decode cJ9_max_7cf53 2 = .ok (.if_icmp .lt 7, 3) := by decide +kernel
theorem dJ9_max_7cf53_5 : decode cJ9_max_7cf53 5 = .ok (.iload_n 0, 1) := by decide +kernel
theorem dJ9_max_7cf53_6 : decode cJ9_max_7cf53 6 = .ok (.goto 4, 3) := by decide +kernel
theorem dJ9_max_7cf53_9 : decode cJ9_max_7cf53 9 = .ok (.iload_n 1, 1) := by decide +kernel
theorem dJ9_max_7cf53_10 : decode cJ9_max_7cf53 10 = .ok (.ireturn, 1) := by decide +kernel
theorem dJ9_min_7cf53_0 : decode cJ9_min_7cf53 0 = .ok (.iload_n 0, 1) := by decide +kernel
theorem dJ9_min_7cf53_1 : decode cJ9_min_7cf53 1 = .ok (.iload_n 1, 1) := by decide +kernel
theorem dJ9_min_7cf53_2 : decode cJ9_min_7cf53 2 = .ok (.if_icmp .gt 7, 3) := by decide +kernel
theorem dJ9_min_7cf53_5 : decode cJ9_min_7cf53 5 = .ok (.iload_n 0, 1) := by decide +kernel
theorem dJ9_min_7cf53_6 : decode cJ9_min_7cf53 6 = .ok (.goto 4, 3) := by decide +kernel
theorem dJ9_min_7cf53_9 : decode cJ9_min_7cf53 9 = .ok (.iload_n 1, 1) := by decide +kernel
theorem dJ9_min_7cf53_10 : decode cJ9_min_7cf53 10 = .ok (.ireturn, 1) := by decide +kernel
