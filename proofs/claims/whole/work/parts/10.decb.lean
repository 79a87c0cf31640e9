theorem dX4_init_0 : decode cX4_init 0 = .ok (.aload_n 0, 1) := by decide +kernel
theorem dX4_init_1 : decode cX4_init 1 = .ok (.invokespecial 1, 3) := by decide +kernel
theorem dX4_init_4 : decode cX4_init 4 = .ok (.aload_n 0, 1) := by decide +kernel
theorem dX4_init_5 : decode cX4_init 5 = .ok (.sipush 200, 3) := by decide +kernel
theorem dX4_init_8 : decode cX4_init 8 = .ok (.newarray .char, 2) := by decide +kernel
theorem dX4_init_10 : decode cX4_init 10 = .ok (.putfield 9, 3) := by decide +kernel
theorem dX4_init_13 : decode cX4_init 13 = .ok (.aload_n 0, 1) := by decide +kernel
theorem dX4_init_14 : decode cX4_init 14 = .ok (.new 13, 3) := by decide +kernel
theorem dX4_init_17 : decode cX4_init 17 = .ok (.dup, 1) := by decide +kernel
theorem dX4_init_18 : decode cX4_init 18 = .ok (.aload_n 0, 1) := by decide +kernel
theorem dX4_init_19 : decode cX4_init 19 = .ok (.getfield 9, 3) := by decide +kernel
theorem dX4_init_22 : decode cX4_init 22 = .ok (.invokespecial 15, 3) := by decide +kernel
theorem dX4_init_25 : decode cX4_init 25 = .ok (.putfield 18, 3) := by decide +kernel
theorem dX4_init_28 : decode cX4_init 28 = .ok (.aload_n 0, 1) := by decide +kernel
theorem dX4_init_29 : decode cX4_init 29 = .ok (.new 22, 3) := by decide +kernel
theorem dX4_init_32 : decode cX4_init 32 = .ok (.dup, 1) := by decide +kernel
theorem dX4_init_33 : decode cX4_init 33 = .ok (.invokespecial 24, 3) := by decide +kernel
theorem dX4_init_36 : decode cX4_init 36 = .ok (.putfield 25, 3) := by decide +kernel
theorem dX4_init_39 : decode cX4_init 39 = .ok (.aload_n 0, 1) := by decide +kernel
theorem dX4_init_40 : decode cX4_init 40 = .ok (.new 22, 3) := by decide +kernel
theorem dX4_init_43 : decode cX4_init 43 = .ok (.dup, 1) := by decide +kernel
theorem dX4_init_44 : decode cX4_init 44 = .ok (.invokespecial 24, 3) := by decide +kernel
theorem dX4_init_47 : decode cX4_init 47 = .ok (.putfield 29, 3) := by decide +kernel
theorem dX4_init_50 : decode cX4_init 50 = .ok (.aload_n 0, 1) := by decide +kernel
theorem dX4_init_51 : decode cX4_init 51 = .ok (.new 32, 3) := by decide +kernel
theorem dX4_init_54 : decode cX4_init 54 = .ok (.dup, 1) := by decide +kernel
theorem dX4_init_55 : decode cX4_init 55 = .ok (.invokespecial 34, 3) := by decide +kernel
theorem dX4_init_58 : decode cX4_init 58 = .ok (.putfield 35, 3) := by decide +kernel
theorem dX4_init_61 : decode cX4_init 61 = .ok (.aload_n 0, 1) := by decide +kernel
theorem dX4_init_62 : decode cX4_init 62 = .ok (.new 32, 3) := by decide +kernel
theorem dX4_init_65 : decode cX4_init 65 = .ok (.dup, 1) := by decide +kernel
theorem dX4_init_66 : decode cX4_init 66 = .ok (.invokespecial 34, 3) := by decide +kernel
theorem dX4_init_69 : decode cX4_init 69 = .ok (.putfield 39, 3) := by decide +kernel
theorem dX4_init_72 : decode cX4_init 72 = .ok (.aload_n 0, 1) := by decide +kernel
theorem dX4_init_73 : decode cX4_init 73 = .ok (.bipush 10, 2) := by decide +kernel
theorem dX4_init_75 : decode cX4_init 75 = .ok (.anewarray 32, 3) := by decide +kernel
theorem dX4_init_78 : decode cX4_init 78 = .ok (.putfield 42, 3) := by decide +kernel
theorem dX4_init_81 : decode cX4_init 81 = .ok (.aload_n 0, 1) := by decide +kernel
theorem dX4_init_82 : decode cX4_init 82 = .ok (.iconst 2, 1) := by decide +kernel
theorem dX4_init_83 : decode cX4_init 83 = .ok (.anewarray 32, 3) := by decide +kernel
theorem dX4_init_86 : decode cX4_init 86 = .ok (.putfield 46, 3) := by decide +kernel
theorem dX4_init_89 : decode cX4_init 89 = .ok (.aload_n 0, 1) := by decide +kernel
theorem dX4_init_90 : decode cX4_init 90 = .ok (.iconst 2, 1) := by decide +kernel
theorem dX4_init_91 : decode cX4_init 91 = .ok (.newarray .boolean, 2) := by decide +kernel
theorem dX4_init_93 : decode cX4_init 93 = .ok (.putfield 49, 3) := by decide +kernel
theorem dX4_init_96 : decode cX4_init 96 = .ok (.aload_n 0, 1) := by decide +kernel
theorem dX4_init_97 : decode cX4_init 97 = .ok (.bipush 6, 2) := by decide +kernel
theorem dX4_init_99 : decode cX4_init 99 = .ok (.newarray .int, 2) := by decide +kernel
theorem dX4_init_101 : decode cX4_init 101 = .ok (.putfield 53, 3) := by decide +kernel
theorem dX4_init_104 : decode cX4_init 104 = .ok (.aload_n 0, 1) := by decide +kernel
theorem dX4_init_105 : decode cX4_init 105 = .ok (.bipush 6, 2) := by decide +kernel
theorem dX4_init_107 : decode cX4_init 107 = .ok (.newarray .int, 2) := by decide +kernel
theorem dX4_init_109 : decode cX4_init 109 = .ok (.putfield 57, 3) := by decide +kernel
theorem dX4_init_112 : decode cX4_init 112 = .ok (.aload_n 0, 1) := by decide +kernel
theorem dX4_init_113 : decode cX4_init 113 = .ok (.new 60, 3) := by decide +kernel
theorem dX4_init_116 : decode cX4_init 116 = .ok (.dup, 1) := by decide +kernel
theorem dX4_init_117 : decode cX4_init 117 = .ok (.invokespecial 62, 3) := by decide +kernel
theorem dX4_init_120 : decode cX4_init 120 = .ok (.putfield 63, 3) := by decide +kernel
theorem dX4_init_123 : decode cX4_init 123 = .ok (.iconst 0, 1) := by decide +kernel
theorem dX4_init_124 : decode cX4_init 124 = .ok (.istore_n 1, 1) := by decide +kernel
theorem dX4_init_125 : decode cX4_init 125 = .ok (.iload_n 1, 1) := by decide +kernel
theorem dX4_init_126 : decode cX4_init 126 = .ok (.bipush 10, 2) := by decide +kernel
theorem dX4_init_128 : decode cX4_init 128 = .ok (.if_icmp .ge 22, 3) := by decide +kernel
theorem dX4_init_131 : decode cX4_init 131 = .ok (.aload_n 0, 1) := by decide +kernel
theorem dX4_init_132 : decode cX4_init 132 = .ok (.getfield 42, 3) := by decide +kernel
theorem dX4_init_135 : decode cX4_init 135 = .ok (.iload_n 1, 1) := by decide +kernel
theorem dX4_init_136 : decode cX4_init 136 = .ok (.new 32, 3) := by decide +kernel
theorem dX4_init_139 : decode cX4_init 139 = .ok (.dup, 1) := by decide +kernel
theorem dX4_init_140 : decode cX4_init 140 = .ok (.invokespecial 34, 3) := by decide +kernel
theorem dX4_init_143 : decode cX4_init 143 = .ok (.aastore, 1) := by decide +kernel
theorem dX4_init_144 : decode cX4_init 144 = .ok (.iinc 1 1, 3) := by decide +kernel
theorem dX4_init_147 : decode cX4_init 147 = .ok (.goto (-22), 3) := by decide +kernel
theorem dX4_init_150 : decode cX4_init 150 = .ok (.iconst 0, 1) := by decide +kernel
theorem dX4_init_151 : decode cX4_init 151 = .ok (.istore_n 1, 1) := by decide +kernel
theorem dX4_init_152 : decode cX4_init 152 = .ok (.iload_n 1, 1) := by decide +kernel
theorem dX4_init_153 : decode cX4_init 153 = .ok (.iconst 2, 1) := by decide +kernel
theorem dX4_init_154 : decode cX4_init 154 = .ok (.if_icmp .ge 22, 3) := by decide +kernel
theorem dX4_init_157 : decode cX4_init 157 = .ok (.aload_n 0, 1) := by decide +kernel
theorem dX4_init_158 : decode cX4_init 158 = .ok (.getfield 46, 3) := by decide +kernel
theorem dX4_init_161 : decode cX4_init 161 = .ok (.iload_n 1, 1) := by decide +kernel
theorem dX4_init_162 : decode cX4_init 162 = .ok (.new 32, 3) := by decide +kernel
theorem dX4_init_165 : decode cX4_init 165 = .ok (.dup, 1) := by decide +kernel
theorem dX4_init_166 : decode cX4_init 166 = .ok (.invokespecial 34, 3) := by decide +kernel
theorem dX4_init_169 : decode cX4_init 169 = .ok (.aastore, 1) := by decide +kernel
theorem dX4_init_170 : decode cX4_init 170 = .ok (.iinc 1 1, 3) := by decide +kernel
theorem dX4_init_173 : decode cX4_init 173 = .ok (.goto (-21), 3) := by decide +kernel
theorem dX4_init_176 : decode cX4_init 176 = .ok (.aload_n 0, 1) := by decide +kernel
theorem dX4_init_177 : decode cX4_init 177 = .ok (.getfield 35, 3) := by decide +kernel
theorem dX4_init_180 : decode cX4_init 180 = .ok (.aload_n 0, 1) := by decide +kernel
theorem dX4_init_181 : decode cX4_init 181 = .ok (.getfield 25, 3) := by decide +kernel
theorem dX4_init_184 : decode cX4_init 184 = .ok (.invokevirtual 67, 3) := by decide +kernel
theorem dX4_init_187 : decode cX4_init 187 = .ok (.return_, 1) := by decide +kernel
theorem dX4_type_0 : decode cX4_type 0 = .ok (.iload_n 1, 1) := by decide +kernel
theorem dX4_type_1 : decode cX4_type 1 = .ok (.ifCond .lt 10, 3) := by decide +kernel
theorem dX4_type_4 : decode cX4_type 4 = .ok (.iload_n 1, 1) := by decide +kernel
theorem dX4_type_5 : decode cX4_type 5 = .ok (.sipush 255, 3) := by decide +kernel
theorem dX4_type_8 : decode cX4_type 8 = .ok (.if_icmp .le 5, 3) := by decide +kernel
theorem dX4_type_11 : decode cX4_type 11 = .ok (.iconst (-1), 1) := by decide +kernel
theorem dX4_type_12 : decode cX4_type 12 = .ok (.ireturn, 1) := by decide +kernel
theorem dX4_type_13 : decode cX4_type 13 = .ok (.aload_n 0, 1) := by decide +kernel
theorem dX4_type_14 : decode cX4_type 14 = .ok (.getfield 71, 3) := by decide +kernel
theorem dX4_type_17 : decode cX4_type 17 = .ok (.sipush 200, 3) := by decide +kernel
theorem dX4_type_20 : decode cX4_type 20 = .ok (.if_icmp .lt 6, 3) := by decide +kernel
theorem dX4_type_23 : decode cX4_type 23 = .ok (.bipush (-3), 2) := by decide +kernel
theorem dX4_type_25 : decode cX4_type 25 = .ok (.ireturn, 1) := by decide +kernel
theorem dX4_type_26 : decode cX4_type 26 = .ok (.aload_n 0, 1) := by decide +kernel
theorem dX4_type_27 : decode cX4_type 27 = .ok (.getfield 9, 3) := by decide +kernel
theorem dX4_type_30 : decode cX4_type 30 = .ok (.aload_n 0, 1) := by decide +kernel
theorem dX4_type_31 : decode cX4_type 31 = .ok (.getfield 71, 3) := by decide +kernel
theorem dX4_type_34 : decode cX4_type 34 = .ok (.iload_n 1, 1) := by decide +kernel
theorem dX4_type_35 : decode cX4_type 35 = .ok (.i2c, 1) := by decide +kernel
theorem dX4_type_36 : decode cX4_type 36 = .ok (.castore, 1) := by decide +kernel
theorem dX4_type_37 : decode cX4_type 37 = .ok (.aload_n 0, 1) := by decide +kernel
theorem dX4_type_38 : decode cX4_type 38 = .ok (.dup, 1) := by decide +kernel
theorem dX4_type_39 : decode cX4_type 39 = .ok (.getfield 71, 3) := by decide +kernel
theorem dX4_type_42 : decode cX4_type 42 = .ok (.iconst 1, 1) := by decide +kernel
theorem dX4_type_43 : decode cX4_type 43 = .ok (.iadd, 1) := by decide +kernel
theorem dX4_type_44 : decode cX4_type 44 = .ok (.putfield 71, 3) := by decide +kernel
theorem dX4_type_47 : decode cX4_type 47 = .ok (.aload_n 0, 1) := by decide +kernel
theorem dX4_type_48 : decode cX4_type 48 = .ok (.getfield 71, 3) := by decide +kernel
theorem dX4_type_51 : decode cX4_type 51 = .ok (.ireturn, 1) := by decide +kernel
theorem dX4_clear_0 : decode cX4_clear 0 = .ok (.aload_n 0, 1) := by decide +kernel
theorem dX4_clear_1 : decode cX4_clear 1 = .ok (.getfield 71, 3) := by decide +kernel
theorem dX4_clear_4 : decode cX4_clear 4 = .ok (.istore_n 1, 1) := by decide +kernel
theorem dX4_clear_5 : decode cX4_clear 5 = .ok (.aload_n 0, 1) := by decide +kernel
theorem dX4_clear_6 : decode cX4_clear 6 = .ok (.iconst 0, 1) := by decide +kernel
theorem dX4_clear_7 : decode cX4_clear 7 = .ok (.putfield 71, 3) := by decide +kernel
theorem dX4_clear_10 : decode cX4_clear 10 = .ok (.iload_n 1, 1) := by decide +kernel
theorem dX4_clear_11 : decode cX4_clear 11 = .ok (.ireturn, 1) := by decide +kernel
theorem dX4_hills_0 : decode cX4_hills 0 = .ok (.aload_n 0, 1) := by decide +kernel
theorem dX4_hills_1 : decode cX4_hills 1 = .ok (.getfield 18, 3) := by decide +kernel
theorem dX4_hills_4 : decode cX4_hills 4 = .ok (.aload_n 0, 1) := by decide +kernel
theorem dX4_hills_5 : decode cX4_hills 5 = .ok (.getfield 71, 3) := by decide +kernel
theorem dX4_hills_8 : decode cX4_hills 8 = .ok (.aload_n 0, 1) := by decide +kernel
theorem dX4_hills_9 : decode cX4_hills 9 = .ok (.getfield 29, 3) := by decide +kernel
theorem dX4_hills_12 : decode cX4_hills 12 = .ok (.invokevirtual 75, 3) := by decide +kernel
theorem dX4_hills_15 : decode cX4_hills 15 = .ok (.istore_n 1, 1) := by decide +kernel
theorem dX4_hills_16 : decode cX4_hills 16 = .ok (.iload_n 1, 1) := by decide +kernel
theorem dX4_hills_17 : decode cX4_hills 17 = .ok (.ifCond .ge 5, 3) := by decide +kernel
theorem dX4_hills_20 : decode cX4_hills 20 = .ok (.iload_n 1, 1) := by decide +kernel
theorem dX4_hills_21 : decode cX4_hills 21 = .ok (.ireturn, 1) := by decide +kernel
theorem dX4_hills_22 : decode cX4_hills 22 = .ok (.aload_n 0, 1) := by decide +kernel
theorem dX4_hills_23 : decode cX4_hills 23 = .ok (.getfield 29, 3) := by decide +kernel
theorem dX4_hills_26 : decode cX4_hills 26 = .ok (.astore_n 2, 1) := by decide +kernel
theorem dX4_hills_27 : decode cX4_hills 27 = .ok (.aload_n 0, 1) := by decide +kernel
theorem dX4_hills_28 : decode cX4_hills 28 = .ok (.aload_n 0, 1) := by decide +kernel
theorem dX4_hills_29 : decode cX4_hills 29 = .ok (.getfield 25, 3) := by decide +kernel
theorem dX4_hills_32 : decode cX4_hills 32 = .ok (.putfield 29, 3) := by decide +kernel
theorem dX4_hills_35 : decode cX4_hills 35 = .ok (.aload_n 0, 1) := by decide +kernel
theorem dX4_hills_36 : decode cX4_hills 36 = .ok (.aload_n 2, 1) := by decide +kernel
theorem dX4_hills_37 : decode cX4_hills 37 = .ok (.putfield 25, 3) := by decide +kernel
theorem dX4_hills_40 : decode cX4_hills 40 = .ok (.aload_n 0, 1) := by decide +kernel
theorem dX4_hills_41 : decode cX4_hills 41 = .ok (.iconst 0, 1) := by decide +kernel
theorem dX4_hills_42 : decode cX4_hills 42 = .ok (.putfield 71, 3) := by decide +kernel
theorem dX4_hills_45 : decode cX4_hills 45 = .ok (.aload_n 0, 1) := by decide +kernel
theorem dX4_hills_46 : decode cX4_hills 46 = .ok (.getfield 35, 3) := by decide +kernel
theorem dX4_hills_49 : decode cX4_hills 49 = .ok (.aload_n 0, 1) := by decide +kernel
theorem dX4_hills_50 : decode cX4_hills 50 = .ok (.getfield 25, 3) := by decide +kernel
theorem dX4_hills_53 : decode cX4_hills 53 = .ok (.invokevirtual 67, 3) := by decide +kernel
theorem dX4_hills_56 : decode cX4_hills 56 = .ok (.aload_n 0, 1) := by decide +kernel
theorem dX4_hills_57 : decode cX4_hills 57 = .ok (.iconst 0, 1) := by decide +kernel
theorem dX4_hills_58 : decode cX4_hills 58 = .ok (.putfield 79, 3) := by decide +kernel
theorem dX4_hills_61 : decode cX4_hills 61 = .ok (.aload_n 0, 1) := by decide +kernel
theorem dX4_hills_62 : decode cX4_hills 62 = .ok (.iconst 0, 1) := by decide +kernel
theorem dX4_hills_63 : decode cX4_hills 63 = .ok (.putfield 82, 3) := by decide +kernel
theorem dX4_hills_66 : decode cX4_hills 66 = .ok (.iconst 0, 1) := by decide +kernel
theorem dX4_hills_67 : decode cX4_hills 67 = .ok (.istore_n 3, 1) := by decide +kernel
theorem dX4_hills_68 : decode cX4_hills 68 = .ok (.iload_n 3, 1) := by decide +kernel
theorem dX4_hills_69 : decode cX4_hills 69 = .ok (.iconst 2, 1) := by decide +kernel
theorem dX4_hills_70 : decode cX4_hills 70 = .ok (.if_icmp .ge 16, 3) := by decide +kernel
theorem dX4_hills_73 : decode cX4_hills 73 = .ok (.aload_n 0, 1) := by decide +kernel
theorem dX4_hills_74 : decode cX4_hills 74 = .ok (.getfield 49, 3) := by decide +kernel
theorem dX4_hills_77 : decode cX4_hills 77 = .ok (.iload_n 3, 1) := by decide +kernel
theorem dX4_hills_78 : decode cX4_hills 78 = .ok (.iconst 0, 1) := by decide +kernel
theorem dX4_hills_79 : decode cX4_hills 79 = .ok (.bastore, 1) := by decide +kernel
theorem dX4_hills_80 : decode cX4_hills 80 = .ok (.iinc 3 1, 3) := by decide +kernel
theorem dX4_hills_83 : decode cX4_hills 83 = .ok (.goto (-15), 3) := by decide +kernel
theorem dX4_hills_86 : decode cX4_hills 86 = .ok (.iload_n 1, 1) := by decide +kernel
theorem dX4_hills_87 : decode cX4_hills 87 = .ok (.ireturn, 1) := by decide +kernel
theorem dX4_hill_0 : decode cX4_hill 0 = .ok (.aload_n 0, 1) := by decide +kernel
theorem dX4_hill_1 : decode cX4_hill 1 = .ok (.getfield 25, 3) := by decide +kernel
theorem dX4_hill_4 : decode cX4_hill 4 = .ok (.iload_n 1, 1) := by decide +kernel
theorem dX4_hill_5 : decode cX4_hill 5 = .ok (.invokevirtual 85, 3) := by decide +kernel
theorem dX4_hill_8 : decode cX4_hill 8 = .ok (.ifCond .ne 5, 3) := by decide +kernel
theorem dX4_hill_11 : decode cX4_hill 11 = .ok (.iconst (-1), 1) := by decide +kernel
theorem dX4_hill_12 : decode cX4_hill 12 = .ok (.ireturn, 1) := by decide +kernel
theorem dX4_hill_13 : decode cX4_hill 13 = .ok (.iload_n 2, 1) := by decide +kernel
theorem dX4_hill_14 : decode cX4_hill 14 = .ok (.tableswitch 70 0 3 #[30, 40, 50, 60], 30) := by decide +kernel
theorem dX4_hill_44 : decode cX4_hill 44 = .ok (.aload_n 0, 1) := by decide +kernel
theorem dX4_hill_45 : decode cX4_hill 45 = .ok (.getfield 25, 3) := by decide +kernel
theorem dX4_hill_48 : decode cX4_hill 48 = .ok (.getfield 89, 3) := by decide +kernel
theorem dX4_hill_51 : decode cX4_hill 51 = .ok (.iload_n 1, 1) := by decide +kernel
theorem dX4_hill_52 : decode cX4_hill 52 = .ok (.iaload, 1) := by decide +kernel
theorem dX4_hill_53 : decode cX4_hill 53 = .ok (.ireturn, 1) := by decide +kernel
theorem dX4_hill_54 : decode cX4_hill 54 = .ok (.aload_n 0, 1) := by decide +kernel
theorem dX4_hill_55 : decode cX4_hill 55 = .ok (.getfield 25, 3) := by decide +kernel
theorem dX4_hill_58 : decode cX4_hill 58 = .ok (.getfield 92, 3) := by decide +kernel
theorem dX4_hill_61 : decode cX4_hill 61 = .ok (.iload_n 1, 1) := by decide +kernel
theorem dX4_hill_62 : decode cX4_hill 62 = .ok (.iaload, 1) := by decide +kernel
theorem dX4_hill_63 : decode cX4_hill 63 = .ok (.ireturn, 1) := by decide +kernel
theorem dX4_hill_64 : decode cX4_hill 64 = .ok (.aload_n 0, 1) := by decide +kernel
theorem dX4_hill_65 : decode cX4_hill 65 = .ok (.getfield 25, 3) := by decide +kernel
theorem dX4_hill_68 : decode cX4_hill 68 = .ok (.getfield 95, 3) := by decide +kernel
theorem dX4_hill_71 : decode cX4_hill 71 = .ok (.iload_n 1, 1) := by decide +kernel
theorem dX4_hill_72 : decode cX4_hill 72 = .ok (.iaload, 1) := by decide +kernel
theorem dX4_hill_73 : decode cX4_hill 73 = .ok (.ireturn, 1) := by decide +kernel
theorem dX4_hill_74 : decode cX4_hill 74 = .ok (.aload_n 0, 1) := by decide +kernel
theorem dX4_hill_75 : decode cX4_hill 75 = .ok (.getfield 25, 3) := by decide +kernel
theorem dX4_hill_78 : decode cX4_hill 78 = .ok (.getfield 98, 3) := by decide +kernel
theorem dX4_hill_81 : decode cX4_hill 81 = .ok (.iload_n 1, 1) := by decide +kernel
theorem dX4_hill_82 : decode cX4_hill 82 = .ok (.iaload, 1) := by decide +kernel
theorem dX4_hill_83 : decode cX4_hill 83 = .ok (.ireturn, 1) := by decide +kernel
theorem dX4_hill_84 : decode cX4_hill 84 = .ok (.iconst (-1), 1) := by decide +kernel
theorem dX4_hill_85 : decode cX4_hill 85 = .ok (.ireturn, 1) := by decide +kernel
theorem dX4_stone_0 : decode cX4_stone 0 = .ok (.aload_n 0, 1) := by decide +kernel
theorem dX4_stone_1 : decode cX4_stone 1 = .ok (.getfield 25, 3) := by decide +kernel
theorem dX4_stone_4 : decode cX4_stone 4 = .ok (.iload_n 1, 1) := by decide +kernel
theorem dX4_stone_5 : decode cX4_stone 5 = .ok (.invokevirtual 85, 3) := by decide +kernel
theorem dX4_stone_8 : decode cX4_stone 8 = .ok (.ifCond .ne 5, 3) := by decide +kernel
theorem dX4_stone_11 : decode cX4_stone 11 = .ok (.iconst (-1), 1) := by decide +kernel
theorem dX4_stone_12 : decode cX4_stone 12 = .ok (.ireturn, 1) := by decide +kernel
theorem dX4_stone_13 : decode cX4_stone 13 = .ok (.iload_n 2, 1) := by decide +kernel
theorem dX4_stone_14 : decode cX4_stone 14 = .ok (.tableswitch 84 0 3 #[30, 40, 53, 63], 30) := by decide +kernel
theorem dX4_stone_44 : decode cX4_stone 44 = .ok (.aload_n 0, 1) := by decide +kernel
theorem dX4_stone_45 : decode cX4_stone 45 = .ok (.getfield 35, 3) := by decide +kernel
theorem dX4_stone_48 : decode cX4_stone 48 = .ok (.getfield 101, 3) := by decide +kernel
theorem dX4_stone_51 : decode cX4_stone 51 = .ok (.iload_n 1, 1) := by decide +kernel
theorem dX4_stone_52 : decode cX4_stone 52 = .ok (.iaload, 1) := by decide +kernel
theorem dX4_stone_53 : decode cX4_stone 53 = .ok (.ireturn, 1) := by decide +kernel
theorem dX4_stone_54 : decode cX4_stone 54 = .ok (.aload_n 0, 1) := by decide +kernel
theorem dX4_stone_55 : decode cX4_stone 55 = .ok (.getfield 35, 3) := by decide +kernel
theorem dX4_stone_58 : decode cX4_stone 58 = .ok (.aload_n 0, 1) := by decide +kernel
theorem dX4_stone_59 : decode cX4_stone 59 = .ok (.getfield 25, 3) := by decide +kernel
theorem dX4_stone_62 : decode cX4_stone 62 = .ok (.iload_n 1, 1) := by decide +kernel
theorem dX4_stone_63 : decode cX4_stone 63 = .ok (.invokevirtual 104, 3) := by decide +kernel
theorem dX4_stone_66 : decode cX4_stone 66 = .ok (.ireturn, 1) := by decide +kernel
theorem dX4_stone_67 : decode cX4_stone 67 = .ok (.aload_n 0, 1) := by decide +kernel
theorem dX4_stone_68 : decode cX4_stone 68 = .ok (.getfield 35, 3) := by decide +kernel
theorem dX4_stone_71 : decode cX4_stone 71 = .ok (.getfield 108, 3) := by decide +kernel
theorem dX4_stone_74 : decode cX4_stone 74 = .ok (.iload_n 1, 1) := by decide +kernel
theorem dX4_stone_75 : decode cX4_stone 75 = .ok (.iaload, 1) := by decide +kernel
theorem dX4_stone_76 : decode cX4_stone 76 = .ok (.ireturn, 1) := by decide +kernel
theorem dX4_stone_77 : decode cX4_stone 77 = .ok (.aload_n 0, 1) := by decide +kernel
theorem dX4_stone_78 : decode cX4_stone 78 = .ok (.getfield 35, 3) := by decide +kernel
theorem dX4_stone_81 : decode cX4_stone 81 = .ok (.aload_n 0, 1) := by decide +kernel
theorem dX4_stone_82 : decode cX4_stone 82 = .ok (.getfield 25, 3) := by decide +kernel
theorem dX4_stone_85 : decode cX4_stone 85 = .ok (.iload_n 1, 1) := by decide +kernel
theorem dX4_stone_86 : decode cX4_stone 86 = .ok (.invokevirtual 111, 3) := by decide +kernel
theorem dX4_stone_89 : decode cX4_stone 89 = .ok (.ifCond .eq 7, 3) := by decide +kernel
theorem dX4_stone_92 : decode cX4_stone 92 = .ok (.iconst 1, 1) := by decide +kernel
theorem dX4_stone_93 : decode cX4_stone 93 = .ok (.goto 4, 3) := by decide +kernel
theorem dX4_stone_96 : decode cX4_stone 96 = .ok (.iconst 0, 1) := by decide +kernel
theorem dX4_stone_97 : decode cX4_stone 97 = .ok (.ireturn, 1) := by decide +kernel
theorem dX4_stone_98 : decode cX4_stone 98 = .ok (.iconst (-1), 1) := by decide +kernel
theorem dX4_stone_99 : decode cX4_stone 99 = .ok (.ireturn, 1) := by decide +kernel
theorem dX4_man_0 : decode cX4_man 0 = .ok (.aload_n 0, 1) := by decide +kernel
theorem dX4_man_1 : decode cX4_man 1 = .ok (.getfield 25, 3) := by decide +kernel
theorem dX4_man_4 : decode cX4_man 4 = .ok (.iload_n 1, 1) := by decide +kernel
theorem dX4_man_5 : decode cX4_man 5 = .ok (.invokevirtual 115, 3) := by decide +kernel
theorem dX4_man_8 : decode cX4_man 8 = .ok (.ifCond .ne 5, 3) := by decide +kernel
theorem dX4_man_11 : decode cX4_man 11 = .ok (.iconst (-1), 1) := by decide +kernel
theorem dX4_man_12 : decode cX4_man 12 = .ok (.ireturn, 1) := by decide +kernel
theorem dX4_man_13 : decode cX4_man 13 = .ok (.iload_n 2, 1) := by decide +kernel
theorem dX4_man_14 : decode cX4_man 14 = .ok (.tableswitch 56 0 2 #[26, 36, 46], 26) := by decide +kernel
theorem dX4_man_40 : decode cX4_man 40 = .ok (.aload_n 0, 1) := by decide +kernel
theorem dX4_man_41 : decode cX4_man 41 = .ok (.getfield 25, 3) := by decide +kernel
theorem dX4_man_44 : decode cX4_man 44 = .ok (.getfield 118, 3) := by decide +kernel
theorem dX4_man_47 : decode cX4_man 47 = .ok (.iload_n 1, 1) := by decide +kernel
theorem dX4_man_48 : decode cX4_man 48 = .ok (.iaload, 1) := by decide +kernel
theorem dX4_man_49 : decode cX4_man 49 = .ok (.ireturn, 1) := by decide +kernel
theorem dX4_man_50 : decode cX4_man 50 = .ok (.aload_n 0, 1) := by decide +kernel
theorem dX4_man_51 : decode cX4_man 51 = .ok (.getfield 35, 3) := by decide +kernel
theorem dX4_man_54 : decode cX4_man 54 = .ok (.getfield 121, 3) := by decide +kernel
theorem dX4_man_57 : decode cX4_man 57 = .ok (.iload_n 1, 1) := by decide +kernel
theorem dX4_man_58 : decode cX4_man 58 = .ok (.iaload, 1) := by decide +kernel
theorem dX4_man_59 : decode cX4_man 59 = .ok (.ireturn, 1) := by decide +kernel
theorem dX4_man_60 : decode cX4_man 60 = .ok (.aload_n 0, 1) := by decide +kernel
theorem dX4_man_61 : decode cX4_man 61 = .ok (.getfield 35, 3) := by decide +kernel
theorem dX4_man_64 : decode cX4_man 64 = .ok (.getfield 124, 3) := by decide +kernel
theorem dX4_man_67 : decode cX4_man 67 = .ok (.iload_n 1, 1) := by decide +kernel
theorem dX4_man_68 : decode cX4_man 68 = .ok (.iaload, 1) := by decide +kernel
theorem dX4_man_69 : decode cX4_man 69 = .ok (.ireturn, 1) := by decide +kernel
theorem dX4_man_70 : decode cX4_man 70 = .ok (.iconst (-1), 1) := by decide +kernel
theorem dX4_man_71 : decode cX4_man 71 = .ok (.ireturn, 1) := by decide +kernel
theorem dX4_now_0 : decode cX4_now 0 = .ok (.iload_n 1, 1) := by decide +kernel
theorem dX4_now_1 : decode cX4_now 1 = .ok (.tableswitch 76 0 4 #[35, 43, 51, 63, 71], 35) := by decide +kernel
theorem dX4_now_36 : decode cX4_now 36 = .ok (.aload_n 0, 1) := by decide +kernel
theorem dX4_now_37 : decode cX4_now 37 = .ok (.getfield 35, 3) := by decide +kernel
theorem dX4_now_40 : decode cX4_now 40 = .ok (.getfield 127, 3) := by decide +kernel
theorem dX4_now_43 : decode cX4_now 43 = .ok (.ireturn, 1) := by decide +kernel
theorem dX4_now_44 : decode cX4_now 44 = .ok (.aload_n 0, 1) := by decide +kernel
theorem dX4_now_45 : decode cX4_now 45 = .ok (.getfield 35, 3) := by decide +kernel
theorem dX4_now_48 : decode cX4_now 48 = .ok (.getfield 130, 3) := by decide +kernel
theorem dX4_now_51 : decode cX4_now 51 = .ok (.ireturn, 1) := by decide +kernel
theorem dX4_now_52 : decode cX4_now 52 = .ok (.aload_n 0, 1) := by decide +kernel
theorem dX4_now_53 : decode cX4_now 53 = .ok (.getfield 35, 3) := by decide +kernel
theorem dX4_now_56 : decode cX4_now 56 = .ok (.aload_n 0, 1) := by decide +kernel
theorem dX4_now_57 : decode cX4_now 57 = .ok (.getfield 25, 3) := by decide +kernel
theorem dX4_now_60 : decode cX4_now 60 = .ok (.invokevirtual 133, 3) := by decide +kernel
theorem dX4_now_63 : decode cX4_now 63 = .ok (.ireturn, 1) := by decide +kernel
theorem dX4_now_64 : decode cX4_now 64 = .ok (.aload_n 0, 1) := by decide +kernel
theorem dX4_now_65 : decode cX4_now 65 = .ok (.getfield 35, 3) := by decide +kernel
theorem dX4_now_68 : decode cX4_now 68 = .ok (.getfield 137, 3) := by decide +kernel
theorem dX4_now_71 : decode cX4_now 71 = .ok (.ireturn, 1) := by decide +kernel
theorem dX4_now_72 : decode cX4_now 72 = .ok (.aload_n 0, 1) := by decide +kernel
theorem dX4_now_73 : decode cX4_now 73 = .ok (.getfield 79, 3) := by decide +kernel
theorem dX4_now_76 : decode cX4_now 76 = .ok (.ireturn, 1) := by decide +kernel
theorem dX4_now_77 : decode cX4_now 77 = .ok (.iconst (-1), 1) := by decide +kernel
theorem dX4_now_78 : decode cX4_now 78 = .ok (.ireturn, 1) := by decide +kernel
theorem dX4_order_0 : decode cX4_order 0 = .ok (.aload_n 0, 1) := by decide +kernel
theorem dX4_order_1 : decode cX4_order 1 = .ok (.getfield 25, 3) := by decide +kernel
theorem dX4_order_4 : decode cX4_order 4 = .ok (.iload_n 1, 1) := by decide +kernel
theorem dX4_order_5 : decode cX4_order 5 = .ok (.invokevirtual 115, 3) := by decide +kernel
theorem dX4_order_8 : decode cX4_order 8 = .ok (.ifCond .eq 20, 3) := by decide +kernel
theorem dX4_order_11 : decode cX4_order 11 = .ok (.iload_n 2, 1) := by decide +kernel
theorem dX4_order_12 : decode cX4_order 12 = .ok (.bipush (-9), 2) := by decide +kernel
theorem dX4_order_14 : decode cX4_order 14 = .ok (.if_icmp .eq 16, 3) := by decide +kernel
theorem dX4_order_17 : decode cX4_order 17 = .ok (.aload_n 0, 1) := by decide +kernel
theorem dX4_order_18 : decode cX4_order 18 = .ok (.getfield 25, 3) := by decide +kernel
theorem dX4_order_21 : decode cX4_order 21 = .ok (.iload_n 2, 1) := by decide +kernel
theorem dX4_order_22 : decode cX4_order 22 = .ok (.invokevirtual 85, 3) := by decide +kernel
theorem dX4_order_25 : decode cX4_order 25 = .ok (.ifCond .ne 5, 3) := by decide +kernel
theorem dX4_order_28 : decode cX4_order 28 = .ok (.iconst (-1), 1) := by decide +kernel
theorem dX4_order_29 : decode cX4_order 29 = .ok (.ireturn, 1) := by decide +kernel
theorem dX4_order_30 : decode cX4_order 30 = .ok (.aload_n 0, 1) := by decide +kernel
theorem dX4_order_31 : decode cX4_order 31 = .ok (.invokevirtual 140, 3) := by decide +kernel
theorem dX4_order_34 : decode cX4_order 34 = .ok (.aload_n 0, 1) := by decide +kernel
theorem dX4_order_35 : decode cX4_order 35 = .ok (.getfield 35, 3) := by decide +kernel
theorem dX4_order_38 : decode cX4_order 38 = .ok (.getfield 124, 3) := by decide +kernel
theorem dX4_order_41 : decode cX4_order 41 = .ok (.iload_n 1, 1) := by decide +kernel
theorem dX4_order_42 : decode cX4_order 42 = .ok (.iaload, 1) := by decide +kernel
theorem dX4_order_43 : decode cX4_order 43 = .ok (.istore_n 3, 1) := by decide +kernel
theorem dX4_order_44 : decode cX4_order 44 = .ok (.aload_n 0, 1) := by decide +kernel
theorem dX4_order_45 : decode cX4_order 45 = .ok (.getfield 35, 3) := by decide +kernel
theorem dX4_order_48 : decode cX4_order 48 = .ok (.getfield 124, 3) := by decide +kernel
theorem dX4_order_51 : decode cX4_order 51 = .ok (.iload_n 1, 1) := by decide +kernel
theorem dX4_order_52 : decode cX4_order 52 = .ok (.iload_n 2, 1) := by decide +kernel
theorem dX4_order_53 : decode cX4_order 53 = .ok (.iastore, 1) := by decide +kernel
theorem dX4_order_54 : decode cX4_order 54 = .ok (.iload_n 3, 1) := by decide +kernel
theorem dX4_order_55 : decode cX4_order 55 = .ok (.ireturn, 1) := by decide +kernel
theorem dX4_hour_0 : decode cX4_hour 0 = .ok (.aload_n 0, 1) := by decide +kernel
theorem dX4_hour_1 : decode cX4_hour 1 = .ok (.getfield 35, 3) := by decide +kernel
theorem dX4_hour_4 : decode cX4_hour 4 = .ok (.getfield 127, 3) := by decide +kernel
theorem dX4_hour_7 : decode cX4_hour 7 = .ok (.bipush 99, 2) := by decide +kernel
theorem dX4_hour_9 : decode cX4_hour 9 = .ok (.if_icmp .lt 6, 3) := by decide +kernel
theorem dX4_hour_12 : decode cX4_hour 12 = .ok (.bipush (-2), 2) := by decide +kernel
theorem dX4_hour_14 : decode cX4_hour 14 = .ok (.ireturn, 1) := by decide +kernel
theorem dX4_hour_15 : decode cX4_hour 15 = .ok (.aload_n 0, 1) := by decide +kernel
theorem dX4_hour_16 : decode cX4_hour 16 = .ok (.invokevirtual 140, 3) := by decide +kernel
theorem dX4_hour_19 : decode cX4_hour 19 = .ok (.aload_n 0, 1) := by decide +kernel
theorem dX4_hour_20 : decode cX4_hour 20 = .ok (.getfield 35, 3) := by decide +kernel
theorem dX4_hour_23 : decode cX4_hour 23 = .ok (.aload_n 0, 1) := by decide +kernel
theorem dX4_hour_24 : decode cX4_hour 24 = .ok (.getfield 25, 3) := by decide +kernel
theorem dX4_hour_27 : decode cX4_hour 27 = .ok (.invokevirtual 143, 3) := by decide +kernel
theorem dX4_hour_30 : decode cX4_hour 30 = .ok (.istore_n 1, 1) := by decide +kernel
theorem dX4_hour_31 : decode cX4_hour 31 = .ok (.aload_n 0, 1) := by decide +kernel
theorem dX4_hour_32 : decode cX4_hour 32 = .ok (.getfield 35, 3) := by decide +kernel
theorem dX4_hour_35 : decode cX4_hour 35 = .ok (.getfield 130, 3) := by decide +kernel
theorem dX4_hour_38 : decode cX4_hour 38 = .ok (.aload_n 0, 1) := by decide +kernel
theorem dX4_hour_39 : decode cX4_hour 39 = .ok (.getfield 25, 3) := by decide +kernel
theorem dX4_hour_42 : decode cX4_hour 42 = .ok (.getfield 146, 3) := by decide +kernel
theorem dX4_hour_45 : decode cX4_hour 45 = .ok (.if_icmp .lt 39, 3) := by decide +kernel
theorem dX4_hour_48 : decode cX4_hour 48 = .ok (.aload_n 0, 1) := by decide +kernel
theorem dX4_hour_49 : decode cX4_hour 49 = .ok (.getfield 35, 3) := by decide +kernel
theorem dX4_hour_52 : decode cX4_hour 52 = .ok (.aload_n 0, 1) := by decide +kernel
theorem dX4_hour_53 : decode cX4_hour 53 = .ok (.getfield 25, 3) := by decide +kernel
theorem dX4_hour_56 : decode cX4_hour 56 = .ok (.aload_n 0, 1) := by decide +kernel
theorem dX4_hour_57 : decode cX4_hour 57 = .ok (.getfield 25, 3) := by decide +kernel
theorem dX4_hour_60 : decode cX4_hour 60 = .ok (.aload_n 0, 1) := by decide +kernel
theorem dX4_hour_61 : decode cX4_hour 61 = .ok (.getfield 35, 3) := by decide +kernel
theorem dX4_hour_64 : decode cX4_hour 64 = .ok (.getfield 127, 3) := by decide +kernel
theorem dX4_hour_67 : decode cX4_hour 67 = .ok (.invokevirtual 149, 3) := by decide +kernel
theorem dX4_hour_70 : decode cX4_hour 70 = .ok (.invokevirtual 152, 3) := by decide +kernel
theorem dX4_hour_73 : decode cX4_hour 73 = .ok (.aload_n 0, 1) := by decide +kernel
theorem dX4_hour_74 : decode cX4_hour 74 = .ok (.getfield 35, 3) := by decide +kernel
theorem dX4_hour_77 : decode cX4_hour 77 = .ok (.aload_n 0, 1) := by decide +kernel
theorem dX4_hour_78 : decode cX4_hour 78 = .ok (.getfield 25, 3) := by decide +kernel
theorem dX4_hour_81 : decode cX4_hour 81 = .ok (.invokevirtual 156, 3) := by decide +kernel
theorem dX4_hour_84 : decode cX4_hour 84 = .ok (.iload_n 1, 1) := by decide +kernel
theorem dX4_hour_85 : decode cX4_hour 85 = .ok (.ireturn, 1) := by decide +kernel
theorem dX4_undo_0 : decode cX4_undo 0 = .ok (.aload_n 0, 1) := by decide +kernel
theorem dX4_undo_1 : decode cX4_undo 1 = .ok (.getfield 79, 3) := by decide +kernel
theorem dX4_undo_4 : decode cX4_undo 4 = .ok (.ifCond .gt 6, 3) := by decide +kernel
theorem dX4_undo_7 : decode cX4_undo 7 = .ok (.bipush (-2), 2) := by decide +kernel
theorem dX4_undo_9 : decode cX4_undo 9 = .ok (.ireturn, 1) := by decide +kernel
theorem dX4_undo_10 : decode cX4_undo 10 = .ok (.aload_n 0, 1) := by decide +kernel
theorem dX4_undo_11 : decode cX4_undo 11 = .ok (.dup, 1) := by decide +kernel
theorem dX4_undo_12 : decode cX4_undo 12 = .ok (.getfield 79, 3) := by decide +kernel
theorem dX4_undo_15 : decode cX4_undo 15 = .ok (.iconst 1, 1) := by decide +kernel
theorem dX4_undo_16 : decode cX4_undo 16 = .ok (.isub, 1) := by decide +kernel
theorem dX4_undo_17 : decode cX4_undo 17 = .ok (.putfield 79, 3) := by decide +kernel
theorem dX4_undo_20 : decode cX4_undo 20 = .ok (.aload_n 0, 1) := by decide +kernel
theorem dX4_undo_21 : decode cX4_undo 21 = .ok (.getfield 35, 3) := by decide +kernel
theorem dX4_undo_24 : decode cX4_undo 24 = .ok (.aload_n 0, 1) := by decide +kernel
theorem dX4_undo_25 : decode cX4_undo 25 = .ok (.getfield 42, 3) := by decide +kernel
theorem dX4_undo_28 : decode cX4_undo 28 = .ok (.aload_n 0, 1) := by decide +kernel
theorem dX4_undo_29 : decode cX4_undo 29 = .ok (.getfield 79, 3) := by decide +kernel
theorem dX4_undo_32 : decode cX4_undo 32 = .ok (.aaload, 1) := by decide +kernel
theorem dX4_undo_33 : decode cX4_undo 33 = .ok (.invokevirtual 159, 3) := by decide +kernel
theorem dX4_undo_36 : decode cX4_undo 36 = .ok (.aload_n 0, 1) := by decide +kernel
theorem dX4_undo_37 : decode cX4_undo 37 = .ok (.getfield 79, 3) := by decide +kernel
theorem dX4_undo_40 : decode cX4_undo 40 = .ok (.ireturn, 1) := by decide +kernel
theorem dX4_remember_0 : decode cX4_remember 0 = .ok (.aload_n 0, 1) := by decide +kernel
theorem dX4_remember_1 : decode cX4_remember 1 = .ok (.getfield 79, 3) := by decide +kernel
theorem dX4_remember_4 : decode cX4_remember 4 = .ok (.bipush 10, 2) := by decide +kernel
theorem dX4_remember_6 : decode cX4_remember 6 = .ok (.if_icmp .lt 52, 3) := by decide +kernel
theorem dX4_remember_9 : decode cX4_remember 9 = .ok (.aload_n 0, 1) := by decide +kernel
theorem dX4_remember_10 : decode cX4_remember 10 = .ok (.getfield 42, 3) := by decide +kernel
theorem dX4_remember_13 : decode cX4_remember 13 = .ok (.iconst 0, 1) := by decide +kernel
theorem dX4_remember_14 : decode cX4_remember 14 = .ok (.aaload, 1) := by decide +kernel
theorem dX4_remember_15 : decode cX4_remember 15 = .ok (.astore_n 1, 1) := by decide +kernel
theorem dX4_remember_16 : decode cX4_remember 16 = .ok (.iconst 1, 1) := by decide +kernel
theorem dX4_remember_17 : decode cX4_remember 17 = .ok (.istore_n 2, 1) := by decide +kernel
theorem dX4_remember_18 : decode cX4_remember 18 = .ok (.iload_n 2, 1) := by decide +kernel
theorem dX4_remember_19 : decode cX4_remember 19 = .ok (.bipush 10, 2) := by decide +kernel
theorem dX4_remember_21 : decode cX4_remember 21 = .ok (.if_icmp .ge 23, 3) := by decide +kernel
theorem dX4_remember_24 : decode cX4_remember 24 = .ok (.aload_n 0, 1) := by decide +kernel
theorem dX4_remember_25 : decode cX4_remember 25 = .ok (.getfield 42, 3) := by decide +kernel
theorem dX4_remember_28 : decode cX4_remember 28 = .ok (.iload_n 2, 1) := by decide +kernel
theorem dX4_remember_29 : decode cX4_remember 29 = .ok (.iconst 1, 1) := by decide +kernel
theorem dX4_remember_30 : decode cX4_remember 30 = .ok (.isub, 1) := by decide +kernel
theorem dX4_remember_31 : decode cX4_remember 31 = .ok (.aload_n 0, 1) := by decide +kernel
theorem dX4_remember_32 : decode cX4_remember 32 = .ok (.getfield 42, 3) := by decide +kernel
theorem dX4_remember_35 : decode cX4_remember 35 = .ok (.iload_n 2, 1) := by decide +kernel
theorem dX4_remember_36 : decode cX4_remember 36 = .ok (.aaload, 1) := by decide +kernel
theorem dX4_remember_37 : decode cX4_remember 37 = .ok (.aastore, 1) := by decide +kernel
theorem dX4_remember_38 : decode cX4_remember 38 = .ok (.iinc 2 1, 3) := by decide +kernel
theorem dX4_remember_41 : decode cX4_remember 41 = .ok (.goto (-23), 3) := by decide +kernel
theorem dX4_remember_44 : decode cX4_remember 44 = .ok (.aload_n 0, 1) := by decide +kernel
theorem dX4_remember_45 : decode cX4_remember 45 = .ok (.getfield 42, 3) := by decide +kernel
theorem dX4_remember_48 : decode cX4_remember 48 = .ok (.bipush 9, 2) := by decide +kernel
theorem dX4_remember_50 : decode cX4_remember 50 = .ok (.aload_n 1, 1) := by decide +kernel
theorem dX4_remember_51 : decode cX4_remember 51 = .ok (.aastore, 1) := by decide +kernel
theorem dX4_remember_52 : decode cX4_remember 52 = .ok (.aload_n 0, 1) := by decide +kernel
theorem dX4_remember_53 : decode cX4_remember 53 = .ok (.bipush 9, 2) := by decide +kernel
theorem dX4_remember_55 : decode cX4_remember 55 = .ok (.putfield 79, 3) := by decide +kernel
theorem dX4_remember_58 : decode cX4_remember 58 = .ok (.aload_n 0, 1) := by decide +kernel
theorem dX4_remember_59 : decode cX4_remember 59 = .ok (.getfield 42, 3) := by decide +kernel
theorem dX4_remember_62 : decode cX4_remember 62 = .ok (.aload_n 0, 1) := by decide +kernel
theorem dX4_remember_63 : decode cX4_remember 63 = .ok (.getfield 79, 3) := by decide +kernel
theorem dX4_remember_66 : decode cX4_remember 66 = .ok (.aaload, 1) := by decide +kernel
theorem dX4_remember_67 : decode cX4_remember 67 = .ok (.aload_n 0, 1) := by decide +kernel
theorem dX4_remember_68 : decode cX4_remember 68 = .ok (.getfield 35, 3) := by decide +kernel
theorem dX4_remember_71 : decode cX4_remember 71 = .ok (.invokevirtual 159, 3) := by decide +kernel
theorem dX4_remember_74 : decode cX4_remember 74 = .ok (.aload_n 0, 1) := by decide +kernel
theorem dX4_remember_75 : decode cX4_remember 75 = .ok (.dup, 1) := by decide +kernel
theorem dX4_remember_76 : decode cX4_remember 76 = .ok (.getfield 79, 3) := by decide +kernel
theorem dX4_remember_79 : decode cX4_remember 79 = .ok (.iconst 1, 1) := by decide +kernel
theorem dX4_remember_80 : decode cX4_remember 80 = .ok (.iadd, 1) := by decide +kernel
theorem dX4_remember_81 : decode cX4_remember 81 = .ok (.putfield 79, 3) := by decide +kernel
theorem dX4_remember_84 : decode cX4_remember 84 = .ok (.return_, 1) := by decide +kernel
theorem dX4_highest_0 : decode cX4_highest 0 = .ok (.aload_n 0, 1) := by decide +kernel
theorem dX4_highest_1 : decode cX4_highest 1 = .ok (.getfield 25, 3) := by decide +kernel
theorem dX4_highest_4 : decode cX4_highest 4 = .ok (.iload_n 1, 1) := by decide +kernel
theorem dX4_highest_5 : decode cX4_highest 5 = .ok (.invokevirtual 85, 3) := by decide +kernel
theorem dX4_highest_8 : decode cX4_highest 8 = .ok (.ifCond .eq 13, 3) := by decide +kernel
theorem dX4_highest_11 : decode cX4_highest 11 = .ok (.iload_n 2, 1) := by decide +kernel
theorem dX4_highest_12 : decode cX4_highest 12 = .ok (.ifCond .ge 11, 3) := by decide +kernel
theorem dX4_highest_15 : decode cX4_highest 15 = .ok (.iload_n 2, 1) := by decide +kernel
theorem dX4_highest_16 : decode cX4_highest 16 = .ok (.bipush (-9), 2) := by decide +kernel
theorem dX4_highest_18 : decode cX4_highest 18 = .ok (.if_icmp .eq 5, 3) := by decide +kernel
theorem dX4_highest_21 : decode cX4_highest 21 = .ok (.iconst (-1), 1) := by decide +kernel
theorem dX4_highest_22 : decode cX4_highest 22 = .ok (.ireturn, 1) := by decide +kernel
theorem dX4_highest_23 : decode cX4_highest 23 = .ok (.aload_n 0, 1) := by decide +kernel
theorem dX4_highest_24 : decode cX4_highest 24 = .ok (.getfield 35, 3) := by decide +kernel
theorem dX4_highest_27 : decode cX4_highest 27 = .ok (.aload_n 0, 1) := by decide +kernel
theorem dX4_highest_28 : decode cX4_highest 28 = .ok (.getfield 25, 3) := by decide +kernel
theorem dX4_highest_31 : decode cX4_highest 31 = .ok (.invokevirtual 163, 3) := by decide +kernel
theorem dX4_highest_34 : decode cX4_highest 34 = .ok (.istore_n 3, 1) := by decide +kernel
theorem dX4_highest_35 : decode cX4_highest 35 = .ok (.iload_n 2, 1) := by decide +kernel
theorem dX4_highest_36 : decode cX4_highest 36 = .ok (.iload_n 3, 1) := by decide +kernel
theorem dX4_highest_37 : decode cX4_highest 37 = .ok (.if_icmp .ge 9, 3) := by decide +kernel
theorem dX4_highest_40 : decode cX4_highest 40 = .ok (.iload_n 2, 1) := by decide +kernel
theorem dX4_highest_41 : decode cX4_highest 41 = .ok (.bipush 6, 2) := by decide +kernel
theorem dX4_highest_43 : decode cX4_highest 43 = .ok (.if_icmp .lt 6, 3) := by decide +kernel
theorem dX4_highest_46 : decode cX4_highest 46 = .ok (.bipush (-5), 2) := by decide +kernel
theorem dX4_highest_48 : decode cX4_highest 48 = .ok (.ireturn, 1) := by decide +kernel
theorem dX4_highest_49 : decode cX4_highest 49 = .ok (.aload_n 0, 1) := by decide +kernel
theorem dX4_highest_50 : decode cX4_highest 50 = .ok (.getfield 63, 3) := by decide +kernel
theorem dX4_highest_53 : decode cX4_highest 53 = .ok (.aload_n 0, 1) := by decide +kernel
theorem dX4_highest_54 : decode cX4_highest 54 = .ok (.getfield 25, 3) := by decide +kernel
theorem dX4_highest_57 : decode cX4_highest 57 = .ok (.aload_n 0, 1) := by decide +kernel
theorem dX4_highest_58 : decode cX4_highest 58 = .ok (.getfield 35, 3) := by decide +kernel
theorem dX4_highest_61 : decode cX4_highest 61 = .ok (.iload_n 1, 1) := by decide +kernel
theorem dX4_highest_62 : decode cX4_highest 62 = .ok (.invokevirtual 166, 3) := by decide +kernel
theorem dX4_highest_65 : decode cX4_highest 65 = .ok (.iload_n 2, 1) := by decide +kernel
theorem dX4_highest_66 : decode cX4_highest 66 = .ok (.bipush (-9), 2) := by decide +kernel
theorem dX4_highest_68 : decode cX4_highest 68 = .ok (.if_icmp .ne 23, 3) := by decide +kernel
theorem dX4_highest_71 : decode cX4_highest 71 = .ok (.aload_n 0, 1) := by decide +kernel
theorem dX4_highest_72 : decode cX4_highest 72 = .ok (.getfield 35, 3) := by decide +kernel
theorem dX4_highest_75 : decode cX4_highest 75 = .ok (.getfield 101, 3) := by decide +kernel
theorem dX4_highest_78 : decode cX4_highest 78 = .ok (.iload_n 1, 1) := by decide +kernel
theorem dX4_highest_79 : decode cX4_highest 79 = .ok (.iaload, 1) := by decide +kernel
theorem dX4_highest_80 : decode cX4_highest 80 = .ok (.aload_n 0, 1) := by decide +kernel
theorem dX4_highest_81 : decode cX4_highest 81 = .ok (.getfield 63, 3) := by decide +kernel
theorem dX4_highest_84 : decode cX4_highest 84 = .ok (.getfield 170, 3) := by decide +kernel
theorem dX4_highest_87 : decode cX4_highest 87 = .ok (.iadd, 1) := by decide +kernel
theorem dX4_highest_88 : decode cX4_highest 88 = .ok (.goto 12, 3) := by decide +kernel
theorem dX4_highest_91 : decode cX4_highest 91 = .ok (.aload_n 0, 1) := by decide +kernel
theorem dX4_highest_92 : decode cX4_highest 92 = .ok (.getfield 63, 3) := by decide +kernel
theorem dX4_highest_95 : decode cX4_highest 95 = .ok (.getfield 173, 3) := by decide +kernel
theorem dX4_highest_98 : decode cX4_highest 98 = .ok (.iload_n 2, 1) := by decide +kernel
theorem dX4_highest_99 : decode cX4_highest 99 = .ok (.iaload, 1) := by decide +kernel
theorem dX4_highest_100 : decode cX4_highest 100 = .ok (.ireturn, 1) := by decide +kernel
theorem dX4_days_0 : decode cX4_days 0 = .ok (.aload_n 0, 1) := by decide +kernel
theorem dX4_days_1 : decode cX4_days 1 = .ok (.getfield 25, 3) := by decide +kernel
theorem dX4_days_4 : decode cX4_days 4 = .ok (.iload_n 1, 1) := by decide +kernel
theorem dX4_days_5 : decode cX4_days 5 = .ok (.invokevirtual 85, 3) := by decide +kernel
theorem dX4_days_8 : decode cX4_days 8 = .ok (.ifCond .ne 5, 3) := by decide +kernel
theorem dX4_days_11 : decode cX4_days 11 = .ok (.iconst (-1), 1) := by decide +kernel
theorem dX4_days_12 : decode cX4_days 12 = .ok (.ireturn, 1) := by decide +kernel
theorem dX4_days_13 : decode cX4_days 13 = .ok (.aload_n 0, 1) := by decide +kernel
theorem dX4_days_14 : decode cX4_days 14 = .ok (.getfield 35, 3) := by decide +kernel
theorem dX4_days_17 : decode cX4_days 17 = .ok (.aload_n 0, 1) := by decide +kernel
theorem dX4_days_18 : decode cX4_days 18 = .ok (.getfield 25, 3) := by decide +kernel
theorem dX4_days_21 : decode cX4_days 21 = .ok (.iload_n 1, 1) := by decide +kernel
theorem dX4_days_22 : decode cX4_days 22 = .ok (.invokevirtual 111, 3) := by decide +kernel
theorem dX4_days_25 : decode cX4_days 25 = .ok (.ifCond .eq 5, 3) := by decide +kernel
theorem dX4_days_28 : decode cX4_days 28 = .ok (.iconst 0, 1) := by decide +kernel
theorem dX4_days_29 : decode cX4_days 29 = .ok (.ireturn, 1) := by decide +kernel
theorem dX4_days_30 : decode cX4_days 30 = .ok (.aload_n 0, 1) := by decide +kernel
theorem dX4_days_31 : decode cX4_days 31 = .ok (.iload_n 1, 1) := by decide +kernel
theorem dX4_days_32 : decode cX4_days 32 = .ok (.invokevirtual 176, 3) := by decide +kernel
theorem dX4_days_35 : decode cX4_days 35 = .ok (.iconst 1, 1) := by decide +kernel
theorem dX4_days_36 : decode cX4_days 36 = .ok (.istore_n 2, 1) := by decide +kernel
theorem dX4_days_37 : decode cX4_days 37 = .ok (.iload_n 2, 1) := by decide +kernel
theorem dX4_days_38 : decode cX4_days 38 = .ok (.bipush 60, 2) := by decide +kernel
theorem dX4_days_40 : decode cX4_days 40 = .ok (.if_icmp .gt 62, 3) := by decide +kernel
theorem dX4_days_43 : decode cX4_days 43 = .ok (.aload_n 0, 1) := by decide +kernel
theorem dX4_days_44 : decode cX4_days 44 = .ok (.getfield 39, 3) := by decide +kernel
theorem dX4_days_47 : decode cX4_days 47 = .ok (.aload_n 0, 1) := by decide +kernel
theorem dX4_days_48 : decode cX4_days 48 = .ok (.getfield 25, 3) := by decide +kernel
theorem dX4_days_51 : decode cX4_days 51 = .ok (.invokevirtual 180, 3) := by decide +kernel
theorem dX4_days_54 : decode cX4_days 54 = .ok (.aload_n 0, 1) := by decide +kernel
theorem dX4_days_55 : decode cX4_days 55 = .ok (.getfield 39, 3) := by decide +kernel
theorem dX4_days_58 : decode cX4_days 58 = .ok (.aload_n 0, 1) := by decide +kernel
theorem dX4_days_59 : decode cX4_days 59 = .ok (.getfield 25, 3) := by decide +kernel
theorem dX4_days_62 : decode cX4_days 62 = .ok (.iload_n 1, 1) := by decide +kernel
theorem dX4_days_63 : decode cX4_days 63 = .ok (.invokevirtual 111, 3) := by decide +kernel
theorem dX4_days_66 : decode cX4_days 66 = .ok (.ifCond .eq 5, 3) := by decide +kernel
theorem dX4_days_69 : decode cX4_days 69 = .ok (.iload_n 2, 1) := by decide +kernel
theorem dX4_days_70 : decode cX4_days 70 = .ok (.ireturn, 1) := by decide +kernel
theorem dX4_days_71 : decode cX4_days 71 = .ok (.aload_n 0, 1) := by decide +kernel
theorem dX4_days_72 : decode cX4_days 72 = .ok (.getfield 39, 3) := by decide +kernel
theorem dX4_days_75 : decode cX4_days 75 = .ok (.aload_n 0, 1) := by decide +kernel
theorem dX4_days_76 : decode cX4_days 76 = .ok (.getfield 25, 3) := by decide +kernel
theorem dX4_days_79 : decode cX4_days 79 = .ok (.aload_n 0, 1) := by decide +kernel
theorem dX4_days_80 : decode cX4_days 80 = .ok (.getfield 25, 3) := by decide +kernel
theorem dX4_days_83 : decode cX4_days 83 = .ok (.aload_n 0, 1) := by decide +kernel
theorem dX4_days_84 : decode cX4_days 84 = .ok (.getfield 39, 3) := by decide +kernel
theorem dX4_days_87 : decode cX4_days 87 = .ok (.getfield 127, 3) := by decide +kernel
theorem dX4_days_90 : decode cX4_days 90 = .ok (.invokevirtual 149, 3) := by decide +kernel
theorem dX4_days_93 : decode cX4_days 93 = .ok (.invokevirtual 152, 3) := by decide +kernel
theorem dX4_days_96 : decode cX4_days 96 = .ok (.iinc 2 1, 3) := by decide +kernel
theorem dX4_days_99 : decode cX4_days 99 = .ok (.goto (-62), 3) := by decide +kernel
theorem dX4_days_102 : decode cX4_days 102 = .ok (.bipush (-9), 2) := by decide +kernel
theorem dX4_days_104 : decode cX4_days 104 = .ok (.ireturn, 1) := by decide +kernel
theorem dX4_little_0 : decode cX4_little 0 = .ok (.aload_n 0, 1) := by decide +kernel
theorem dX4_little_1 : decode cX4_little 1 = .ok (.getfield 25, 3) := by decide +kernel
theorem dX4_little_4 : decode cX4_little 4 = .ok (.iload_n 1, 1) := by decide +kernel
theorem dX4_little_5 : decode cX4_little 5 = .ok (.invokevirtual 85, 3) := by decide +kernel
theorem dX4_little_8 : decode cX4_little 8 = .ok (.ifCond .ne 5, 3) := by decide +kernel
theorem dX4_little_11 : decode cX4_little 11 = .ok (.iconst (-1), 1) := by decide +kernel
theorem dX4_little_12 : decode cX4_little 12 = .ok (.ireturn, 1) := by decide +kernel
theorem dX4_little_13 : decode cX4_little 13 = .ok (.aload_n 0, 1) := by decide +kernel
theorem dX4_little_14 : decode cX4_little 14 = .ok (.getfield 35, 3) := by decide +kernel
theorem dX4_little_17 : decode cX4_little 17 = .ok (.aload_n 0, 1) := by decide +kernel
theorem dX4_little_18 : decode cX4_little 18 = .ok (.getfield 25, 3) := by decide +kernel
theorem dX4_little_21 : decode cX4_little 21 = .ok (.iload_n 1, 1) := by decide +kernel
theorem dX4_little_22 : decode cX4_little 22 = .ok (.invokevirtual 111, 3) := by decide +kernel
theorem dX4_little_25 : decode cX4_little 25 = .ok (.ifCond .eq 6, 3) := by decide +kernel
theorem dX4_little_28 : decode cX4_little 28 = .ok (.bipush (-2), 2) := by decide +kernel
theorem dX4_little_30 : decode cX4_little 30 = .ok (.ireturn, 1) := by decide +kernel
theorem dX4_little_31 : decode cX4_little 31 = .ok (.aload_n 0, 1) := by decide +kernel
theorem dX4_little_32 : decode cX4_little 32 = .ok (.getfield 25, 3) := by decide +kernel
theorem dX4_little_35 : decode cX4_little 35 = .ok (.getfield 89, 3) := by decide +kernel
theorem dX4_little_38 : decode cX4_little 38 = .ok (.iload_n 1, 1) := by decide +kernel
theorem dX4_little_39 : decode cX4_little 39 = .ok (.iaload, 1) := by decide +kernel
theorem dX4_little_40 : decode cX4_little 40 = .ok (.aload_n 0, 1) := by decide +kernel
theorem dX4_little_41 : decode cX4_little 41 = .ok (.getfield 35, 3) := by decide +kernel
theorem dX4_little_44 : decode cX4_little 44 = .ok (.getfield 101, 3) := by decide +kernel
theorem dX4_little_47 : decode cX4_little 47 = .ok (.iload_n 1, 1) := by decide +kernel
theorem dX4_little_48 : decode cX4_little 48 = .ok (.iaload, 1) := by decide +kernel
theorem dX4_little_49 : decode cX4_little 49 = .ok (.isub, 1) := by decide +kernel
theorem dX4_little_50 : decode cX4_little 50 = .ok (.istore_n 2, 1) := by decide +kernel
theorem dX4_little_51 : decode cX4_little 51 = .ok (.iload_n 2, 1) := by decide +kernel
theorem dX4_little_52 : decode cX4_little 52 = .ok (.aload_n 0, 1) := by decide +kernel
theorem dX4_little_53 : decode cX4_little 53 = .ok (.getfield 35, 3) := by decide +kernel
theorem dX4_little_56 : decode cX4_little 56 = .ok (.aload_n 0, 1) := by decide +kernel
theorem dX4_little_57 : decode cX4_little 57 = .ok (.getfield 25, 3) := by decide +kernel
theorem dX4_little_60 : decode cX4_little 60 = .ok (.invokevirtual 163, 3) := by decide +kernel
theorem dX4_little_63 : decode cX4_little 63 = .ok (.if_icmp .gt 19, 3) := by decide +kernel
theorem dX4_little_66 : decode cX4_little 66 = .ok (.iload_n 2, 1) := by decide +kernel
theorem dX4_little_67 : decode cX4_little 67 = .ok (.aload_n 0, 1) := by decide +kernel
theorem dX4_little_68 : decode cX4_little 68 = .ok (.getfield 35, 3) := by decide +kernel
theorem dX4_little_71 : decode cX4_little 71 = .ok (.aload_n 0, 1) := by decide +kernel
theorem dX4_little_72 : decode cX4_little 72 = .ok (.getfield 25, 3) := by decide +kernel
theorem dX4_little_75 : decode cX4_little 75 = .ok (.iload_n 1, 1) := by decide +kernel
theorem dX4_little_76 : decode cX4_little 76 = .ok (.invokevirtual 183, 3) := by decide +kernel
theorem dX4_little_79 : decode cX4_little 79 = .ok (.if_icmp .le 6, 3) := by decide +kernel
theorem dX4_little_82 : decode cX4_little 82 = .ok (.bipush (-9), 2) := by decide +kernel
theorem dX4_little_84 : decode cX4_little 84 = .ok (.ireturn, 1) := by decide +kernel
theorem dX4_little_85 : decode cX4_little 85 = .ok (.aload_n 0, 1) := by decide +kernel
theorem dX4_little_86 : decode cX4_little 86 = .ok (.getfield 35, 3) := by decide +kernel
theorem dX4_little_89 : decode cX4_little 89 = .ok (.aload_n 0, 1) := by decide +kernel
theorem dX4_little_90 : decode cX4_little 90 = .ok (.getfield 25, 3) := by decide +kernel
theorem dX4_little_93 : decode cX4_little 93 = .ok (.iload_n 2, 1) := by decide +kernel
theorem dX4_little_94 : decode cX4_little 94 = .ok (.iconst 1, 1) := by decide +kernel
theorem dX4_little_95 : decode cX4_little 95 = .ok (.isub, 1) := by decide +kernel
theorem dX4_little_96 : decode cX4_little 96 = .ok (.invokevirtual 186, 3) := by decide +kernel
theorem dX4_little_99 : decode cX4_little 99 = .ok (.aload_n 0, 1) := by decide +kernel
theorem dX4_little_100 : decode cX4_little 100 = .ok (.getfield 25, 3) := by decide +kernel
theorem dX4_little_103 : decode cX4_little 103 = .ok (.getfield 92, 3) := by decide +kernel
theorem dX4_little_106 : decode cX4_little 106 = .ok (.iload_n 1, 1) := by decide +kernel
theorem dX4_little_107 : decode cX4_little 107 = .ok (.iaload, 1) := by decide +kernel
theorem dX4_little_108 : decode cX4_little 108 = .ok (.isub, 1) := by decide +kernel
theorem dX4_little_109 : decode cX4_little 109 = .ok (.istore_n 3, 1) := by decide +kernel
theorem dX4_little_110 : decode cX4_little 110 = .ok (.iload_n 3, 1) := by decide +kernel
theorem dX4_little_111 : decode cX4_little 111 = .ok (.iconst 1, 1) := by decide +kernel
theorem dX4_little_112 : decode cX4_little 112 = .ok (.if_icmp .ge 8, 3) := by decide +kernel
theorem dX4_little_115 : decode cX4_little 115 = .ok (.bipush (-9), 2) := by decide +kernel
theorem dX4_little_117 : decode cX4_little 117 = .ok (.goto 9, 3) := by decide +kernel
theorem dX4_little_120 : decode cX4_little 120 = .ok (.iload_n 3, 1) := by decide +kernel
theorem dX4_little_121 : decode cX4_little 121 = .ok (.bipush 9, 2) := by decide +kernel
theorem dX4_little_123 : decode cX4_little 123 = .ok (.invokestatic 189, 3) := by decide +kernel
theorem dX4_little_126 : decode cX4_little 126 = .ok (.ireturn, 1) := by decide +kernel
theorem dX4_crew_0 : decode cX4_crew 0 = .ok (.aload_n 0, 1) := by decide +kernel
theorem dX4_crew_1 : decode cX4_crew 1 = .ok (.getfield 25, 3) := by decide +kernel
theorem dX4_crew_4 : decode cX4_crew 4 = .ok (.iload_n 1, 1) := by decide +kernel
theorem dX4_crew_5 : decode cX4_crew 5 = .ok (.invokevirtual 85, 3) := by decide +kernel
theorem dX4_crew_8 : decode cX4_crew 8 = .ok (.ifCond .ne 5, 3) := by decide +kernel
theorem dX4_crew_11 : decode cX4_crew 11 = .ok (.iconst (-1), 1) := by decide +kernel
theorem dX4_crew_12 : decode cX4_crew 12 = .ok (.ireturn, 1) := by decide +kernel
theorem dX4_crew_13 : decode cX4_crew 13 = .ok (.aload_n 0, 1) := by decide +kernel
theorem dX4_crew_14 : decode cX4_crew 14 = .ok (.getfield 35, 3) := by decide +kernel
theorem dX4_crew_17 : decode cX4_crew 17 = .ok (.aload_n 0, 1) := by decide +kernel
theorem dX4_crew_18 : decode cX4_crew 18 = .ok (.getfield 25, 3) := by decide +kernel
theorem dX4_crew_21 : decode cX4_crew 21 = .ok (.iload_n 1, 1) := by decide +kernel
theorem dX4_crew_22 : decode cX4_crew 22 = .ok (.invokevirtual 195, 3) := by decide +kernel
theorem dX4_crew_25 : decode cX4_crew 25 = .ok (.istore_n 2, 1) := by decide +kernel
theorem dX4_crew_26 : decode cX4_crew 26 = .ok (.bipush (-9), 2) := by decide +kernel
theorem dX4_crew_28 : decode cX4_crew 28 = .ok (.istore_n 3, 1) := by decide +kernel
theorem dX4_crew_29 : decode cX4_crew 29 = .ok (.iconst 1, 1) := by decide +kernel
theorem dX4_crew_30 : decode cX4_crew 30 = .ok (.istore 4, 2) := by decide +kernel
theorem dX4_crew_32 : decode cX4_crew 32 = .ok (.iload 4, 2) := by decide +kernel
theorem dX4_crew_34 : decode cX4_crew 34 = .ok (.iconst 1, 1) := by decide +kernel
theorem dX4_crew_35 : decode cX4_crew 35 = .ok (.aload_n 0, 1) := by decide +kernel
theorem dX4_crew_36 : decode cX4_crew 36 = .ok (.getfield 25, 3) := by decide +kernel
theorem dX4_crew_39 : decode cX4_crew 39 = .ok (.getfield 198, 3) := by decide +kernel
theorem dX4_crew_42 : decode cX4_crew 42 = .ok (.ishl, 1) := by decide +kernel
theorem dX4_crew_43 : decode cX4_crew 43 = .ok (.if_icmp .ge 55, 3) := by decide +kernel
theorem dX4_crew_46 : decode cX4_crew 46 = .ok (.iload_n 3, 1) := by decide +kernel
theorem dX4_crew_47 : decode cX4_crew 47 = .ok (.bipush (-9), 2) := by decide +kernel
theorem dX4_crew_49 : decode cX4_crew 49 = .ok (.if_icmp .eq 15, 3) := by decide +kernel
theorem dX4_crew_52 : decode cX4_crew 52 = .ok (.iload 4, 2) := by decide +kernel
theorem dX4_crew_54 : decode cX4_crew 54 = .ok (.invokestatic 201, 3) := by decide +kernel
theorem dX4_crew_57 : decode cX4_crew 57 = .ok (.iload_n 3, 1) := by decide +kernel
theorem dX4_crew_58 : decode cX4_crew 58 = .ok (.invokestatic 201, 3) := by decide +kernel
theorem dX4_crew_61 : decode cX4_crew 61 = .ok (.if_icmp .ge 7, 3) := by decide +kernel
theorem dX4_crew_64 : decode cX4_crew 64 = .ok (.iconst 1, 1) := by decide +kernel
theorem dX4_crew_65 : decode cX4_crew 65 = .ok (.goto 4, 3) := by decide +kernel
theorem dX4_crew_68 : decode cX4_crew 68 = .ok (.iconst 0, 1) := by decide +kernel
theorem dX4_crew_69 : decode cX4_crew 69 = .ok (.istore 5, 2) := by decide +kernel
theorem dX4_crew_71 : decode cX4_crew 71 = .ok (.iload 5, 2) := by decide +kernel
theorem dX4_crew_73 : decode cX4_crew 73 = .ok (.ifCond .eq 19, 3) := by decide +kernel
theorem dX4_crew_76 : decode cX4_crew 76 = .ok (.aload_n 0, 1) := by decide +kernel
theorem dX4_crew_77 : decode cX4_crew 77 = .ok (.getfield 25, 3) := by decide +kernel
theorem dX4_crew_80 : decode cX4_crew 80 = .ok (.iload 4, 2) := by decide +kernel
theorem dX4_crew_82 : decode cX4_crew 82 = .ok (.invokevirtual 207, 3) := by decide +kernel
theorem dX4_crew_85 : decode cX4_crew 85 = .ok (.iload_n 2, 1) := by decide +kernel
theorem dX4_crew_86 : decode cX4_crew 86 = .ok (.if_icmp .lt 6, 3) := by decide +kernel
theorem dX4_crew_89 : decode cX4_crew 89 = .ok (.iload 4, 2) := by decide +kernel
theorem dX4_crew_91 : decode cX4_crew 91 = .ok (.istore_n 3, 1) := by decide +kernel
theorem dX4_crew_92 : decode cX4_crew 92 = .ok (.iinc 4 1, 3) := by decide +kernel
theorem dX4_crew_95 : decode cX4_crew 95 = .ok (.goto (-63), 3) := by decide +kernel
theorem dX4_crew_98 : decode cX4_crew 98 = .ok (.iload_n 3, 1) := by decide +kernel
theorem dX4_crew_99 : decode cX4_crew 99 = .ok (.ireturn, 1) := by decide +kernel
theorem dX4_blocks_0 : decode cX4_blocks 0 = .ok (.aload_n 0, 1) := by decide +kernel
theorem dX4_blocks_1 : decode cX4_blocks 1 = .ok (.getfield 25, 3) := by decide +kernel
theorem dX4_blocks_4 : decode cX4_blocks 4 = .ok (.iload_n 1, 1) := by decide +kernel
theorem dX4_blocks_5 : decode cX4_blocks 5 = .ok (.invokevirtual 85, 3) := by decide +kernel
theorem dX4_blocks_8 : decode cX4_blocks 8 = .ok (.ifCond .ne 5, 3) := by decide +kernel
theorem dX4_blocks_11 : decode cX4_blocks 11 = .ok (.iconst (-1), 1) := by decide +kernel
theorem dX4_blocks_12 : decode cX4_blocks 12 = .ok (.ireturn, 1) := by decide +kernel
theorem dX4_blocks_13 : decode cX4_blocks 13 = .ok (.aload_n 0, 1) := by decide +kernel
theorem dX4_blocks_14 : decode cX4_blocks 14 = .ok (.getfield 35, 3) := by decide +kernel
theorem dX4_blocks_17 : decode cX4_blocks 17 = .ok (.aload_n 0, 1) := by decide +kernel
theorem dX4_blocks_18 : decode cX4_blocks 18 = .ok (.getfield 25, 3) := by decide +kernel
theorem dX4_blocks_21 : decode cX4_blocks 21 = .ok (.iload_n 1, 1) := by decide +kernel
theorem dX4_blocks_22 : decode cX4_blocks 22 = .ok (.invokevirtual 111, 3) := by decide +kernel
theorem dX4_blocks_25 : decode cX4_blocks 25 = .ok (.ifCond .eq 7, 3) := by decide +kernel
theorem dX4_blocks_28 : decode cX4_blocks 28 = .ok (.iconst 0, 1) := by decide +kernel
theorem dX4_blocks_29 : decode cX4_blocks 29 = .ok (.goto 26, 3) := by decide +kernel
theorem dX4_blocks_32 : decode cX4_blocks 32 = .ok (.aload_n 0, 1) := by decide +kernel
theorem dX4_blocks_33 : decode cX4_blocks 33 = .ok (.getfield 35, 3) := by decide +kernel
theorem dX4_blocks_36 : decode cX4_blocks 36 = .ok (.aload_n 0, 1) := by decide +kernel
theorem dX4_blocks_37 : decode cX4_blocks 37 = .ok (.getfield 25, 3) := by decide +kernel
theorem dX4_blocks_40 : decode cX4_blocks 40 = .ok (.iload_n 1, 1) := by decide +kernel
theorem dX4_blocks_41 : decode cX4_blocks 41 = .ok (.aload_n 0, 1) := by decide +kernel
theorem dX4_blocks_42 : decode cX4_blocks 42 = .ok (.getfield 35, 3) := by decide +kernel
theorem dX4_blocks_45 : decode cX4_blocks 45 = .ok (.getfield 101, 3) := by decide +kernel
theorem dX4_blocks_48 : decode cX4_blocks 48 = .ok (.iload_n 1, 1) := by decide +kernel
theorem dX4_blocks_49 : decode cX4_blocks 49 = .ok (.iaload, 1) := by decide +kernel
theorem dX4_blocks_50 : decode cX4_blocks 50 = .ok (.iconst 1, 1) := by decide +kernel
theorem dX4_blocks_51 : decode cX4_blocks 51 = .ok (.iadd, 1) := by decide +kernel
theorem dX4_blocks_52 : decode cX4_blocks 52 = .ok (.invokevirtual 210, 3) := by decide +kernel
theorem dX4_blocks_55 : decode cX4_blocks 55 = .ok (.ireturn, 1) := by decide +kernel
theorem dX4_allPush_0 : decode cX4_allPush 0 = .ok (.aload_n 0, 1) := by decide +kernel
theorem dX4_allPush_1 : decode cX4_allPush 1 = .ok (.getfield 39, 3) := by decide +kernel
theorem dX4_allPush_4 : decode cX4_allPush 4 = .ok (.aload_n 0, 1) := by decide +kernel
theorem dX4_allPush_5 : decode cX4_allPush 5 = .ok (.getfield 35, 3) := by decide +kernel
theorem dX4_allPush_8 : decode cX4_allPush 8 = .ok (.invokevirtual 159, 3) := by decide +kernel
theorem dX4_allPush_11 : decode cX4_allPush 11 = .ok (.iconst 0, 1) := by decide +kernel
theorem dX4_allPush_12 : decode cX4_allPush 12 = .ok (.istore_n 2, 1) := by decide +kernel
theorem dX4_allPush_13 : decode cX4_allPush 13 = .ok (.iload_n 2, 1) := by decide +kernel
theorem dX4_allPush_14 : decode cX4_allPush 14 = .ok (.aload_n 0, 1) := by decide +kernel
theorem dX4_allPush_15 : decode cX4_allPush 15 = .ok (.getfield 25, 3) := by decide +kernel
theorem dX4_allPush_18 : decode cX4_allPush 18 = .ok (.getfield 198, 3) := by decide +kernel
theorem dX4_allPush_21 : decode cX4_allPush 21 = .ok (.if_icmp .ge 19, 3) := by decide +kernel
theorem dX4_allPush_24 : decode cX4_allPush 24 = .ok (.aload_n 0, 1) := by decide +kernel
theorem dX4_allPush_25 : decode cX4_allPush 25 = .ok (.getfield 39, 3) := by decide +kernel
theorem dX4_allPush_28 : decode cX4_allPush 28 = .ok (.getfield 124, 3) := by decide +kernel
theorem dX4_allPush_31 : decode cX4_allPush 31 = .ok (.iload_n 2, 1) := by decide +kernel
theorem dX4_allPush_32 : decode cX4_allPush 32 = .ok (.iload_n 1, 1) := by decide +kernel
theorem dX4_allPush_33 : decode cX4_allPush 33 = .ok (.iastore, 1) := by decide +kernel
theorem dX4_allPush_34 : decode cX4_allPush 34 = .ok (.iinc 2 1, 3) := by decide +kernel
theorem dX4_allPush_37 : decode cX4_allPush 37 = .ok (.goto (-24), 3) := by decide +kernel
theorem dX4_allPush_40 : decode cX4_allPush 40 = .ok (.return_, 1) := by decide +kernel
theorem dX4_written_0 : decode cX4_written 0 = .ok (.iload_n 1, 1) := by decide +kernel
theorem dX4_written_1 : decode cX4_written 1 = .ok (.ifCond .lt 25, 3) := by decide +kernel
theorem dX4_written_4 : decode cX4_written 4 = .ok (.iload_n 1, 1) := by decide +kernel
theorem dX4_written_5 : decode cX4_written 5 = .ok (.aload_n 0, 1) := by decide +kernel
theorem dX4_written_6 : decode cX4_written 6 = .ok (.getfield 35, 3) := by decide +kernel
theorem dX4_written_9 : decode cX4_written 9 = .ok (.getfield 137, 3) := by decide +kernel
theorem dX4_written_12 : decode cX4_written 12 = .ok (.if_icmp .ge 14, 3) := by decide +kernel
theorem dX4_written_15 : decode cX4_written 15 = .ok (.aload_n 0, 1) := by decide +kernel
theorem dX4_written_16 : decode cX4_written 16 = .ok (.getfield 25, 3) := by decide +kernel
theorem dX4_written_19 : decode cX4_written 19 = .ok (.iload_n 2, 1) := by decide +kernel
theorem dX4_written_20 : decode cX4_written 20 = .ok (.invokevirtual 85, 3) := by decide +kernel
theorem dX4_written_23 : decode cX4_written 23 = .ok (.ifCond .ne 5, 3) := by decide +kernel
theorem dX4_written_26 : decode cX4_written 26 = .ok (.iconst (-1), 1) := by decide +kernel
theorem dX4_written_27 : decode cX4_written 27 = .ok (.ireturn, 1) := by decide +kernel
theorem dX4_written_28 : decode cX4_written 28 = .ok (.aload_n 0, 1) := by decide +kernel
theorem dX4_written_29 : decode cX4_written 29 = .ok (.getfield 35, 3) := by decide +kernel
theorem dX4_written_32 : decode cX4_written 32 = .ok (.iload_n 1, 1) := by decide +kernel
theorem dX4_written_33 : decode cX4_written 33 = .ok (.iload_n 2, 1) := by decide +kernel
theorem dX4_written_34 : decode cX4_written 34 = .ok (.invokevirtual 214, 3) := by decide +kernel
theorem dX4_written_37 : decode cX4_written 37 = .ok (.ireturn, 1) := by decide +kernel
theorem dX4_saw_0 : decode cX4_saw 0 = .ok (.aload_n 0, 1) := by decide +kernel
theorem dX4_saw_1 : decode cX4_saw 1 = .ok (.getfield 25, 3) := by decide +kernel
theorem dX4_saw_4 : decode cX4_saw 4 = .ok (.iload_n 1, 1) := by decide +kernel
theorem dX4_saw_5 : decode cX4_saw 5 = .ok (.invokevirtual 85, 3) := by decide +kernel
theorem dX4_saw_8 : decode cX4_saw 8 = .ok (.ifCond .eq 13, 3) := by decide +kernel
theorem dX4_saw_11 : decode cX4_saw 11 = .ok (.iload_n 2, 1) := by decide +kernel
theorem dX4_saw_12 : decode cX4_saw 12 = .ok (.ifCond .lt 9, 3) := by decide +kernel
theorem dX4_saw_15 : decode cX4_saw 15 = .ok (.iload_n 2, 1) := by decide +kernel
theorem dX4_saw_16 : decode cX4_saw 16 = .ok (.bipush 9, 2) := by decide +kernel
theorem dX4_saw_18 : decode cX4_saw 18 = .ok (.if_icmp .le 5, 3) := by decide +kernel
theorem dX4_saw_21 : decode cX4_saw 21 = .ok (.iconst (-1), 1) := by decide +kernel
theorem dX4_saw_22 : decode cX4_saw 22 = .ok (.ireturn, 1) := by decide +kernel
theorem dX4_saw_23 : decode cX4_saw 23 = .ok (.aload_n 0, 1) := by decide +kernel
theorem dX4_saw_24 : decode cX4_saw 24 = .ok (.getfield 82, 3) := by decide +kernel
theorem dX4_saw_27 : decode cX4_saw 27 = .ok (.bipush 6, 2) := by decide +kernel
theorem dX4_saw_29 : decode cX4_saw 29 = .ok (.if_icmp .lt 6, 3) := by decide +kernel
theorem dX4_saw_32 : decode cX4_saw 32 = .ok (.bipush (-3), 2) := by decide +kernel
theorem dX4_saw_34 : decode cX4_saw 34 = .ok (.ireturn, 1) := by decide +kernel
theorem dX4_saw_35 : decode cX4_saw 35 = .ok (.aload_n 0, 1) := by decide +kernel
theorem dX4_saw_36 : decode cX4_saw 36 = .ok (.getfield 53, 3) := by decide +kernel
theorem dX4_saw_39 : decode cX4_saw 39 = .ok (.aload_n 0, 1) := by decide +kernel
theorem dX4_saw_40 : decode cX4_saw 40 = .ok (.getfield 82, 3) := by decide +kernel
theorem dX4_saw_43 : decode cX4_saw 43 = .ok (.iload_n 1, 1) := by decide +kernel
theorem dX4_saw_44 : decode cX4_saw 44 = .ok (.iastore, 1) := by decide +kernel
theorem dX4_saw_45 : decode cX4_saw 45 = .ok (.aload_n 0, 1) := by decide +kernel
theorem dX4_saw_46 : decode cX4_saw 46 = .ok (.getfield 57, 3) := by decide +kernel
theorem dX4_saw_49 : decode cX4_saw 49 = .ok (.aload_n 0, 1) := by decide +kernel
theorem dX4_saw_50 : decode cX4_saw 50 = .ok (.getfield 82, 3) := by decide +kernel
theorem dX4_saw_53 : decode cX4_saw 53 = .ok (.iload_n 2, 1) := by decide +kernel
theorem dX4_saw_54 : decode cX4_saw 54 = .ok (.iastore, 1) := by decide +kernel
theorem dX4_saw_55 : decode cX4_saw 55 = .ok (.aload_n 0, 1) := by decide +kernel
theorem dX4_saw_56 : decode cX4_saw 56 = .ok (.dup, 1) := by decide +kernel
theorem dX4_saw_57 : decode cX4_saw 57 = .ok (.getfield 82, 3) := by decide +kernel
theorem dX4_saw_60 : decode cX4_saw 60 = .ok (.iconst 1, 1) := by decide +kernel
theorem dX4_saw_61 : decode cX4_saw 61 = .ok (.iadd, 1) := by decide +kernel
theorem dX4_saw_62 : decode cX4_saw 62 = .ok (.putfield 82, 3) := by decide +kernel
theorem dX4_saw_65 : decode cX4_saw 65 = .ok (.aload_n 0, 1) := by decide +kernel
theorem dX4_saw_66 : decode cX4_saw 66 = .ok (.getfield 82, 3) := by decide +kernel
theorem dX4_saw_69 : decode cX4_saw 69 = .ok (.ireturn, 1) := by decide +kernel
theorem dX4_forget_0 : decode cX4_forget 0 = .ok (.aload_n 0, 1) := by decide +kernel
theorem dX4_forget_1 : decode cX4_forget 1 = .ok (.getfield 82, 3) := by decide +kernel
theorem dX4_forget_4 : decode cX4_forget 4 = .ok (.istore_n 1, 1) := by decide +kernel
theorem dX4_forget_5 : decode cX4_forget 5 = .ok (.aload_n 0, 1) := by decide +kernel
theorem dX4_forget_6 : decode cX4_forget 6 = .ok (.iconst 0, 1) := by decide +kernel
theorem dX4_forget_7 : decode cX4_forget 7 = .ok (.putfield 82, 3) := by decide +kernel
theorem dX4_forget_10 : decode cX4_forget 10 = .ok (.iload_n 1, 1) := by decide +kernel
theorem dX4_forget_11 : decode cX4_forget 11 = .ok (.ireturn, 1) := by decide +kernel
theorem dX4_evening_0 : decode cX4_evening 0 = .ok (.iconst 0, 1) := by decide +kernel
theorem dX4_evening_1 : decode cX4_evening 1 = .ok (.istore_n 1, 1) := by decide +kernel
theorem dX4_evening_2 : decode cX4_evening 2 = .ok (.iconst 0, 1) := by decide +kernel
theorem dX4_evening_3 : decode cX4_evening 3 = .ok (.istore_n 2, 1) := by decide +kernel
theorem dX4_evening_4 : decode cX4_evening 4 = .ok (.iload_n 2, 1) := by decide +kernel
theorem dX4_evening_5 : decode cX4_evening 5 = .ok (.aload_n 0, 1) := by decide +kernel
theorem dX4_evening_6 : decode cX4_evening 6 = .ok (.getfield 35, 3) := by decide +kernel
theorem dX4_evening_9 : decode cX4_evening 9 = .ok (.getfield 137, 3) := by decide +kernel
theorem dX4_evening_12 : decode cX4_evening 12 = .ok (.if_icmp .ge 23, 3) := by decide +kernel
theorem dX4_evening_15 : decode cX4_evening 15 = .ok (.aload_n 0, 1) := by decide +kernel
theorem dX4_evening_16 : decode cX4_evening 16 = .ok (.iload_n 2, 1) := by decide +kernel
theorem dX4_evening_17 : decode cX4_evening 17 = .ok (.invokevirtual 217, 3) := by decide +kernel
theorem dX4_evening_20 : decode cX4_evening 20 = .ok (.ifCond .eq 9, 3) := by decide +kernel
theorem dX4_evening_23 : decode cX4_evening 23 = .ok (.iload_n 1, 1) := by decide +kernel
theorem dX4_evening_24 : decode cX4_evening 24 = .ok (.iconst 1, 1) := by decide +kernel
theorem dX4_evening_25 : decode cX4_evening 25 = .ok (.iload_n 2, 1) := by decide +kernel
theorem dX4_evening_26 : decode cX4_evening 26 = .ok (.ishl, 1) := by decide +kernel
theorem dX4_evening_27 : decode cX4_evening 27 = .ok (.ior, 1) := by decide +kernel
theorem dX4_evening_28 : decode cX4_evening 28 = .ok (.istore_n 1, 1) := by decide +kernel
theorem dX4_evening_29 : decode cX4_evening 29 = .ok (.iinc 2 1, 3) := by decide +kernel
theorem dX4_evening_32 : decode cX4_evening 32 = .ok (.goto (-28), 3) := by decide +kernel
theorem dX4_evening_35 : decode cX4_evening 35 = .ok (.iload_n 1, 1) := by decide +kernel
theorem dX4_evening_36 : decode cX4_evening 36 = .ok (.ireturn, 1) := by decide +kernel
theorem dX4_odds_0 : decode cX4_odds 0 = .ok (.aload_n 0, 1) := by decide +kernel
theorem dX4_odds_1 : decode cX4_odds 1 = .ok (.getfield 25, 3) := by decide +kernel
theorem dX4_odds_4 : decode cX4_odds 4 = .ok (.iload_n 1, 1) := by decide +kernel
theorem dX4_odds_5 : decode cX4_odds 5 = .ok (.invokevirtual 85, 3) := by decide +kernel
theorem dX4_odds_8 : decode cX4_odds 8 = .ok (.ifCond .eq 34, 3) := by decide +kernel
theorem dX4_odds_11 : decode cX4_odds 11 = .ok (.iload_n 2, 1) := by decide +kernel
theorem dX4_odds_12 : decode cX4_odds 12 = .ok (.iconst 1, 1) := by decide +kernel
theorem dX4_odds_13 : decode cX4_odds 13 = .ok (.if_icmp .lt 29, 3) := by decide +kernel
theorem dX4_odds_16 : decode cX4_odds 16 = .ok (.iload_n 2, 1) := by decide +kernel
theorem dX4_odds_17 : decode cX4_odds 17 = .ok (.iconst 4, 1) := by decide +kernel
theorem dX4_odds_18 : decode cX4_odds 18 = .ok (.if_icmp .gt 24, 3) := by decide +kernel
theorem dX4_odds_21 : decode cX4_odds 21 = .ok (.iload_n 3, 1) := by decide +kernel
theorem dX4_odds_22 : decode cX4_odds 22 = .ok (.ifCond .lt 20, 3) := by decide +kernel
theorem dX4_odds_25 : decode cX4_odds 25 = .ok (.iload_n 3, 1) := by decide +kernel
theorem dX4_odds_26 : decode cX4_odds 26 = .ok (.bipush 10, 2) := by decide +kernel
theorem dX4_odds_28 : decode cX4_odds 28 = .ok (.if_icmp .gt 14, 3) := by decide +kernel
theorem dX4_odds_31 : decode cX4_odds 31 = .ok (.iload 4, 2) := by decide +kernel
theorem dX4_odds_33 : decode cX4_odds 33 = .ok (.ifCond .lt 9, 3) := by decide +kernel
theorem dX4_odds_36 : decode cX4_odds 36 = .ok (.iload 4, 2) := by decide +kernel
theorem dX4_odds_38 : decode cX4_odds 38 = .ok (.iconst 1, 1) := by decide +kernel
theorem dX4_odds_39 : decode cX4_odds 39 = .ok (.if_icmp .le 7, 3) := by decide +kernel
theorem dX4_odds_42 : decode cX4_odds 42 = .ok (.ldc2_w 220, 3) := by decide +kernel
theorem dX4_odds_45 : decode cX4_odds 45 = .ok (.lreturn, 1) := by decide +kernel
theorem dX4_odds_46 : decode cX4_odds 46 = .ok (.iload_n 2, 1) := by decide +kernel
theorem dX4_odds_47 : decode cX4_odds 47 = .ok (.iconst 1, 1) := by decide +kernel
theorem dX4_odds_48 : decode cX4_odds 48 = .ok (.isub, 1) := by decide +kernel
theorem dX4_odds_49 : decode cX4_odds 49 = .ok (.istore 5, 2) := by decide +kernel
theorem dX4_odds_51 : decode cX4_odds 51 = .ok (.lconst 0, 1) := by decide +kernel
theorem dX4_odds_52 : decode cX4_odds 52 = .ok (.lstore 6, 2) := by decide +kernel
theorem dX4_odds_54 : decode cX4_odds 54 = .ok (.iconst 0, 1) := by decide +kernel
theorem dX4_odds_55 : decode cX4_odds 55 = .ok (.istore 8, 2) := by decide +kernel
theorem dX4_odds_57 : decode cX4_odds 57 = .ok (.iload 8, 2) := by decide +kernel
theorem dX4_odds_59 : decode cX4_odds 59 = .ok (.iconst 1, 1) := by decide +kernel
theorem dX4_odds_60 : decode cX4_odds 60 = .ok (.iload 5, 2) := by decide +kernel
theorem dX4_odds_62 : decode cX4_odds 62 = .ok (.ishl, 1) := by decide +kernel
theorem dX4_odds_63 : decode cX4_odds 63 = .ok (.if_icmp .ge 44, 3) := by decide +kernel
theorem dX4_odds_66 : decode cX4_odds 66 = .ok (.iload 5, 2) := by decide +kernel
theorem dX4_odds_68 : decode cX4_odds 68 = .ok (.iload_n 3, 1) := by decide +kernel
theorem dX4_odds_69 : decode cX4_odds 69 = .ok (.iload 8, 2) := by decide +kernel
theorem dX4_odds_71 : decode cX4_odds 71 = .ok (.invokestatic 222, 3) := by decide +kernel
theorem dX4_odds_74 : decode cX4_odds 74 = .ok (.lstore 9, 2) := by decide +kernel
theorem dX4_odds_76 : decode cX4_odds 76 = .ok (.lload 9, 2) := by decide +kernel
theorem dX4_odds_78 : decode cX4_odds 78 = .ok (.lconst 0, 1) := by decide +kernel
theorem dX4_odds_79 : decode cX4_odds 79 = .ok (.lcmp, 1) := by decide +kernel
theorem dX4_odds_80 : decode cX4_odds 80 = .ok (.ifCond .le 21, 3) := by decide +kernel
theorem dX4_odds_83 : decode cX4_odds 83 = .ok (.aload_n 0, 1) := by decide +kernel
theorem dX4_odds_84 : decode cX4_odds 84 = .ok (.iload_n 1, 1) := by decide +kernel
theorem dX4_odds_85 : decode cX4_odds 85 = .ok (.iload_n 2, 1) := by decide +kernel
theorem dX4_odds_86 : decode cX4_odds 86 = .ok (.iload 8, 2) := by decide +kernel
theorem dX4_odds_88 : decode cX4_odds 88 = .ok (.invokevirtual 226, 3) := by decide +kernel
theorem dX4_odds_91 : decode cX4_odds 91 = .ok (.ifCond .eq 10, 3) := by decide +kernel
theorem dX4_odds_94 : decode cX4_odds 94 = .ok (.lload 6, 2) := by decide +kernel
theorem dX4_odds_96 : decode cX4_odds 96 = .ok (.lload 9, 2) := by decide +kernel
theorem dX4_odds_98 : decode cX4_odds 98 = .ok (.ladd, 1) := by decide +kernel
theorem dX4_odds_99 : decode cX4_odds 99 = .ok (.lstore 6, 2) := by decide +kernel
theorem dX4_odds_101 : decode cX4_odds 101 = .ok (.iinc 8 1, 3) := by decide +kernel
theorem dX4_odds_104 : decode cX4_odds 104 = .ok (.goto (-47), 3) := by decide +kernel
theorem dX4_odds_107 : decode cX4_odds 107 = .ok (.bipush 10, 2) := by decide +kernel
theorem dX4_odds_109 : decode cX4_odds 109 = .ok (.iload 5, 2) := by decide +kernel
theorem dX4_odds_111 : decode cX4_odds 111 = .ok (.invokestatic 230, 3) := by decide +kernel
theorem dX4_odds_114 : decode cX4_odds 114 = .ok (.lstore 8, 2) := by decide +kernel
theorem dX4_odds_116 : decode cX4_odds 116 = .ok (.lload 8, 2) := by decide +kernel
theorem dX4_odds_118 : decode cX4_odds 118 = .ok (.lload 6, 2) := by decide +kernel
theorem dX4_odds_120 : decode cX4_odds 120 = .ok (.invokestatic 234, 3) := by decide +kernel
theorem dX4_odds_123 : decode cX4_odds 123 = .ok (.lstore 10, 2) := by decide +kernel
theorem dX4_odds_125 : decode cX4_odds 125 = .ok (.iload 4, 2) := by decide +kernel
theorem dX4_odds_127 : decode cX4_odds 127 = .ok (.ifCond .ne 8, 3) := by decide +kernel
theorem dX4_odds_130 : decode cX4_odds 130 = .ok (.lload 6, 2) := by decide +kernel
theorem dX4_odds_132 : decode cX4_odds 132 = .ok (.goto 5, 3) := by decide +kernel
theorem dX4_odds_135 : decode cX4_odds 135 = .ok (.lload 8, 2) := by decide +kernel
theorem dX4_odds_137 : decode cX4_odds 137 = .ok (.lstore 12, 2) := by decide +kernel
theorem dX4_odds_139 : decode cX4_odds 139 = .ok (.lload 10, 2) := by decide +kernel
theorem dX4_odds_141 : decode cX4_odds 141 = .ok (.lconst 1, 1) := by decide +kernel
theorem dX4_odds_142 : decode cX4_odds 142 = .ok (.lcmp, 1) := by decide +kernel
theorem dX4_odds_143 : decode cX4_odds 143 = .ok (.ifCond .ge 8, 3) := by decide +kernel
theorem dX4_odds_146 : decode cX4_odds 146 = .ok (.lload 12, 2) := by decide +kernel
theorem dX4_odds_148 : decode cX4_odds 148 = .ok (.goto 8, 3) := by decide +kernel
theorem dX4_odds_151 : decode cX4_odds 151 = .ok (.lload 12, 2) := by decide +kernel
theorem dX4_odds_153 : decode cX4_odds 153 = .ok (.lload 10, 2) := by decide +kernel
theorem dX4_odds_155 : decode cX4_odds 155 = .ok (.ldiv, 1) := by decide +kernel
theorem dX4_odds_156 : decode cX4_odds 156 = .ok (.lreturn, 1) := by decide +kernel
theorem dX4_wear_0 : decode cX4_wear 0 = .ok (.aload_n 0, 1) := by decide +kernel
theorem dX4_wear_1 : decode cX4_wear 1 = .ok (.getfield 25, 3) := by decide +kernel
theorem dX4_wear_4 : decode cX4_wear 4 = .ok (.iload_n 1, 1) := by decide +kernel
theorem dX4_wear_5 : decode cX4_wear 5 = .ok (.invokevirtual 85, 3) := by decide +kernel
theorem dX4_wear_8 : decode cX4_wear 8 = .ok (.ifCond .eq 14, 3) := by decide +kernel
theorem dX4_wear_11 : decode cX4_wear 11 = .ok (.iload_n 2, 1) := by decide +kernel
theorem dX4_wear_12 : decode cX4_wear 12 = .ok (.iconst 1, 1) := by decide +kernel
theorem dX4_wear_13 : decode cX4_wear 13 = .ok (.if_icmp .lt 9, 3) := by decide +kernel
theorem dX4_wear_16 : decode cX4_wear 16 = .ok (.iload_n 2, 1) := by decide +kernel
theorem dX4_wear_17 : decode cX4_wear 17 = .ok (.bipush 9, 2) := by decide +kernel
theorem dX4_wear_19 : decode cX4_wear 19 = .ok (.if_icmp .le 5, 3) := by decide +kernel
theorem dX4_wear_22 : decode cX4_wear 22 = .ok (.iconst (-1), 1) := by decide +kernel
theorem dX4_wear_23 : decode cX4_wear 23 = .ok (.ireturn, 1) := by decide +kernel
theorem dX4_wear_24 : decode cX4_wear 24 = .ok (.bipush 8, 2) := by decide +kernel
theorem dX4_wear_26 : decode cX4_wear 26 = .ok (.aload_n 0, 1) := by decide +kernel
theorem dX4_wear_27 : decode cX4_wear 27 = .ok (.getfield 25, 3) := by decide +kernel
theorem dX4_wear_30 : decode cX4_wear 30 = .ok (.getfield 98, 3) := by decide +kernel
theorem dX4_wear_33 : decode cX4_wear 33 = .ok (.iload_n 1, 1) := by decide +kernel
theorem dX4_wear_34 : decode cX4_wear 34 = .ok (.iaload, 1) := by decide +kernel
theorem dX4_wear_35 : decode cX4_wear 35 = .ok (.iconst 1, 1) := by decide +kernel
theorem dX4_wear_36 : decode cX4_wear 36 = .ok (.isub, 1) := by decide +kernel
theorem dX4_wear_37 : decode cX4_wear 37 = .ok (.imul, 1) := by decide +kernel
theorem dX4_wear_38 : decode cX4_wear 38 = .ok (.aload_n 0, 1) := by decide +kernel
theorem dX4_wear_39 : decode cX4_wear 39 = .ok (.getfield 35, 3) := by decide +kernel
theorem dX4_wear_42 : decode cX4_wear 42 = .ok (.getfield 108, 3) := by decide +kernel
theorem dX4_wear_45 : decode cX4_wear 45 = .ok (.iload_n 1, 1) := by decide +kernel
theorem dX4_wear_46 : decode cX4_wear 46 = .ok (.iaload, 1) := by decide +kernel
theorem dX4_wear_47 : decode cX4_wear 47 = .ok (.isub, 1) := by decide +kernel
theorem dX4_wear_48 : decode cX4_wear 48 = .ok (.istore_n 3, 1) := by decide +kernel
theorem dX4_wear_49 : decode cX4_wear 49 = .ok (.iload_n 3, 1) := by decide +kernel
theorem dX4_wear_50 : decode cX4_wear 50 = .ok (.ifCond .gt 7, 3) := by decide +kernel
theorem dX4_wear_53 : decode cX4_wear 53 = .ok (.iconst 0, 1) := by decide +kernel
theorem dX4_wear_54 : decode cX4_wear 54 = .ok (.goto 10, 3) := by decide +kernel
theorem dX4_wear_57 : decode cX4_wear 57 = .ok (.iload_n 3, 1) := by decide +kernel
theorem dX4_wear_58 : decode cX4_wear 58 = .ok (.iload_n 2, 1) := by decide +kernel
theorem dX4_wear_59 : decode cX4_wear 59 = .ok (.iadd, 1) := by decide +kernel
theorem dX4_wear_60 : decode cX4_wear 60 = .ok (.iconst 1, 1) := by decide +kernel
theorem dX4_wear_61 : decode cX4_wear 61 = .ok (.isub, 1) := by decide +kernel
theorem dX4_wear_62 : decode cX4_wear 62 = .ok (.iload_n 2, 1) := by decide +kernel
theorem dX4_wear_63 : decode cX4_wear 63 = .ok (.idiv, 1) := by decide +kernel
theorem dX4_wear_64 : decode cX4_wear 64 = .ok (.ireturn, 1) := by decide +kernel
theorem dX4_agrees_0 : decode cX4_agrees 0 = .ok (.iconst 0, 1) := by decide +kernel
theorem dX4_agrees_1 : decode cX4_agrees 1 = .ok (.istore_n 2, 1) := by decide +kernel
theorem dX4_agrees_2 : decode cX4_agrees 2 = .ok (.iload_n 2, 1) := by decide +kernel
theorem dX4_agrees_3 : decode cX4_agrees 3 = .ok (.aload_n 0, 1) := by decide +kernel
theorem dX4_agrees_4 : decode cX4_agrees 4 = .ok (.getfield 82, 3) := by decide +kernel
theorem dX4_agrees_7 : decode cX4_agrees 7 = .ok (.if_icmp .ge 34, 3) := by decide +kernel
theorem dX4_agrees_10 : decode cX4_agrees 10 = .ok (.aload_n 0, 1) := by decide +kernel
theorem dX4_agrees_11 : decode cX4_agrees 11 = .ok (.getfield 35, 3) := by decide +kernel
theorem dX4_agrees_14 : decode cX4_agrees 14 = .ok (.iload_n 1, 1) := by decide +kernel
theorem dX4_agrees_15 : decode cX4_agrees 15 = .ok (.aload_n 0, 1) := by decide +kernel
theorem dX4_agrees_16 : decode cX4_agrees 16 = .ok (.getfield 53, 3) := by decide +kernel
theorem dX4_agrees_19 : decode cX4_agrees 19 = .ok (.iload_n 2, 1) := by decide +kernel
theorem dX4_agrees_20 : decode cX4_agrees 20 = .ok (.iaload, 1) := by decide +kernel
theorem dX4_agrees_21 : decode cX4_agrees 21 = .ok (.invokevirtual 214, 3) := by decide +kernel
theorem dX4_agrees_24 : decode cX4_agrees 24 = .ok (.aload_n 0, 1) := by decide +kernel
theorem dX4_agrees_25 : decode cX4_agrees 25 = .ok (.getfield 57, 3) := by decide +kernel
theorem dX4_agrees_28 : decode cX4_agrees 28 = .ok (.iload_n 2, 1) := by decide +kernel
theorem dX4_agrees_29 : decode cX4_agrees 29 = .ok (.iaload, 1) := by decide +kernel
theorem dX4_agrees_30 : decode cX4_agrees 30 = .ok (.if_icmp .eq 5, 3) := by decide +kernel
theorem dX4_agrees_33 : decode cX4_agrees 33 = .ok (.iconst 0, 1) := by decide +kernel
theorem dX4_agrees_34 : decode cX4_agrees 34 = .ok (.ireturn, 1) := by decide +kernel
theorem dX4_agrees_35 : decode cX4_agrees 35 = .ok (.iinc 2 1, 3) := by decide +kernel
theorem dX4_agrees_38 : decode cX4_agrees 38 = .ok (.goto (-36), 3) := by decide +kernel
theorem dX4_agrees_41 : decode cX4_agrees 41 = .ok (.iconst 1, 1) := by decide +kernel
theorem dX4_agrees_42 : decode cX4_agrees 42 = .ok (.ireturn, 1) := by decide +kernel
theorem dX4_rainWeight_0 : decode cX4_rainWeight 0 = .ok (.iload_n 2, 1) := by decide +kernel
theorem dX4_rainWeight_1 : decode cX4_rainWeight 1 = .ok (.invokestatic 201, 3) := by decide +kernel
theorem dX4_rainWeight_4 : decode cX4_rainWeight 4 = .ok (.istore_n 3, 1) := by decide +kernel
theorem dX4_rainWeight_5 : decode cX4_rainWeight 5 = .ok (.iload_n 1, 1) := by decide +kernel
theorem dX4_rainWeight_6 : decode cX4_rainWeight 6 = .ok (.iload_n 3, 1) := by decide +kernel
theorem dX4_rainWeight_7 : decode cX4_rainWeight 7 = .ok (.invokestatic 230, 3) := by decide +kernel
theorem dX4_rainWeight_10 : decode cX4_rainWeight 10 = .ok (.bipush 10, 2) := by decide +kernel
theorem dX4_rainWeight_12 : decode cX4_rainWeight 12 = .ok (.iload_n 1, 1) := by decide +kernel
theorem dX4_rainWeight_13 : decode cX4_rainWeight 13 = .ok (.isub, 1) := by decide +kernel
theorem dX4_rainWeight_14 : decode cX4_rainWeight 14 = .ok (.iload_n 0, 1) := by decide +kernel
theorem dX4_rainWeight_15 : decode cX4_rainWeight 15 = .ok (.iload_n 3, 1) := by decide +kernel
theorem dX4_rainWeight_16 : decode cX4_rainWeight 16 = .ok (.isub, 1) := by decide +kernel
theorem dX4_rainWeight_17 : decode cX4_rainWeight 17 = .ok (.invokestatic 230, 3) := by decide +kernel
theorem dX4_rainWeight_20 : decode cX4_rainWeight 20 = .ok (.lmul, 1) := by decide +kernel
theorem dX4_rainWeight_21 : decode cX4_rainWeight 21 = .ok (.lreturn, 1) := by decide +kernel
theorem dX4_isOverBehind_0 : decode cX4_isOverBehind 0 = .ok (.aload_n 0, 1) := by decide +kernel
theorem dX4_isOverBehind_1 : decode cX4_isOverBehind 1 = .ok (.iload_n 1, 1) := by decide +kernel
theorem dX4_isOverBehind_2 : decode cX4_isOverBehind 2 = .ok (.invokevirtual 176, 3) := by decide +kernel
theorem dX4_isOverBehind_5 : decode cX4_isOverBehind 5 = .ok (.iconst 0, 1) := by decide +kernel
theorem dX4_isOverBehind_6 : decode cX4_isOverBehind 6 = .ok (.istore 4, 2) := by decide +kernel
theorem dX4_isOverBehind_8 : decode cX4_isOverBehind 8 = .ok (.iload 4, 2) := by decide +kernel
theorem dX4_isOverBehind_10 : decode cX4_isOverBehind 10 = .ok (.iload_n 2, 1) := by decide +kernel
theorem dX4_isOverBehind_11 : decode cX4_isOverBehind 11 = .ok (.if_icmp .ge 63, 3) := by decide +kernel
theorem dX4_isOverBehind_14 : decode cX4_isOverBehind 14 = .ok (.aload_n 0, 1) := by decide +kernel
theorem dX4_isOverBehind_15 : decode cX4_isOverBehind 15 = .ok (.getfield 39, 3) := by decide +kernel
theorem dX4_isOverBehind_18 : decode cX4_isOverBehind 18 = .ok (.aload_n 0, 1) := by decide +kernel
theorem dX4_isOverBehind_19 : decode cX4_isOverBehind 19 = .ok (.getfield 25, 3) := by decide +kernel
theorem dX4_isOverBehind_22 : decode cX4_isOverBehind 22 = .ok (.invokevirtual 180, 3) := by decide +kernel
theorem dX4_isOverBehind_25 : decode cX4_isOverBehind 25 = .ok (.aload_n 0, 1) := by decide +kernel
theorem dX4_isOverBehind_26 : decode cX4_isOverBehind 26 = .ok (.getfield 39, 3) := by decide +kernel
theorem dX4_isOverBehind_29 : decode cX4_isOverBehind 29 = .ok (.aload_n 0, 1) := by decide +kernel
theorem dX4_isOverBehind_30 : decode cX4_isOverBehind 30 = .ok (.getfield 25, 3) := by decide +kernel
theorem dX4_isOverBehind_33 : decode cX4_isOverBehind 33 = .ok (.iload_n 1, 1) := by decide +kernel
theorem dX4_isOverBehind_34 : decode cX4_isOverBehind 34 = .ok (.invokevirtual 111, 3) := by decide +kernel
theorem dX4_isOverBehind_37 : decode cX4_isOverBehind 37 = .ok (.ifCond .eq 5, 3) := by decide +kernel
theorem dX4_isOverBehind_40 : decode cX4_isOverBehind 40 = .ok (.iconst 1, 1) := by decide +kernel
theorem dX4_isOverBehind_41 : decode cX4_isOverBehind 41 = .ok (.ireturn, 1) := by decide +kernel
theorem dX4_isOverBehind_42 : decode cX4_isOverBehind 42 = .ok (.aload_n 0, 1) := by decide +kernel
theorem dX4_isOverBehind_43 : decode cX4_isOverBehind 43 = .ok (.getfield 39, 3) := by decide +kernel
theorem dX4_isOverBehind_46 : decode cX4_isOverBehind 46 = .ok (.aload_n 0, 1) := by decide +kernel
theorem dX4_isOverBehind_47 : decode cX4_isOverBehind 47 = .ok (.getfield 25, 3) := by decide +kernel
theorem dX4_isOverBehind_50 : decode cX4_isOverBehind 50 = .ok (.iload_n 3, 1) := by decide +kernel
theorem dX4_isOverBehind_51 : decode cX4_isOverBehind 51 = .ok (.iload 4, 2) := by decide +kernel
theorem dX4_isOverBehind_53 : decode cX4_isOverBehind 53 = .ok (.ishr, 1) := by decide +kernel
theorem dX4_isOverBehind_54 : decode cX4_isOverBehind 54 = .ok (.iconst 1, 1) := by decide +kernel
theorem dX4_isOverBehind_55 : decode cX4_isOverBehind 55 = .ok (.iand, 1) := by decide +kernel
theorem dX4_isOverBehind_56 : decode cX4_isOverBehind 56 = .ok (.iconst 1, 1) := by decide +kernel
theorem dX4_isOverBehind_57 : decode cX4_isOverBehind 57 = .ok (.if_icmp .ne 7, 3) := by decide +kernel
theorem dX4_isOverBehind_60 : decode cX4_isOverBehind 60 = .ok (.iconst 1, 1) := by decide +kernel
theorem dX4_isOverBehind_61 : decode cX4_isOverBehind 61 = .ok (.goto 4, 3) := by decide +kernel
theorem dX4_isOverBehind_64 : decode cX4_isOverBehind 64 = .ok (.iconst 0, 1) := by decide +kernel
theorem dX4_isOverBehind_65 : decode cX4_isOverBehind 65 = .ok (.invokevirtual 152, 3) := by decide +kernel
theorem dX4_isOverBehind_68 : decode cX4_isOverBehind 68 = .ok (.iinc 4 1, 3) := by decide +kernel
theorem dX4_isOverBehind_71 : decode cX4_isOverBehind 71 = .ok (.goto (-63), 3) := by decide +kernel
theorem dX4_isOverBehind_74 : decode cX4_isOverBehind 74 = .ok (.iconst 0, 1) := by decide +kernel
theorem dX4_isOverBehind_75 : decode cX4_isOverBehind 75 = .ok (.ireturn, 1) := by decide +kernel
theorem dX4_power_0 : decode cX4_power 0 = .ok (.lconst 1, 1) := by decide +kernel
theorem dX4_power_1 : decode cX4_power 1 = .ok (.lstore_n 2, 1) := by decide +kernel
theorem dX4_power_2 : decode cX4_power 2 = .ok (.iconst 0, 1) := by decide +kernel
theorem dX4_power_3 : decode cX4_power 3 = .ok (.istore 4, 2) := by decide +kernel
theorem dX4_power_5 : decode cX4_power 5 = .ok (.iload 4, 2) := by decide +kernel
theorem dX4_power_7 : decode cX4_power 7 = .ok (.iload_n 1, 1) := by decide +kernel
theorem dX4_power_8 : decode cX4_power 8 = .ok (.if_icmp .ge 14, 3) := by decide +kernel
theorem dX4_power_11 : decode cX4_power 11 = .ok (.lload_n 2, 1) := by decide +kernel
theorem dX4_power_12 : decode cX4_power 12 = .ok (.iload_n 0, 1) := by decide +kernel
theorem dX4_power_13 : decode cX4_power 13 = .ok (.i2l, 1) := by decide +kernel
theorem dX4_power_14 : decode cX4_power 14 = .ok (.lmul, 1) := by decide +kernel
theorem dX4_power_15 : decode cX4_power 15 = .ok (.lstore_n 2, 1) := by decide +kernel
theorem dX4_power_16 : decode cX4_power 16 = .ok (.iinc 4 1, 3) := by decide +kernel
theorem dX4_power_19 : decode cX4_power 19 = .ok (.goto (-14), 3) := by decide +kernel
theorem dX4_power_22 : decode cX4_power 22 = .ok (.lload_n 2, 1) := by decide +kernel
theorem dX4_power_23 : decode cX4_power 23 = .ok (.lreturn, 1) := by decide +kernel
theorem dX4_commonDivisor_0 : decode cX4_commonDivisor 0 = .ok (.iconst 0, 1) := by decide +kernel
theorem dX4_commonDivisor_1 : decode cX4_commonDivisor 1 = .ok (.istore 4, 2) := by decide +kernel
theorem dX4_commonDivisor_3 : decode cX4_commonDivisor 3 = .ok (.iload 4, 2) := by decide +kernel
theorem dX4_commonDivisor_5 : decode cX4_commonDivisor 5 = .ok (.bipush 100, 2) := by decide +kernel
theorem dX4_commonDivisor_7 : decode cX4_commonDivisor 7 = .ok (.if_icmp .ge 25, 3) := by decide +kernel
theorem dX4_commonDivisor_10 : decode cX4_commonDivisor 10 = .ok (.lload_n 2, 1) := by decide +kernel
theorem dX4_commonDivisor_11 : decode cX4_commonDivisor 11 = .ok (.lconst 0, 1) := by decide +kernel
theorem dX4_commonDivisor_12 : decode cX4_commonDivisor 12 = .ok (.lcmp, 1) := by decide +kernel
theorem dX4_commonDivisor_13 : decode cX4_commonDivisor 13 = .ok (.ifCond .eq 19, 3) := by decide +kernel
theorem dX4_commonDivisor_16 : decode cX4_commonDivisor 16 = .ok (.lload_n 0, 1) := by decide +kernel
theorem dX4_commonDivisor_17 : decode cX4_commonDivisor 17 = .ok (.lload_n 2, 1) := by decide +kernel
theorem dX4_commonDivisor_18 : decode cX4_commonDivisor 18 = .ok (.lrem, 1) := by decide +kernel
theorem dX4_commonDivisor_19 : decode cX4_commonDivisor 19 = .ok (.lstore 5, 2) := by decide +kernel
theorem dX4_commonDivisor_21 : decode cX4_commonDivisor 21 = .ok (.lload_n 2, 1) := by decide +kernel
theorem dX4_commonDivisor_22 : decode cX4_commonDivisor 22 = .ok (.lstore_n 0, 1) := by decide +kernel
theorem dX4_commonDivisor_23 : decode cX4_commonDivisor 23 = .ok (.lload 5, 2) := by decide +kernel
theorem dX4_commonDivisor_25 : decode cX4_commonDivisor 25 = .ok (.lstore_n 2, 1) := by decide +kernel
theorem dX4_commonDivisor_26 : decode cX4_commonDivisor 26 = .ok (.iinc 4 1, 3) := by decide +kernel
theorem dX4_commonDivisor_29 : decode cX4_commonDivisor 29 = .ok (.goto (-26), 3) := by decide +kernel
theorem dX4_commonDivisor_32 : decode cX4_commonDivisor 32 = .ok (.lload_n 0, 1) := by decide +kernel
theorem dX4_commonDivisor_33 : decode cX4_commonDivisor 33 = .ok (.lreturn, 1) := by decide +kernel
theorem dX4_rate_0 : decode cX4_rate 0 = .ok (.iload_n 1, 1) := by decide +kernel
theorem dX4_rate_1 : decode cX4_rate 1 = .ok (.ifCond .lt 19, 3) := by decide +kernel
theorem dX4_rate_4 : decode cX4_rate 4 = .ok (.iload_n 1, 1) := by decide +kernel
theorem dX4_rate_5 : decode cX4_rate 5 = .ok (.iconst 5, 1) := by decide +kernel
theorem dX4_rate_6 : decode cX4_rate 6 = .ok (.if_icmp .gt 14, 3) := by decide +kernel
theorem dX4_rate_9 : decode cX4_rate 9 = .ok (.aload_n 0, 1) := by decide +kernel
theorem dX4_rate_10 : decode cX4_rate 10 = .ok (.getfield 25, 3) := by decide +kernel
theorem dX4_rate_13 : decode cX4_rate 13 = .ok (.iload_n 2, 1) := by decide +kernel
theorem dX4_rate_14 : decode cX4_rate 14 = .ok (.invokevirtual 85, 3) := by decide +kernel
theorem dX4_rate_17 : decode cX4_rate 17 = .ok (.ifCond .ne 6, 3) := by decide +kernel
theorem dX4_rate_20 : decode cX4_rate 20 = .ok (.ldc 238, 2) := by decide +kernel
theorem dX4_rate_22 : decode cX4_rate 22 = .ok (.ireturn, 1) := by decide +kernel
theorem dX4_rate_23 : decode cX4_rate 23 = .ok (.aload_n 0, 1) := by decide +kernel
theorem dX4_rate_24 : decode cX4_rate 24 = .ok (.iload_n 1, 1) := by decide +kernel
theorem dX4_rate_25 : decode cX4_rate 25 = .ok (.iload_n 2, 1) := by decide +kernel
theorem dX4_rate_26 : decode cX4_rate 26 = .ok (.invokevirtual 239, 3) := by decide +kernel
theorem dX4_rate_29 : decode cX4_rate 29 = .ok (.ireturn, 1) := by decide +kernel
theorem dX4_keep_0 : decode cX4_keep 0 = .ok (.iload_n 1, 1) := by decide +kernel
theorem dX4_keep_1 : decode cX4_keep 1 = .ok (.ifCond .lt 8, 3) := by decide +kernel
theorem dX4_keep_4 : decode cX4_keep 4 = .ok (.iload_n 1, 1) := by decide +kernel
theorem dX4_keep_5 : decode cX4_keep 5 = .ok (.iconst 2, 1) := by decide +kernel
theorem dX4_keep_6 : decode cX4_keep 6 = .ok (.if_icmp .lt 5, 3) := by decide +kernel
theorem dX4_keep_9 : decode cX4_keep 9 = .ok (.iconst (-1), 1) := by decide +kernel
theorem dX4_keep_10 : decode cX4_keep 10 = .ok (.ireturn, 1) := by decide +kernel
theorem dX4_keep_11 : decode cX4_keep 11 = .ok (.aload_n 0, 1) := by decide +kernel
theorem dX4_keep_12 : decode cX4_keep 12 = .ok (.getfield 46, 3) := by decide +kernel
theorem dX4_keep_15 : decode cX4_keep 15 = .ok (.iload_n 1, 1) := by decide +kernel
theorem dX4_keep_16 : decode cX4_keep 16 = .ok (.aaload, 1) := by decide +kernel
theorem dX4_keep_17 : decode cX4_keep 17 = .ok (.aload_n 0, 1) := by decide +kernel
theorem dX4_keep_18 : decode cX4_keep 18 = .ok (.getfield 35, 3) := by decide +kernel
theorem dX4_keep_21 : decode cX4_keep 21 = .ok (.invokevirtual 159, 3) := by decide +kernel
theorem dX4_keep_24 : decode cX4_keep 24 = .ok (.aload_n 0, 1) := by decide +kernel
theorem dX4_keep_25 : decode cX4_keep 25 = .ok (.getfield 49, 3) := by decide +kernel
theorem dX4_keep_28 : decode cX4_keep 28 = .ok (.iload_n 1, 1) := by decide +kernel
theorem dX4_keep_29 : decode cX4_keep 29 = .ok (.iconst 1, 1) := by decide +kernel
theorem dX4_keep_30 : decode cX4_keep 30 = .ok (.bastore, 1) := by decide +kernel
theorem dX4_keep_31 : decode cX4_keep 31 = .ok (.aload_n 0, 1) := by decide +kernel
theorem dX4_keep_32 : decode cX4_keep 32 = .ok (.getfield 35, 3) := by decide +kernel
theorem dX4_keep_35 : decode cX4_keep 35 = .ok (.getfield 127, 3) := by decide +kernel
theorem dX4_keep_38 : decode cX4_keep 38 = .ok (.ireturn, 1) := by decide +kernel
theorem dX4_back_0 : decode cX4_back 0 = .ok (.iload_n 1, 1) := by decide +kernel
theorem dX4_back_1 : decode cX4_back 1 = .ok (.ifCond .lt 8, 3) := by decide +kernel
theorem dX4_back_4 : decode cX4_back 4 = .ok (.iload_n 1, 1) := by decide +kernel
theorem dX4_back_5 : decode cX4_back 5 = .ok (.iconst 2, 1) := by decide +kernel
theorem dX4_back_6 : decode cX4_back 6 = .ok (.if_icmp .lt 5, 3) := by decide +kernel
theorem dX4_back_9 : decode cX4_back 9 = .ok (.iconst (-1), 1) := by decide +kernel
theorem dX4_back_10 : decode cX4_back 10 = .ok (.ireturn, 1) := by decide +kernel
theorem dX4_back_11 : decode cX4_back 11 = .ok (.aload_n 0, 1) := by decide +kernel
theorem dX4_back_12 : decode cX4_back 12 = .ok (.getfield 49, 3) := by decide +kernel
theorem dX4_back_15 : decode cX4_back 15 = .ok (.iload_n 1, 1) := by decide +kernel
theorem dX4_back_16 : decode cX4_back 16 = .ok (.baload, 1) := by decide +kernel
theorem dX4_back_17 : decode cX4_back 17 = .ok (.ifCond .ne 6, 3) := by decide +kernel
theorem dX4_back_20 : decode cX4_back 20 = .ok (.bipush (-2), 2) := by decide +kernel
theorem dX4_back_22 : decode cX4_back 22 = .ok (.ireturn, 1) := by decide +kernel
theorem dX4_back_23 : decode cX4_back 23 = .ok (.aload_n 0, 1) := by decide +kernel
theorem dX4_back_24 : decode cX4_back 24 = .ok (.getfield 35, 3) := by decide +kernel
theorem dX4_back_27 : decode cX4_back 27 = .ok (.aload_n 0, 1) := by decide +kernel
theorem dX4_back_28 : decode cX4_back 28 = .ok (.getfield 46, 3) := by decide +kernel
theorem dX4_back_31 : decode cX4_back 31 = .ok (.iload_n 1, 1) := by decide +kernel
theorem dX4_back_32 : decode cX4_back 32 = .ok (.aaload, 1) := by decide +kernel
theorem dX4_back_33 : decode cX4_back 33 = .ok (.invokevirtual 159, 3) := by decide +kernel
theorem dX4_back_36 : decode cX4_back 36 = .ok (.aload_n 0, 1) := by decide +kernel
theorem dX4_back_37 : decode cX4_back 37 = .ok (.iconst 0, 1) := by decide +kernel
theorem dX4_back_38 : decode cX4_back 38 = .ok (.putfield 79, 3) := by decide +kernel
theorem dX4_back_41 : decode cX4_back 41 = .ok (.aload_n 0, 1) := by decide +kernel
theorem dX4_back_42 : decode cX4_back 42 = .ok (.getfield 35, 3) := by decide +kernel
theorem dX4_back_45 : decode cX4_back 45 = .ok (.getfield 127, 3) := by decide +kernel
theorem dX4_back_48 : decode cX4_back 48 = .ok (.ireturn, 1) := by decide +kernel
theorem dX4_count_0 : decode cX4_count 0 = .ok (.iload_n 1, 1) := by decide +kernel
theorem dX4_count_1 : decode cX4_count 1 = .ok (.tableswitch 93 0 6 #[43, 51, 59, 67, 75, 83, 88], 43) := by decide +kernel
theorem dX4_count_44 : decode cX4_count 44 = .ok (.aload_n 0, 1) := by decide +kernel
theorem dX4_count_45 : decode cX4_count 45 = .ok (.getfield 25, 3) := by decide +kernel
theorem dX4_count_48 : decode cX4_count 48 = .ok (.getfield 242, 3) := by decide +kernel
theorem dX4_count_51 : decode cX4_count 51 = .ok (.ireturn, 1) := by decide +kernel
theorem dX4_count_52 : decode cX4_count 52 = .ok (.aload_n 0, 1) := by decide +kernel
theorem dX4_count_53 : decode cX4_count 53 = .ok (.getfield 25, 3) := by decide +kernel
theorem dX4_count_56 : decode cX4_count 56 = .ok (.getfield 245, 3) := by decide +kernel
theorem dX4_count_59 : decode cX4_count 59 = .ok (.ireturn, 1) := by decide +kernel
theorem dX4_count_60 : decode cX4_count 60 = .ok (.aload_n 0, 1) := by decide +kernel
theorem dX4_count_61 : decode cX4_count 61 = .ok (.getfield 25, 3) := by decide +kernel
theorem dX4_count_64 : decode cX4_count 64 = .ok (.getfield 198, 3) := by decide +kernel
theorem dX4_count_67 : decode cX4_count 67 = .ok (.ireturn, 1) := by decide +kernel
theorem dX4_count_68 : decode cX4_count 68 = .ok (.aload_n 0, 1) := by decide +kernel
theorem dX4_count_69 : decode cX4_count 69 = .ok (.getfield 25, 3) := by decide +kernel
theorem dX4_count_72 : decode cX4_count 72 = .ok (.getfield 146, 3) := by decide +kernel
theorem dX4_count_75 : decode cX4_count 75 = .ok (.ireturn, 1) := by decide +kernel
theorem dX4_count_76 : decode cX4_count 76 = .ok (.aload_n 0, 1) := by decide +kernel
theorem dX4_count_77 : decode cX4_count 77 = .ok (.getfield 25, 3) := by decide +kernel
theorem dX4_count_80 : decode cX4_count 80 = .ok (.getfield 248, 3) := by decide +kernel
theorem dX4_count_83 : decode cX4_count 83 = .ok (.ireturn, 1) := by decide +kernel
theorem dX4_count_84 : decode cX4_count 84 = .ok (.aload_n 0, 1) := by decide +kernel
theorem dX4_count_85 : decode cX4_count 85 = .ok (.getfield 82, 3) := by decide +kernel
theorem dX4_count_88 : decode cX4_count 88 = .ok (.ireturn, 1) := by decide +kernel
theorem dX4_count_89 : decode cX4_count 89 = .ok (.aload_n 0, 1) := by decide +kernel
theorem dX4_count_90 : decode cX4_count 90 = .ok (.getfield 71, 3) := by decide +kernel
theorem dX4_count_93 : decode cX4_count 93 = .ok (.ireturn, 1) := by decide +kernel
theorem dX4_count_94 : decode cX4_count 94 = .ok (.iconst (-1), 1) := by decide +kernel
theorem dX4_count_95 : decode cX4_count 95 = .ok (.ireturn, 1) := by decide +kernel
theorem dX4_trace_0 : decode cX4_trace 0 = .ok (.aload_n 0, 1) := by decide +kernel
theorem dX4_trace_1 : decode cX4_trace 1 = .ok (.getfield 251, 3) := by decide +kernel
theorem dX4_trace_4 : decode cX4_trace 4 = .ok (.lreturn, 1) := by decide +kernel
theorem dX4_rateAs_0 : decode cX4_rateAs 0 = .ok (.aload_n 0, 1) := by decide +kernel
theorem dX4_rateAs_1 : decode cX4_rateAs 1 = .ok (.dup, 1) := by decide +kernel
theorem dX4_rateAs_2 : decode cX4_rateAs 2 = .ok (.getfield 251, 3) := by decide +kernel
theorem dX4_rateAs_5 : decode cX4_rateAs 5 = .ok (.getstatic 255, 3) := by decide +kernel
theorem dX4_rateAs_8 : decode cX4_rateAs 8 = .ok (.iload_n 1, 1) := by decide +kernel
theorem dX4_rateAs_9 : decode cX4_rateAs 9 = .ok (.iaload, 1) := by decide +kernel
theorem dX4_rateAs_10 : decode cX4_rateAs 10 = .ok (.i2l, 1) := by decide +kernel
theorem dX4_rateAs_11 : decode cX4_rateAs 11 = .ok (.ladd, 1) := by decide +kernel
theorem dX4_rateAs_12 : decode cX4_rateAs 12 = .ok (.putfield 251, 3) := by decide +kernel
theorem dX4_rateAs_15 : decode cX4_rateAs 15 = .ok (.iload_n 1, 1) := by decide +kernel
theorem dX4_rateAs_16 : decode cX4_rateAs 16 = .ok (.ifCond .ne 16, 3) := by decide +kernel
theorem dX4_rateAs_19 : decode cX4_rateAs 19 = .ok (.aload_n 0, 1) := by decide +kernel
theorem dX4_rateAs_20 : decode cX4_rateAs 20 = .ok (.getfield 35, 3) := by decide +kernel
theorem dX4_rateAs_23 : decode cX4_rateAs 23 = .ok (.aload_n 0, 1) := by decide +kernel
theorem dX4_rateAs_24 : decode cX4_rateAs 24 = .ok (.getfield 25, 3) := by decide +kernel
theorem dX4_rateAs_27 : decode cX4_rateAs 27 = .ok (.iload_n 2, 1) := by decide +kernel
theorem dX4_rateAs_28 : decode cX4_rateAs 28 = .ok (.invokevirtual 104, 3) := by decide +kernel
theorem dX4_rateAs_31 : decode cX4_rateAs 31 = .ok (.ireturn, 1) := by decide +kernel
theorem dX4_rateAs_32 : decode cX4_rateAs 32 = .ok (.aload_n 0, 1) := by decide +kernel
theorem dX4_rateAs_33 : decode cX4_rateAs 33 = .ok (.getstatic 258, 3) := by decide +kernel
theorem dX4_rateAs_36 : decode cX4_rateAs 36 = .ok (.iload_n 1, 1) := by decide +kernel
theorem dX4_rateAs_37 : decode cX4_rateAs 37 = .ok (.iaload, 1) := by decide +kernel
theorem dX4_rateAs_38 : decode cX4_rateAs 38 = .ok (.iload_n 2, 1) := by decide +kernel
theorem dX4_rateAs_39 : decode cX4_rateAs 39 = .ok (.invokevirtual 239, 3) := by decide +kernel
theorem dX4_rateAs_42 : decode cX4_rateAs 42 = .ok (.istore_n 3, 1) := by decide +kernel
theorem dX4_rateAs_43 : decode cX4_rateAs 43 = .ok (.iload_n 1, 1) := by decide +kernel
theorem dX4_rateAs_44 : decode cX4_rateAs 44 = .ok (.tableswitch 64 1 4 #[32, 44, 56, 60], 32) := by decide +kernel
theorem dX4_rateAs_76 : decode cX4_rateAs 76 = .ok (.iload_n 3, 1) := by decide +kernel
theorem dX4_rateAs_77 : decode cX4_rateAs 77 = .ok (.aload_n 0, 1) := by decide +kernel
theorem dX4_rateAs_78 : decode cX4_rateAs 78 = .ok (.getfield 35, 3) := by decide +kernel
theorem dX4_rateAs_81 : decode cX4_rateAs 81 = .ok (.getfield 101, 3) := by decide +kernel
theorem dX4_rateAs_84 : decode cX4_rateAs 84 = .ok (.iload_n 2, 1) := by decide +kernel
theorem dX4_rateAs_85 : decode cX4_rateAs 85 = .ok (.iaload, 1) := by decide +kernel
theorem dX4_rateAs_86 : decode cX4_rateAs 86 = .ok (.iadd, 1) := by decide +kernel
theorem dX4_rateAs_87 : decode cX4_rateAs 87 = .ok (.ireturn, 1) := by decide +kernel
theorem dX4_rateAs_88 : decode cX4_rateAs 88 = .ok (.iload_n 3, 1) := by decide +kernel
theorem dX4_rateAs_89 : decode cX4_rateAs 89 = .ok (.aload_n 0, 1) := by decide +kernel
theorem dX4_rateAs_90 : decode cX4_rateAs 90 = .ok (.getfield 25, 3) := by decide +kernel
theorem dX4_rateAs_93 : decode cX4_rateAs 93 = .ok (.getfield 92, 3) := by decide +kernel
theorem dX4_rateAs_96 : decode cX4_rateAs 96 = .ok (.iload_n 2, 1) := by decide +kernel
theorem dX4_rateAs_97 : decode cX4_rateAs 97 = .ok (.iaload, 1) := by decide +kernel
theorem dX4_rateAs_98 : decode cX4_rateAs 98 = .ok (.isub, 1) := by decide +kernel
theorem dX4_rateAs_99 : decode cX4_rateAs 99 = .ok (.ireturn, 1) := by decide +kernel
theorem dX4_rateAs_100 : decode cX4_rateAs 100 = .ok (.iconst 2, 1) := by decide +kernel
theorem dX4_rateAs_101 : decode cX4_rateAs 101 = .ok (.iload_n 3, 1) := by decide +kernel
theorem dX4_rateAs_102 : decode cX4_rateAs 102 = .ok (.imul, 1) := by decide +kernel
theorem dX4_rateAs_103 : decode cX4_rateAs 103 = .ok (.ireturn, 1) := by decide +kernel
theorem dX4_rateAs_104 : decode cX4_rateAs 104 = .ok (.iload_n 3, 1) := by decide +kernel
theorem dX4_rateAs_105 : decode cX4_rateAs 105 = .ok (.iload_n 2, 1) := by decide +kernel
theorem dX4_rateAs_106 : decode cX4_rateAs 106 = .ok (.iadd, 1) := by decide +kernel
theorem dX4_rateAs_107 : decode cX4_rateAs 107 = .ok (.ireturn, 1) := by decide +kernel
theorem dX4_rateAs_108 : decode cX4_rateAs 108 = .ok (.iload_n 3, 1) := by decide +kernel
theorem dX4_rateAs_109 : decode cX4_rateAs 109 = .ok (.aload_n 0, 1) := by decide +kernel
theorem dX4_rateAs_110 : decode cX4_rateAs 110 = .ok (.getfield 35, 3) := by decide +kernel
theorem dX4_rateAs_113 : decode cX4_rateAs 113 = .ok (.aload_n 0, 1) := by decide +kernel
theorem dX4_rateAs_114 : decode cX4_rateAs 114 = .ok (.getfield 25, 3) := by decide +kernel
theorem dX4_rateAs_117 : decode cX4_rateAs 117 = .ok (.iload_n 2, 1) := by decide +kernel
theorem dX4_rateAs_118 : decode cX4_rateAs 118 = .ok (.invokevirtual 261, 3) := by decide +kernel
theorem dX4_rateAs_121 : decode cX4_rateAs 121 = .ok (.iadd, 1) := by decide +kernel
theorem dX4_rateAs_122 : decode cX4_rateAs 122 = .ok (.ireturn, 1) := by decide +kernel
