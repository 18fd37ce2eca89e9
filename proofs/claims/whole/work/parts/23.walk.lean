theorem i47_0 : ins 47 0 = some (.aload_n 0, 1, 0, 0) := by decide +kernel
theorem i47_1 : ins 47 1 = some (.getfield 20, 4, 4, 2) := by decide +kernel
theorem i47_4 : ins 47 4 = some (.aload_n 0, 5, 0, 0) := by decide +kernel
theorem i47_5 : ins 47 5 = some (.getfield 15, 8, 4, 1) := by decide +kernel
theorem i47_8 : ins 47 8 = some (.aaload, 9, 0, 0) := by decide +kernel
theorem i47_9 : ins 47 9 = some (.aload_n 1, 10, 0, 0) := by decide +kernel
theorem i47_10 : ins 47 10 = some (.invokevirtual 25, 13, 89, 0) := by decide +kernel
theorem i47_13 : ins 47 13 = some (.aload_n 0, 14, 0, 0) := by decide +kernel
theorem i47_14 : ins 47 14 = some (.aload_n 0, 15, 0, 0) := by decide +kernel
theorem i47_15 : ins 47 15 = some (.getfield 15, 18, 4, 1) := by decide +kernel
theorem i47_18 : ins 47 18 = some (.iconst (1), 19, 0, 1) := by decide +kernel
theorem i47_19 : ins 47 19 = some (.iadd, 20, 0, 0) := by decide +kernel
theorem i47_20 : ins 47 20 = some (.bipush (30), 22, 0, 30) := by decide +kernel
theorem i47_22 : ins 47 22 = some (.irem, 23, 0, 0) := by decide +kernel
theorem i47_23 : ins 47 23 = some (.putfield 15, 26, 4, 1) := by decide +kernel
theorem i47_26 : ins 47 26 = some (.aload_n 0, 27, 0, 0) := by decide +kernel
theorem i47_27 : ins 47 27 = some (.aload_n 0, 28, 0, 0) := by decide +kernel
theorem i47_28 : ins 47 28 = some (.getfield 9, 31, 4, 0) := by decide +kernel
theorem i47_31 : ins 47 31 = some (.iconst (1), 32, 0, 1) := by decide +kernel
theorem i47_32 : ins 47 32 = some (.iadd, 33, 0, 0) := by decide +kernel
theorem i47_33 : ins 47 33 = some (.bipush (30), 35, 0, 30) := by decide +kernel
theorem i47_35 : ins 47 35 = some (.invokestatic 29, 38, 2, 0) := by decide +kernel
theorem i47_38 : ins 47 38 = some (.putfield 9, 41, 4, 0) := by decide +kernel
theorem i47_41 : ins 47 41 = some (.return_, 42, 0, 0) := by decide +kernel
theorem i48_0 : ins 48 0 = some (.aload_n 0, 1, 0, 0) := by decide +kernel
theorem i48_1 : ins 48 1 = some (.getfield 9, 4, 4, 0) := by decide +kernel
theorem i48_4 : ins 48 4 = some (.ifCond .ne (5), 7, 9, 0) := by decide +kernel
theorem i48_7 : ins 48 7 = some (.iconst (0), 8, 0, 0) := by decide +kernel
theorem i48_8 : ins 48 8 = some (.ireturn, 9, 0, 0) := by decide +kernel
theorem i48_9 : ins 48 9 = some (.aload_n 0, 10, 0, 0) := by decide +kernel
theorem i48_10 : ins 48 10 = some (.aload_n 0, 11, 0, 0) := by decide +kernel
theorem i48_11 : ins 48 11 = some (.getfield 15, 14, 4, 1) := by decide +kernel
theorem i48_14 : ins 48 14 = some (.bipush (30), 16, 0, 30) := by decide +kernel
theorem i48_16 : ins 48 16 = some (.iadd, 17, 0, 0) := by decide +kernel
theorem i48_17 : ins 48 17 = some (.iconst (1), 18, 0, 1) := by decide +kernel
theorem i48_18 : ins 48 18 = some (.isub, 19, 0, 0) := by decide +kernel
theorem i48_19 : ins 48 19 = some (.bipush (30), 21, 0, 30) := by decide +kernel
theorem i48_21 : ins 48 21 = some (.irem, 22, 0, 0) := by decide +kernel
theorem i48_22 : ins 48 22 = some (.putfield 15, 25, 4, 1) := by decide +kernel
theorem i48_25 : ins 48 25 = some (.aload_n 1, 26, 0, 0) := by decide +kernel
theorem i48_26 : ins 48 26 = some (.aload_n 0, 27, 0, 0) := by decide +kernel
theorem i48_27 : ins 48 27 = some (.getfield 20, 30, 4, 2) := by decide +kernel
theorem i48_30 : ins 48 30 = some (.aload_n 0, 31, 0, 0) := by decide +kernel
theorem i48_31 : ins 48 31 = some (.getfield 15, 34, 4, 1) := by decide +kernel
theorem i48_34 : ins 48 34 = some (.aaload, 35, 0, 0) := by decide +kernel
theorem i48_35 : ins 48 35 = some (.invokevirtual 25, 38, 89, 0) := by decide +kernel
theorem i48_38 : ins 48 38 = some (.aload_n 0, 39, 0, 0) := by decide +kernel
theorem i48_39 : ins 48 39 = some (.dup, 40, 0, 0) := by decide +kernel
theorem i48_40 : ins 48 40 = some (.getfield 9, 43, 4, 0) := by decide +kernel
theorem i48_43 : ins 48 43 = some (.iconst (1), 44, 0, 1) := by decide +kernel
theorem i48_44 : ins 48 44 = some (.isub, 45, 0, 0) := by decide +kernel
theorem i48_45 : ins 48 45 = some (.putfield 9, 48, 4, 0) := by decide +kernel
theorem i48_48 : ins 48 48 = some (.iconst (1), 49, 0, 1) := by decide +kernel
theorem i48_49 : ins 48 49 = some (.ireturn, 50, 0, 0) := by decide +kernel
theorem i49_0 : ins 49 0 = some (.aload_n 0, 1, 0, 0) := by decide +kernel
theorem i49_1 : ins 49 1 = some (.invokespecial 3, 4, 1000, 0) := by decide +kernel
theorem i49_4 : ins 49 4 = some (.aload_n 0, 5, 0, 0) := by decide +kernel
theorem i49_5 : ins 49 5 = some (.bipush (6), 7, 0, 6) := by decide +kernel
theorem i49_7 : ins 49 7 = some (.newarray .int, 9, 0, 0) := by decide +kernel
theorem i49_9 : ins 49 9 = some (.putfield 9, 12, 5, 0) := by decide +kernel
theorem i49_12 : ins 49 12 = some (.aload_n 0, 13, 0, 0) := by decide +kernel
theorem i49_13 : ins 49 13 = some (.bipush (6), 15, 0, 6) := by decide +kernel
theorem i49_15 : ins 49 15 = some (.bipush (13), 17, 0, 13) := by decide +kernel
theorem i49_17 : ins 49 17 = some (.multianewarray 15 2, 21, 26, 0) := by decide +kernel
theorem i49_21 : ins 49 21 = some (.putfield 17, 24, 5, 1) := by decide +kernel
theorem i49_24 : ins 49 24 = some (.aload_n 0, 25, 0, 0) := by decide +kernel
theorem i49_25 : ins 49 25 = some (.bipush (6), 27, 0, 6) := by decide +kernel
theorem i49_27 : ins 49 27 = some (.bipush (13), 29, 0, 13) := by decide +kernel
theorem i49_29 : ins 49 29 = some (.multianewarray 15 2, 33, 26, 0) := by decide +kernel
theorem i49_33 : ins 49 33 = some (.putfield 20, 36, 5, 2) := by decide +kernel
theorem i49_36 : ins 49 36 = some (.return_, 37, 0, 0) := by decide +kernel
theorem i50_0 : ins 50 0 = some (.aload_n 1, 1, 0, 0) := by decide +kernel
theorem i50_1 : ins 50 1 = some (.getfield 23, 4, 10, 0) := by decide +kernel
theorem i50_4 : ins 50 4 = some (.ifCond .gt (5), 7, 9, 0) := by decide +kernel
theorem i50_7 : ins 50 7 = some (.iconst (0), 8, 0, 0) := by decide +kernel
theorem i50_8 : ins 50 8 = some (.ireturn, 9, 0, 0) := by decide +kernel
theorem i50_9 : ins 50 9 = some (.aload_n 1, 10, 0, 0) := by decide +kernel
theorem i50_10 : ins 50 10 = some (.getfield 23, 13, 10, 0) := by decide +kernel
theorem i50_13 : ins 50 13 = some (.iconst (1), 14, 0, 1) := by decide +kernel
theorem i50_14 : ins 50 14 = some (.isub, 15, 0, 0) := by decide +kernel
theorem i50_15 : ins 50 15 = some (.istore 5, 17, 0, 0) := by decide +kernel
theorem i50_17 : ins 50 17 = some (.iload 5, 19, 0, 0) := by decide +kernel
theorem i50_19 : ins 50 19 = some (.ifCond .lt (103), 22, 122, 0) := by decide +kernel
theorem i50_22 : ins 50 22 = some (.iconst (0), 23, 0, 0) := by decide +kernel
theorem i50_23 : ins 50 23 = some (.istore 6, 25, 0, 0) := by decide +kernel
theorem i50_25 : ins 50 25 = some (.iload 6, 27, 0, 0) := by decide +kernel
theorem i50_27 : ins 50 27 = some (.iload 4, 29, 0, 0) := by decide +kernel
theorem i50_29 : ins 50 29 = some (.if_icmp .gt (37), 32, 66, 0) := by decide +kernel
theorem i50_32 : ins 50 32 = some (.aload_n 0, 33, 0, 0) := by decide +kernel
theorem i50_33 : ins 50 33 = some (.getfield 17, 36, 5, 1) := by decide +kernel
theorem i50_36 : ins 50 36 = some (.iload 5, 38, 0, 0) := by decide +kernel
theorem i50_38 : ins 50 38 = some (.aaload, 39, 0, 0) := by decide +kernel
theorem i50_39 : ins 50 39 = some (.iload 6, 41, 0, 0) := by decide +kernel
theorem i50_41 : ins 50 41 = some (.aload_n 0, 42, 0, 0) := by decide +kernel
theorem i50_42 : ins 50 42 = some (.aload_n 1, 43, 0, 0) := by decide +kernel
theorem i50_43 : ins 50 43 = some (.aload_n 2, 44, 0, 0) := by decide +kernel
theorem i50_44 : ins 50 44 = some (.iload_n 3, 45, 0, 0) := by decide +kernel
theorem i50_45 : ins 50 45 = some (.iload 5, 47, 0, 0) := by decide +kernel
theorem i50_47 : ins 50 47 = some (.iload 6, 49, 0, 0) := by decide +kernel
theorem i50_49 : ins 50 49 = some (.aload_n 1, 50, 0, 0) := by decide +kernel
theorem i50_50 : ins 50 50 = some (.getfield 29, 53, 10, 8) := by decide +kernel
theorem i50_53 : ins 50 53 = some (.iload_n 3, 54, 0, 0) := by decide +kernel
theorem i50_54 : ins 50 54 = some (.iaload, 55, 0, 0) := by decide +kernel
theorem i50_55 : ins 50 55 = some (.imul, 56, 0, 0) := by decide +kernel
theorem i50_56 : ins 50 56 = some (.invokevirtual 32, 59, 51, 0) := by decide +kernel
theorem i50_59 : ins 50 59 = some (.iastore, 60, 0, 0) := by decide +kernel
theorem i50_60 : ins 50 60 = some (.iinc 6 (1), 63, 0, 1) := by decide +kernel
theorem i50_63 : ins 50 63 = some (.goto (-38), 66, 25, 0) := by decide +kernel
theorem i50_66 : ins 50 66 = some (.iconst (0), 67, 0, 0) := by decide +kernel
theorem i50_67 : ins 50 67 = some (.istore 6, 69, 0, 0) := by decide +kernel
theorem i50_69 : ins 50 69 = some (.iload 6, 71, 0, 0) := by decide +kernel
theorem i50_71 : ins 50 71 = some (.iload 4, 73, 0, 0) := by decide +kernel
theorem i50_73 : ins 50 73 = some (.if_icmp .gt (43), 76, 116, 0) := by decide +kernel
theorem i50_76 : ins 50 76 = some (.aload_n 0, 77, 0, 0) := by decide +kernel
theorem i50_77 : ins 50 77 = some (.getfield 20, 80, 5, 2) := by decide +kernel
theorem i50_80 : ins 50 80 = some (.iload 5, 82, 0, 0) := by decide +kernel
theorem i50_82 : ins 50 82 = some (.aaload, 83, 0, 0) := by decide +kernel
theorem i50_83 : ins 50 83 = some (.iload 6, 85, 0, 0) := by decide +kernel
theorem i50_85 : ins 50 85 = some (.aload_n 0, 86, 0, 0) := by decide +kernel
theorem i50_86 : ins 50 86 = some (.iload 5, 88, 0, 0) := by decide +kernel
theorem i50_88 : ins 50 88 = some (.aload_n 1, 89, 0, 0) := by decide +kernel
theorem i50_89 : ins 50 89 = some (.getfield 23, 92, 10, 0) := by decide +kernel
theorem i50_92 : ins 50 92 = some (.iload 6, 94, 0, 0) := by decide +kernel
theorem i50_94 : ins 50 94 = some (.aload_n 0, 95, 0, 0) := by decide +kernel
theorem i50_95 : ins 50 95 = some (.iload 5, 97, 0, 0) := by decide +kernel
theorem i50_97 : ins 50 97 = some (.aload_n 1, 98, 0, 0) := by decide +kernel
theorem i50_98 : ins 50 98 = some (.getfield 23, 101, 10, 0) := by decide +kernel
theorem i50_101 : ins 50 101 = some (.iload 6, 103, 0, 0) := by decide +kernel
theorem i50_103 : ins 50 103 = some (.invokevirtual 36, 106, 53, 0) := by decide +kernel
theorem i50_106 : ins 50 106 = some (.invokevirtual 40, 109, 52, 0) := by decide +kernel
theorem i50_109 : ins 50 109 = some (.iastore, 110, 0, 0) := by decide +kernel
theorem i50_110 : ins 50 110 = some (.iinc 6 (1), 113, 0, 1) := by decide +kernel
theorem i50_113 : ins 50 113 = some (.goto (-44), 116, 69, 0) := by decide +kernel
theorem i50_116 : ins 50 116 = some (.iinc 5 (-1), 119, 0, -1) := by decide +kernel
theorem i50_119 : ins 50 119 = some (.goto (-102), 122, 17, 0) := by decide +kernel
theorem i50_122 : ins 50 122 = some (.iload 4, 124, 0, 0) := by decide +kernel
theorem i50_124 : ins 50 124 = some (.istore 5, 126, 0, 0) := by decide +kernel
theorem i50_126 : ins 50 126 = some (.iconst (0), 127, 0, 0) := by decide +kernel
theorem i50_127 : ins 50 127 = some (.istore 6, 129, 0, 0) := by decide +kernel
theorem i50_129 : ins 50 129 = some (.iload 6, 131, 0, 0) := by decide +kernel
theorem i50_131 : ins 50 131 = some (.aload_n 1, 132, 0, 0) := by decide +kernel
theorem i50_132 : ins 50 132 = some (.getfield 23, 135, 10, 0) := by decide +kernel
theorem i50_135 : ins 50 135 = some (.if_icmp .ge (40), 138, 175, 0) := by decide +kernel
theorem i50_138 : ins 50 138 = some (.aload_n 0, 139, 0, 0) := by decide +kernel
theorem i50_139 : ins 50 139 = some (.getfield 9, 142, 5, 0) := by decide +kernel
theorem i50_142 : ins 50 142 = some (.iload 6, 144, 0, 0) := by decide +kernel
theorem i50_144 : ins 50 144 = some (.aload_n 0, 145, 0, 0) := by decide +kernel
theorem i50_145 : ins 50 145 = some (.iload 6, 147, 0, 0) := by decide +kernel
theorem i50_147 : ins 50 147 = some (.aload_n 1, 148, 0, 0) := by decide +kernel
theorem i50_148 : ins 50 148 = some (.getfield 23, 151, 10, 0) := by decide +kernel
theorem i50_151 : ins 50 151 = some (.iload 5, 153, 0, 0) := by decide +kernel
theorem i50_153 : ins 50 153 = some (.invokevirtual 36, 156, 53, 0) := by decide +kernel
theorem i50_156 : ins 50 156 = some (.iastore, 157, 0, 0) := by decide +kernel
theorem i50_157 : ins 50 157 = some (.iload 5, 159, 0, 0) := by decide +kernel
theorem i50_159 : ins 50 159 = some (.aload_n 0, 160, 0, 0) := by decide +kernel
theorem i50_160 : ins 50 160 = some (.getfield 9, 163, 5, 0) := by decide +kernel
theorem i50_163 : ins 50 163 = some (.iload 6, 165, 0, 0) := by decide +kernel
theorem i50_165 : ins 50 165 = some (.iaload, 166, 0, 0) := by decide +kernel
theorem i50_166 : ins 50 166 = some (.isub, 167, 0, 0) := by decide +kernel
theorem i50_167 : ins 50 167 = some (.istore 5, 169, 0, 0) := by decide +kernel
theorem i50_169 : ins 50 169 = some (.iinc 6 (1), 172, 0, 1) := by decide +kernel
theorem i50_172 : ins 50 172 = some (.goto (-43), 175, 129, 0) := by decide +kernel
theorem i50_175 : ins 50 175 = some (.aload_n 0, 176, 0, 0) := by decide +kernel
theorem i50_176 : ins 50 176 = some (.getfield 20, 179, 5, 2) := by decide +kernel
theorem i50_179 : ins 50 179 = some (.iconst (0), 180, 0, 0) := by decide +kernel
theorem i50_180 : ins 50 180 = some (.aaload, 181, 0, 0) := by decide +kernel
theorem i50_181 : ins 50 181 = some (.iload 4, 183, 0, 0) := by decide +kernel
theorem i50_183 : ins 50 183 = some (.iaload, 184, 0, 0) := by decide +kernel
theorem i50_184 : ins 50 184 = some (.ireturn, 185, 0, 0) := by decide +kernel
theorem i51_0 : ins 51 0 = some (.aload_n 1, 1, 0, 0) := by decide +kernel
theorem i51_1 : ins 51 1 = some (.aload_n 2, 2, 0, 0) := by decide +kernel
theorem i51_2 : ins 51 2 = some (.iload 4, 4, 0, 0) := by decide +kernel
theorem i51_4 : ins 51 4 = some (.aload_n 2, 5, 0, 0) := by decide +kernel
theorem i51_5 : ins 51 5 = some (.iload_n 3, 6, 0, 0) := by decide +kernel
theorem i51_6 : ins 51 6 = some (.iload 4, 8, 0, 0) := by decide +kernel
theorem i51_8 : ins 51 8 = some (.iload 5, 10, 0, 0) := by decide +kernel
theorem i51_10 : ins 51 10 = some (.invokevirtual 44, 13, 93, 0) := by decide +kernel
theorem i51_13 : ins 51 13 = some (.invokevirtual 49, 16, 99, 0) := by decide +kernel
theorem i51_16 : ins 51 16 = some (.iconst (0), 17, 0, 0) := by decide +kernel
theorem i51_17 : ins 51 17 = some (.istore 6, 19, 0, 0) := by decide +kernel
theorem i51_19 : ins 51 19 = some (.iconst (0), 20, 0, 0) := by decide +kernel
theorem i51_20 : ins 51 20 = some (.istore 7, 22, 0, 0) := by decide +kernel
theorem i51_22 : ins 51 22 = some (.iload 7, 24, 0, 0) := by decide +kernel
theorem i51_24 : ins 51 24 = some (.aload_n 1, 25, 0, 0) := by decide +kernel
theorem i51_25 : ins 51 25 = some (.getfield 53, 28, 10, 2) := by decide +kernel
theorem i51_28 : ins 51 28 = some (.if_icmp .ge (20), 31, 48, 0) := by decide +kernel
theorem i51_31 : ins 51 31 = some (.iload 6, 33, 0, 0) := by decide +kernel
theorem i51_33 : ins 51 33 = some (.aload_n 1, 34, 0, 0) := by decide +kernel
theorem i51_34 : ins 51 34 = some (.iload 7, 36, 0, 0) := by decide +kernel
theorem i51_36 : ins 51 36 = some (.invokevirtual 56, 39, 100, 0) := by decide +kernel
theorem i51_39 : ins 51 39 = some (.iadd, 40, 0, 0) := by decide +kernel
theorem i51_40 : ins 51 40 = some (.istore 6, 42, 0, 0) := by decide +kernel
theorem i51_42 : ins 51 42 = some (.iinc 7 (1), 45, 0, 1) := by decide +kernel
theorem i51_45 : ins 51 45 = some (.goto (-23), 48, 22, 0) := by decide +kernel
theorem i51_48 : ins 51 48 = some (.iload 6, 50, 0, 0) := by decide +kernel
theorem i51_50 : ins 51 50 = some (.ireturn, 51, 0, 0) := by decide +kernel
theorem i52_0 : ins 52 0 = some (.aload_n 0, 1, 0, 0) := by decide +kernel
theorem i52_1 : ins 52 1 = some (.getfield 17, 4, 5, 1) := by decide +kernel
theorem i52_4 : ins 52 4 = some (.iload_n 1, 5, 0, 0) := by decide +kernel
theorem i52_5 : ins 52 5 = some (.aaload, 6, 0, 0) := by decide +kernel
theorem i52_6 : ins 52 6 = some (.iload 4, 8, 0, 0) := by decide +kernel
theorem i52_8 : ins 52 8 = some (.iaload, 9, 0, 0) := by decide +kernel
theorem i52_9 : ins 52 9 = some (.iload_n 1, 10, 0, 0) := by decide +kernel
theorem i52_10 : ins 52 10 = some (.iconst (1), 11, 0, 1) := by decide +kernel
theorem i52_11 : ins 52 11 = some (.iadd, 12, 0, 0) := by decide +kernel
theorem i52_12 : ins 52 12 = some (.iload_n 2, 13, 0, 0) := by decide +kernel
theorem i52_13 : ins 52 13 = some (.if_icmp .ge (19), 16, 32, 0) := by decide +kernel
theorem i52_16 : ins 52 16 = some (.aload_n 0, 17, 0, 0) := by decide +kernel
theorem i52_17 : ins 52 17 = some (.getfield 20, 20, 5, 2) := by decide +kernel
theorem i52_20 : ins 52 20 = some (.iload_n 1, 21, 0, 0) := by decide +kernel
theorem i52_21 : ins 52 21 = some (.iconst (1), 22, 0, 1) := by decide +kernel
theorem i52_22 : ins 52 22 = some (.iadd, 23, 0, 0) := by decide +kernel
theorem i52_23 : ins 52 23 = some (.aaload, 24, 0, 0) := by decide +kernel
theorem i52_24 : ins 52 24 = some (.iload_n 3, 25, 0, 0) := by decide +kernel
theorem i52_25 : ins 52 25 = some (.iload 4, 27, 0, 0) := by decide +kernel
theorem i52_27 : ins 52 27 = some (.isub, 28, 0, 0) := by decide +kernel
theorem i52_28 : ins 52 28 = some (.iaload, 29, 0, 0) := by decide +kernel
theorem i52_29 : ins 52 29 = some (.goto (4), 32, 33, 0) := by decide +kernel
theorem i52_32 : ins 52 32 = some (.iconst (0), 33, 0, 0) := by decide +kernel
theorem i52_33 : ins 52 33 = some (.iadd, 34, 0, 0) := by decide +kernel
theorem i52_34 : ins 52 34 = some (.ireturn, 35, 0, 0) := by decide +kernel
theorem i53_0 : ins 53 0 = some (.iload_n 1, 1, 0, 0) := by decide +kernel
theorem i53_1 : ins 53 1 = some (.iconst (1), 2, 0, 1) := by decide +kernel
theorem i53_2 : ins 53 2 = some (.iadd, 3, 0, 0) := by decide +kernel
theorem i53_3 : ins 53 3 = some (.iload_n 2, 4, 0, 0) := by decide +kernel
theorem i53_4 : ins 53 4 = some (.if_icmp .lt (5), 7, 9, 0) := by decide +kernel
theorem i53_7 : ins 53 7 = some (.iload_n 3, 8, 0, 0) := by decide +kernel
theorem i53_8 : ins 53 8 = some (.ireturn, 9, 0, 0) := by decide +kernel
theorem i53_9 : ins 53 9 = some (.iload_n 3, 10, 0, 0) := by decide +kernel
theorem i53_10 : ins 53 10 = some (.istore 4, 12, 0, 0) := by decide +kernel
theorem i53_12 : ins 53 12 = some (.iload_n 3, 13, 0, 0) := by decide +kernel
theorem i53_13 : ins 53 13 = some (.iconst (1), 14, 0, 1) := by decide +kernel
theorem i53_14 : ins 53 14 = some (.isub, 15, 0, 0) := by decide +kernel
theorem i53_15 : ins 53 15 = some (.istore 5, 17, 0, 0) := by decide +kernel
theorem i53_17 : ins 53 17 = some (.iload 5, 19, 0, 0) := by decide +kernel
theorem i53_19 : ins 53 19 = some (.ifCond .lt (34), 22, 53, 0) := by decide +kernel
theorem i53_22 : ins 53 22 = some (.aload_n 0, 23, 0, 0) := by decide +kernel
theorem i53_23 : ins 53 23 = some (.iload_n 1, 24, 0, 0) := by decide +kernel
theorem i53_24 : ins 53 24 = some (.iload_n 2, 25, 0, 0) := by decide +kernel
theorem i53_25 : ins 53 25 = some (.iload_n 3, 26, 0, 0) := by decide +kernel
theorem i53_26 : ins 53 26 = some (.iload 5, 28, 0, 0) := by decide +kernel
theorem i53_28 : ins 53 28 = some (.invokevirtual 40, 31, 52, 0) := by decide +kernel
theorem i53_31 : ins 53 31 = some (.aload_n 0, 32, 0, 0) := by decide +kernel
theorem i53_32 : ins 53 32 = some (.iload_n 1, 33, 0, 0) := by decide +kernel
theorem i53_33 : ins 53 33 = some (.iload_n 2, 34, 0, 0) := by decide +kernel
theorem i53_34 : ins 53 34 = some (.iload_n 3, 35, 0, 0) := by decide +kernel
theorem i53_35 : ins 53 35 = some (.iload 4, 37, 0, 0) := by decide +kernel
theorem i53_37 : ins 53 37 = some (.invokevirtual 40, 40, 52, 0) := by decide +kernel
theorem i53_40 : ins 53 40 = some (.if_icmp .ge (7), 43, 47, 0) := by decide +kernel
theorem i53_43 : ins 53 43 = some (.iload 5, 45, 0, 0) := by decide +kernel
theorem i53_45 : ins 53 45 = some (.istore 4, 47, 0, 0) := by decide +kernel
theorem i53_47 : ins 53 47 = some (.iinc 5 (-1), 50, 0, -1) := by decide +kernel
theorem i53_50 : ins 53 50 = some (.goto (-33), 53, 17, 0) := by decide +kernel
theorem i53_53 : ins 53 53 = some (.iload 4, 55, 0, 0) := by decide +kernel
theorem i53_55 : ins 53 55 = some (.ireturn, 56, 0, 0) := by decide +kernel
theorem i54_0 : ins 54 0 = some (.aload_n 0, 1, 0, 0) := by decide +kernel
theorem i54_1 : ins 54 1 = some (.invokespecial 3, 4, 1000, 0) := by decide +kernel
theorem i54_4 : ins 54 4 = some (.aload_n 0, 5, 0, 0) := by decide +kernel
theorem i54_5 : ins 54 5 = some (.iconst (-1), 6, 0, -1) := by decide +kernel
theorem i54_6 : ins 54 6 = some (.putfield 9, 9, 6, 0) := by decide +kernel
theorem i54_9 : ins 54 9 = some (.aload_n 0, 10, 0, 0) := by decide +kernel
theorem i54_10 : ins 54 10 = some (.new 15, 13, 10, 0) := by decide +kernel
theorem i54_13 : ins 54 13 = some (.dup, 14, 0, 0) := by decide +kernel
theorem i54_14 : ins 54 14 = some (.invokespecial 17, 17, 95, 0) := by decide +kernel
theorem i54_17 : ins 54 17 = some (.putfield 18, 20, 6, 1) := by decide +kernel
theorem i54_20 : ins 54 20 = some (.aload_n 0, 21, 0, 0) := by decide +kernel
theorem i54_21 : ins 54 21 = some (.iconst (0), 22, 0, 0) := by decide +kernel
theorem i54_22 : ins 54 22 = some (.putfield 22, 25, 6, 2) := by decide +kernel
theorem i54_25 : ins 54 25 = some (.aload_n 0, 26, 0, 0) := by decide +kernel
theorem i54_26 : ins 54 26 = some (.new 25, 29, 7, 0) := by decide +kernel
theorem i54_29 : ins 54 29 = some (.dup, 30, 0, 0) := by decide +kernel
theorem i54_30 : ins 54 30 = some (.invokespecial 27, 33, 76, 0) := by decide +kernel
theorem i54_33 : ins 54 33 = some (.putfield 28, 36, 6, 3) := by decide +kernel
theorem i54_36 : ins 54 36 = some (.aload_n 0, 37, 0, 0) := by decide +kernel
theorem i54_37 : ins 54 37 = some (.bipush (15), 39, 0, 15) := by decide +kernel
theorem i54_39 : ins 54 39 = some (.newarray .long, 41, 0, 0) := by decide +kernel
theorem i54_41 : ins 54 41 = some (.putfield 32, 44, 6, 4) := by decide +kernel
theorem i54_44 : ins 54 44 = some (.aload_n 0, 45, 0, 0) := by decide +kernel
theorem i54_45 : ins 54 45 = some (.iconst (0), 46, 0, 0) := by decide +kernel
theorem i54_46 : ins 54 46 = some (.putfield 36, 49, 6, 5) := by decide +kernel
theorem i54_49 : ins 54 49 = some (.aload_n 0, 50, 0, 0) := by decide +kernel
theorem i54_50 : ins 54 50 = some (.iconst (0), 51, 0, 0) := by decide +kernel
theorem i54_51 : ins 54 51 = some (.putfield 39, 54, 6, 6) := by decide +kernel
theorem i54_54 : ins 54 54 = some (.aload_n 0, 55, 0, 0) := by decide +kernel
theorem i54_55 : ins 54 55 = some (.lconst 0, 56, 0, 0) := by decide +kernel
theorem i54_56 : ins 54 56 = some (.putfield 42, 59, 6, 7) := by decide +kernel
theorem i54_59 : ins 54 59 = some (.aload_n 0, 60, 0, 0) := by decide +kernel
theorem i54_60 : ins 54 60 = some (.iconst (0), 61, 0, 0) := by decide +kernel
theorem i54_61 : ins 54 61 = some (.putfield 46, 64, 6, 8) := by decide +kernel
theorem i54_64 : ins 54 64 = some (.aload_n 0, 65, 0, 0) := by decide +kernel
theorem i54_65 : ins 54 65 = some (.iconst (0), 66, 0, 0) := by decide +kernel
theorem i54_66 : ins 54 66 = some (.putfield 49, 69, 6, 9) := by decide +kernel
theorem i54_69 : ins 54 69 = some (.return_, 70, 0, 0) := by decide +kernel
theorem i56_0 : ins 56 0 = some (.aload_n 0, 1, 0, 0) := by decide +kernel
theorem i56_1 : ins 56 1 = some (.getfield 28, 4, 6, 3) := by decide +kernel
theorem i56_4 : ins 56 4 = some (.aload_n 1, 5, 0, 0) := by decide +kernel
theorem i56_5 : ins 56 5 = some (.iload_n 2, 6, 0, 0) := by decide +kernel
theorem i56_6 : ins 56 6 = some (.invokevirtual 88, 9, 78, 0) := by decide +kernel
theorem i56_9 : ins 56 9 = some (.aload_n 0, 10, 0, 0) := by decide +kernel
theorem i56_10 : ins 56 10 = some (.getfield 18, 13, 6, 1) := by decide +kernel
theorem i56_13 : ins 56 13 = some (.invokevirtual 91, 16, 96, 0) := by decide +kernel
theorem i56_16 : ins 56 16 = some (.iconst (0), 17, 0, 0) := by decide +kernel
theorem i56_17 : ins 56 17 = some (.istore_n 3, 18, 0, 0) := by decide +kernel
theorem i56_18 : ins 56 18 = some (.iload_n 3, 19, 0, 0) := by decide +kernel
theorem i56_19 : ins 56 19 = some (.aload_n 0, 20, 0, 0) := by decide +kernel
theorem i56_20 : ins 56 20 = some (.getfield 32, 23, 6, 4) := by decide +kernel
theorem i56_23 : ins 56 23 = some (.arraylength, 24, 0, 0) := by decide +kernel
theorem i56_24 : ins 56 24 = some (.if_icmp .ge (16), 27, 40, 0) := by decide +kernel
theorem i56_27 : ins 56 27 = some (.aload_n 0, 28, 0, 0) := by decide +kernel
theorem i56_28 : ins 56 28 = some (.getfield 32, 31, 6, 4) := by decide +kernel
theorem i56_31 : ins 56 31 = some (.iload_n 3, 32, 0, 0) := by decide +kernel
theorem i56_32 : ins 56 32 = some (.lconst 0, 33, 0, 0) := by decide +kernel
theorem i56_33 : ins 56 33 = some (.lastore, 34, 0, 0) := by decide +kernel
theorem i56_34 : ins 56 34 = some (.iinc 3 (1), 37, 0, 1) := by decide +kernel
theorem i56_37 : ins 56 37 = some (.goto (-19), 40, 18, 0) := by decide +kernel
theorem i56_40 : ins 56 40 = some (.aload_n 0, 41, 0, 0) := by decide +kernel
theorem i56_41 : ins 56 41 = some (.iconst (0), 42, 0, 0) := by decide +kernel
theorem i56_42 : ins 56 42 = some (.putfield 22, 45, 6, 2) := by decide +kernel
theorem i56_45 : ins 56 45 = some (.aload_n 0, 46, 0, 0) := by decide +kernel
theorem i56_46 : ins 56 46 = some (.iconst (-1), 47, 0, -1) := by decide +kernel
theorem i56_47 : ins 56 47 = some (.putfield 9, 50, 6, 0) := by decide +kernel
theorem i56_50 : ins 56 50 = some (.aload_n 0, 51, 0, 0) := by decide +kernel
theorem i56_51 : ins 56 51 = some (.iconst (-1), 52, 0, -1) := by decide +kernel
theorem i56_52 : ins 56 52 = some (.putfield 36, 55, 6, 5) := by decide +kernel
theorem i56_55 : ins 56 55 = some (.aload_n 0, 56, 0, 0) := by decide +kernel
theorem i56_56 : ins 56 56 = some (.invokevirtual 94, 59, 59, 0) := by decide +kernel
theorem i56_59 : ins 56 59 = some (.pop, 60, 0, 0) := by decide +kernel
theorem i56_60 : ins 56 60 = some (.return_, 61, 0, 0) := by decide +kernel
theorem i57_0 : ins 57 0 = some (.aload_n 0, 1, 0, 0) := by decide +kernel
theorem i57_1 : ins 57 1 = some (.iload_n 1, 2, 0, 0) := by decide +kernel
theorem i57_2 : ins 57 2 = some (.putfield 22, 5, 6, 2) := by decide +kernel
theorem i57_5 : ins 57 5 = some (.aload_n 0, 6, 0, 0) := by decide +kernel
theorem i57_6 : ins 57 6 = some (.aload_n 0, 7, 0, 0) := by decide +kernel
theorem i57_7 : ins 57 7 = some (.getfield 28, 10, 6, 3) := by decide +kernel
theorem i57_10 : ins 57 10 = some (.getfield 97, 13, 7, 1) := by decide +kernel
theorem i57_13 : ins 57 13 = some (.aload_n 0, 14, 0, 0) := by decide +kernel
theorem i57_14 : ins 57 14 = some (.getfield 36, 17, 6, 5) := by decide +kernel
theorem i57_17 : ins 57 17 = some (.iaload, 18, 0, 0) := by decide +kernel
theorem i57_18 : ins 57 18 = some (.putfield 9, 21, 6, 0) := by decide +kernel
theorem i57_21 : ins 57 21 = some (.iconst (0), 22, 0, 0) := by decide +kernel
theorem i57_22 : ins 57 22 = some (.ireturn, 23, 0, 0) := by decide +kernel
theorem i58_0 : ins 58 0 = some (.aload_n 0, 1, 0, 0) := by decide +kernel
theorem i58_1 : ins 58 1 = some (.getfield 22, 4, 6, 2) := by decide +kernel
theorem i58_4 : ins 58 4 = some (.ifCond .ne (24), 7, 28, 0) := by decide +kernel
theorem i58_7 : ins 58 7 = some (.aload_n 0, 8, 0, 0) := by decide +kernel
theorem i58_8 : ins 58 8 = some (.iload_n 1, 9, 0, 0) := by decide +kernel
theorem i58_9 : ins 58 9 = some (.putfield 22, 12, 6, 2) := by decide +kernel
theorem i58_12 : ins 58 12 = some (.aload_n 0, 13, 0, 0) := by decide +kernel
theorem i58_13 : ins 58 13 = some (.aload_n 0, 14, 0, 0) := by decide +kernel
theorem i58_14 : ins 58 14 = some (.getfield 28, 17, 6, 3) := by decide +kernel
theorem i58_17 : ins 58 17 = some (.getfield 97, 20, 7, 1) := by decide +kernel
theorem i58_20 : ins 58 20 = some (.aload_n 0, 21, 0, 0) := by decide +kernel
theorem i58_21 : ins 58 21 = some (.getfield 36, 24, 6, 5) := by decide +kernel
theorem i58_24 : ins 58 24 = some (.iaload, 25, 0, 0) := by decide +kernel
theorem i58_25 : ins 58 25 = some (.putfield 9, 28, 6, 0) := by decide +kernel
theorem i58_28 : ins 58 28 = some (.return_, 29, 0, 0) := by decide +kernel
theorem i59_0 : ins 59 0 = some (.aload_n 0, 1, 0, 0) := by decide +kernel
theorem i59_1 : ins 59 1 = some (.getfield 36, 4, 6, 5) := by decide +kernel
theorem i59_4 : ins 59 4 = some (.sipush (400), 7, 0, 400) := by decide +kernel
theorem i59_7 : ins 59 7 = some (.if_icmp .lt (9), 10, 16, 0) := by decide +kernel
theorem i59_10 : ins 59 10 = some (.aload_n 0, 11, 0, 0) := by decide +kernel
theorem i59_11 : ins 59 11 = some (.iconst (2), 12, 0, 2) := by decide +kernel
theorem i59_12 : ins 59 12 = some (.invokevirtual 85, 15, 57, 0) := by decide +kernel
theorem i59_15 : ins 59 15 = some (.ireturn, 16, 0, 0) := by decide +kernel
theorem i59_16 : ins 59 16 = some (.aload_n 0, 17, 0, 0) := by decide +kernel
theorem i59_17 : ins 59 17 = some (.dup, 18, 0, 0) := by decide +kernel
theorem i59_18 : ins 59 18 = some (.getfield 36, 21, 6, 5) := by decide +kernel
theorem i59_21 : ins 59 21 = some (.iconst (1), 22, 0, 1) := by decide +kernel
theorem i59_22 : ins 59 22 = some (.iadd, 23, 0, 0) := by decide +kernel
theorem i59_23 : ins 59 23 = some (.putfield 36, 26, 6, 5) := by decide +kernel
theorem i59_26 : ins 59 26 = some (.aload_n 0, 27, 0, 0) := by decide +kernel
theorem i59_27 : ins 59 27 = some (.aload_n 0, 28, 0, 0) := by decide +kernel
theorem i59_28 : ins 59 28 = some (.getfield 28, 31, 6, 3) := by decide +kernel
theorem i59_31 : ins 59 31 = some (.getfield 101, 34, 7, 0) := by decide +kernel
theorem i59_34 : ins 59 34 = some (.aload_n 0, 35, 0, 0) := by decide +kernel
theorem i59_35 : ins 59 35 = some (.getfield 36, 38, 6, 5) := by decide +kernel
theorem i59_38 : ins 59 38 = some (.iaload, 39, 0, 0) := by decide +kernel
theorem i59_39 : ins 59 39 = some (.putfield 39, 42, 6, 6) := by decide +kernel
theorem i59_42 : ins 59 42 = some (.aload_n 0, 43, 0, 0) := by decide +kernel
theorem i59_43 : ins 59 43 = some (.aload_n 0, 44, 0, 0) := by decide +kernel
theorem i59_44 : ins 59 44 = some (.getfield 28, 47, 6, 3) := by decide +kernel
theorem i59_47 : ins 59 47 = some (.getfield 104, 50, 7, 2) := by decide +kernel
theorem i59_50 : ins 59 50 = some (.aload_n 0, 51, 0, 0) := by decide +kernel
theorem i59_51 : ins 59 51 = some (.getfield 36, 54, 6, 5) := by decide +kernel
theorem i59_54 : ins 59 54 = some (.laload, 55, 0, 0) := by decide +kernel
theorem i59_55 : ins 59 55 = some (.putfield 42, 58, 6, 7) := by decide +kernel
theorem i59_58 : ins 59 58 = some (.iconst (1), 59, 0, 1) := by decide +kernel
theorem i59_59 : ins 59 59 = some (.ireturn, 60, 0, 0) := by decide +kernel
theorem i60_0 : ins 60 0 = some (.aload_n 0, 1, 0, 0) := by decide +kernel
theorem i60_1 : ins 60 1 = some (.getfield 39, 4, 6, 6) := by decide +kernel
theorem i60_4 : ins 60 4 = some (.iload_n 1, 5, 0, 0) := by decide +kernel
theorem i60_5 : ins 60 5 = some (.if_icmp .ne (10), 8, 15, 0) := by decide +kernel
theorem i60_8 : ins 60 8 = some (.aload_n 0, 9, 0, 0) := by decide +kernel
theorem i60_9 : ins 60 9 = some (.invokevirtual 94, 12, 59, 0) := by decide +kernel
theorem i60_12 : ins 60 12 = some (.goto (8), 15, 20, 0) := by decide +kernel
theorem i60_15 : ins 60 15 = some (.aload_n 0, 16, 0, 0) := by decide +kernel
theorem i60_16 : ins 60 16 = some (.iconst (1), 17, 0, 1) := by decide +kernel
theorem i60_17 : ins 60 17 = some (.invokevirtual 85, 20, 57, 0) := by decide +kernel
theorem i60_20 : ins 60 20 = some (.ireturn, 21, 0, 0) := by decide +kernel
theorem i61_0 : ins 61 0 = some (.aload_n 0, 1, 0, 0) := by decide +kernel
theorem i61_1 : ins 61 1 = some (.getfield 18, 4, 6, 1) := by decide +kernel
theorem i61_4 : ins 61 4 = some (.getfield 107, 7, 10, 0) := by decide +kernel
theorem i61_7 : ins 61 7 = some (.istore_n 1, 8, 0, 0) := by decide +kernel
theorem i61_8 : ins 61 8 = some (.iload_n 1, 9, 0, 0) := by decide +kernel
theorem i61_9 : ins 61 9 = some (.bipush (6), 11, 0, 6) := by decide +kernel
theorem i61_11 : ins 61 11 = some (.if_icmp .lt (9), 14, 20, 0) := by decide +kernel
theorem i61_14 : ins 61 14 = some (.aload_n 0, 15, 0, 0) := by decide +kernel
theorem i61_15 : ins 61 15 = some (.iconst (2), 16, 0, 2) := by decide +kernel
theorem i61_16 : ins 61 16 = some (.invokevirtual 85, 19, 57, 0) := by decide +kernel
theorem i61_19 : ins 61 19 = some (.ireturn, 20, 0, 0) := by decide +kernel
theorem i61_20 : ins 61 20 = some (.aload_n 0, 21, 0, 0) := by decide +kernel
theorem i61_21 : ins 61 21 = some (.getfield 18, 24, 6, 1) := by decide +kernel
theorem i61_24 : ins 61 24 = some (.dup, 25, 0, 0) := by decide +kernel
theorem i61_25 : ins 61 25 = some (.getfield 107, 28, 10, 0) := by decide +kernel
theorem i61_28 : ins 61 28 = some (.iconst (1), 29, 0, 1) := by decide +kernel
theorem i61_29 : ins 61 29 = some (.iadd, 30, 0, 0) := by decide +kernel
theorem i61_30 : ins 61 30 = some (.putfield 107, 33, 10, 0) := by decide +kernel
theorem i61_33 : ins 61 33 = some (.aload_n 0, 34, 0, 0) := by decide +kernel
theorem i61_34 : ins 61 34 = some (.invokevirtual 94, 37, 59, 0) := by decide +kernel
theorem i61_37 : ins 61 37 = some (.ifCond .eq (20), 40, 57, 0) := by decide +kernel
theorem i61_40 : ins 61 40 = some (.aload_n 0, 41, 0, 0) := by decide +kernel
theorem i61_41 : ins 61 41 = some (.iload_n 1, 42, 0, 0) := by decide +kernel
theorem i61_42 : ins 61 42 = some (.invokevirtual 110, 45, 70, 0) := by decide +kernel
theorem i61_45 : ins 61 45 = some (.ifCond .eq (12), 48, 57, 0) := by decide +kernel
theorem i61_48 : ins 61 48 = some (.aload_n 0, 49, 0, 0) := by decide +kernel
theorem i61_49 : ins 61 49 = some (.bipush (99), 51, 0, 99) := by decide +kernel
theorem i61_51 : ins 61 51 = some (.invokevirtual 113, 54, 71, 0) := by decide +kernel
theorem i61_54 : ins 61 54 = some (.ifCond .ne (5), 57, 59, 0) := by decide +kernel
theorem i61_57 : ins 61 57 = some (.iconst (0), 58, 0, 0) := by decide +kernel
theorem i61_58 : ins 61 58 = some (.ireturn, 59, 0, 0) := by decide +kernel
theorem i61_59 : ins 61 59 = some (.aload_n 0, 60, 0, 0) := by decide +kernel
theorem i61_60 : ins 61 60 = some (.getfield 18, 63, 6, 1) := by decide +kernel
theorem i61_63 : ins 61 63 = some (.getfield 116, 66, 10, 7) := by decide +kernel
theorem i61_66 : ins 61 66 = some (.iload_n 1, 67, 0, 0) := by decide +kernel
theorem i61_67 : ins 61 67 = some (.aload_n 0, 68, 0, 0) := by decide +kernel
theorem i61_68 : ins 61 68 = some (.getfield 46, 71, 6, 8) := by decide +kernel
theorem i61_71 : ins 61 71 = some (.iastore, 72, 0, 0) := by decide +kernel
theorem i61_72 : ins 61 72 = some (.iconst (1), 73, 0, 1) := by decide +kernel
theorem i61_73 : ins 61 73 = some (.ireturn, 74, 0, 0) := by decide +kernel
theorem i62_0 : ins 62 0 = some (.aload_n 0, 1, 0, 0) := by decide +kernel
theorem i62_1 : ins 62 1 = some (.getfield 18, 4, 6, 1) := by decide +kernel
theorem i62_4 : ins 62 4 = some (.getfield 119, 7, 10, 1) := by decide +kernel
theorem i62_7 : ins 62 7 = some (.istore_n 1, 8, 0, 0) := by decide +kernel
theorem i62_8 : ins 62 8 = some (.iload_n 1, 9, 0, 0) := by decide +kernel
theorem i62_9 : ins 62 9 = some (.bipush (6), 11, 0, 6) := by decide +kernel
theorem i62_11 : ins 62 11 = some (.if_icmp .lt (9), 14, 20, 0) := by decide +kernel
theorem i62_14 : ins 62 14 = some (.aload_n 0, 15, 0, 0) := by decide +kernel
theorem i62_15 : ins 62 15 = some (.iconst (2), 16, 0, 2) := by decide +kernel
theorem i62_16 : ins 62 16 = some (.invokevirtual 85, 19, 57, 0) := by decide +kernel
theorem i62_19 : ins 62 19 = some (.ireturn, 20, 0, 0) := by decide +kernel
theorem i62_20 : ins 62 20 = some (.aload_n 0, 21, 0, 0) := by decide +kernel
theorem i62_21 : ins 62 21 = some (.getfield 18, 24, 6, 1) := by decide +kernel
theorem i62_24 : ins 62 24 = some (.dup, 25, 0, 0) := by decide +kernel
theorem i62_25 : ins 62 25 = some (.getfield 119, 28, 10, 1) := by decide +kernel
theorem i62_28 : ins 62 28 = some (.iconst (1), 29, 0, 1) := by decide +kernel
theorem i62_29 : ins 62 29 = some (.iadd, 30, 0, 0) := by decide +kernel
theorem i62_30 : ins 62 30 = some (.putfield 119, 33, 10, 1) := by decide +kernel
theorem i62_33 : ins 62 33 = some (.aload_n 0, 34, 0, 0) := by decide +kernel
theorem i62_34 : ins 62 34 = some (.invokevirtual 94, 37, 59, 0) := by decide +kernel
theorem i62_37 : ins 62 37 = some (.ifCond .eq (23), 40, 60, 0) := by decide +kernel
theorem i62_40 : ins 62 40 = some (.aload_n 0, 41, 0, 0) := by decide +kernel
theorem i62_41 : ins 62 41 = some (.bipush (6), 43, 0, 6) := by decide +kernel
theorem i62_43 : ins 62 43 = some (.iload_n 1, 44, 0, 0) := by decide +kernel
theorem i62_44 : ins 62 44 = some (.iadd, 45, 0, 0) := by decide +kernel
theorem i62_45 : ins 62 45 = some (.invokevirtual 110, 48, 70, 0) := by decide +kernel
theorem i62_48 : ins 62 48 = some (.ifCond .eq (12), 51, 60, 0) := by decide +kernel
theorem i62_51 : ins 62 51 = some (.aload_n 0, 52, 0, 0) := by decide +kernel
theorem i62_52 : ins 62 52 = some (.bipush (99), 54, 0, 99) := by decide +kernel
theorem i62_54 : ins 62 54 = some (.invokevirtual 113, 57, 71, 0) := by decide +kernel
theorem i62_57 : ins 62 57 = some (.ifCond .ne (5), 60, 62, 0) := by decide +kernel
theorem i62_60 : ins 62 60 = some (.iconst (0), 61, 0, 0) := by decide +kernel
theorem i62_61 : ins 62 61 = some (.ireturn, 62, 0, 0) := by decide +kernel
theorem i62_62 : ins 62 62 = some (.aload_n 0, 63, 0, 0) := by decide +kernel
theorem i62_63 : ins 62 63 = some (.getfield 18, 66, 6, 1) := by decide +kernel
theorem i62_66 : ins 62 66 = some (.getfield 122, 69, 10, 8) := by decide +kernel
theorem i62_69 : ins 62 69 = some (.iload_n 1, 70, 0, 0) := by decide +kernel
theorem i62_70 : ins 62 70 = some (.aload_n 0, 71, 0, 0) := by decide +kernel
theorem i62_71 : ins 62 71 = some (.getfield 46, 74, 6, 8) := by decide +kernel
theorem i62_74 : ins 62 74 = some (.iastore, 75, 0, 0) := by decide +kernel
theorem i62_75 : ins 62 75 = some (.aload_n 0, 76, 0, 0) := by decide +kernel
theorem i62_76 : ins 62 76 = some (.bipush (9), 78, 0, 9) := by decide +kernel
theorem i62_78 : ins 62 78 = some (.invokevirtual 113, 81, 71, 0) := by decide +kernel
theorem i62_81 : ins 62 81 = some (.ifCond .ne (5), 84, 86, 0) := by decide +kernel
theorem i62_84 : ins 62 84 = some (.iconst (0), 85, 0, 0) := by decide +kernel
theorem i62_85 : ins 62 85 = some (.ireturn, 86, 0, 0) := by decide +kernel
theorem i62_86 : ins 62 86 = some (.aload_n 0, 87, 0, 0) := by decide +kernel
theorem i62_87 : ins 62 87 = some (.getfield 18, 90, 6, 1) := by decide +kernel
theorem i62_90 : ins 62 90 = some (.getfield 125, 93, 10, 9) := by decide +kernel
theorem i62_93 : ins 62 93 = some (.iload_n 1, 94, 0, 0) := by decide +kernel
theorem i62_94 : ins 62 94 = some (.aload_n 0, 95, 0, 0) := by decide +kernel
theorem i62_95 : ins 62 95 = some (.getfield 46, 98, 6, 8) := by decide +kernel
theorem i62_98 : ins 62 98 = some (.iastore, 99, 0, 0) := by decide +kernel
theorem i62_99 : ins 62 99 = some (.iconst (0), 100, 0, 0) := by decide +kernel
theorem i62_100 : ins 62 100 = some (.istore_n 2, 101, 0, 0) := by decide +kernel
theorem i62_101 : ins 62 101 = some (.iload_n 2, 102, 0, 0) := by decide +kernel
theorem i62_102 : ins 62 102 = some (.bipush (6), 104, 0, 6) := by decide +kernel
theorem i62_104 : ins 62 104 = some (.if_icmp .ge (46), 107, 150, 0) := by decide +kernel
theorem i62_107 : ins 62 107 = some (.aload_n 0, 108, 0, 0) := by decide +kernel
theorem i62_108 : ins 62 108 = some (.getfield 39, 111, 6, 6) := by decide +kernel
theorem i62_111 : ins 62 111 = some (.iconst (3), 112, 0, 3) := by decide +kernel
theorem i62_112 : ins 62 112 = some (.if_icmp .ne (38), 115, 150, 0) := by decide +kernel
theorem i62_115 : ins 62 115 = some (.aload_n 0, 116, 0, 0) := by decide +kernel
theorem i62_116 : ins 62 116 = some (.bipush (99), 118, 0, 99) := by decide +kernel
theorem i62_118 : ins 62 118 = some (.invokevirtual 113, 121, 71, 0) := by decide +kernel
theorem i62_121 : ins 62 121 = some (.ifCond .ne (5), 124, 126, 0) := by decide +kernel
theorem i62_124 : ins 62 124 = some (.iconst (0), 125, 0, 0) := by decide +kernel
theorem i62_125 : ins 62 125 = some (.ireturn, 126, 0, 0) := by decide +kernel
theorem i62_126 : ins 62 126 = some (.aload_n 0, 127, 0, 0) := by decide +kernel
theorem i62_127 : ins 62 127 = some (.getfield 18, 130, 6, 1) := by decide +kernel
theorem i62_130 : ins 62 130 = some (.getfield 128, 133, 10, 10) := by decide +kernel
theorem i62_133 : ins 62 133 = some (.iload_n 1, 134, 0, 0) := by decide +kernel
theorem i62_134 : ins 62 134 = some (.bipush (6), 136, 0, 6) := by decide +kernel
theorem i62_136 : ins 62 136 = some (.imul, 137, 0, 0) := by decide +kernel
theorem i62_137 : ins 62 137 = some (.iload_n 2, 138, 0, 0) := by decide +kernel
theorem i62_138 : ins 62 138 = some (.iadd, 139, 0, 0) := by decide +kernel
theorem i62_139 : ins 62 139 = some (.aload_n 0, 140, 0, 0) := by decide +kernel
theorem i62_140 : ins 62 140 = some (.getfield 46, 143, 6, 8) := by decide +kernel
theorem i62_143 : ins 62 143 = some (.iastore, 144, 0, 0) := by decide +kernel
theorem i62_144 : ins 62 144 = some (.iinc 2 (1), 147, 0, 1) := by decide +kernel
theorem i62_147 : ins 62 147 = some (.goto (-46), 150, 101, 0) := by decide +kernel
theorem i62_150 : ins 62 150 = some (.aload_n 0, 151, 0, 0) := by decide +kernel
theorem i62_151 : ins 62 151 = some (.getfield 39, 154, 6, 6) := by decide +kernel
theorem i62_154 : ins 62 154 = some (.iconst (3), 155, 0, 3) := by decide +kernel
theorem i62_155 : ins 62 155 = some (.if_icmp .ne (11), 158, 166, 0) := by decide +kernel
theorem i62_158 : ins 62 158 = some (.aload_n 0, 159, 0, 0) := by decide +kernel
theorem i62_159 : ins 62 159 = some (.iconst (2), 160, 0, 2) := by decide +kernel
theorem i62_160 : ins 62 160 = some (.invokevirtual 85, 163, 57, 0) := by decide +kernel
theorem i62_163 : ins 62 163 = some (.goto (4), 166, 167, 0) := by decide +kernel
theorem i62_166 : ins 62 166 = some (.iconst (1), 167, 0, 1) := by decide +kernel
theorem i62_167 : ins 62 167 = some (.ireturn, 168, 0, 0) := by decide +kernel
theorem i70_0 : ins 70 0 = some (.aload_n 0, 1, 0, 0) := by decide +kernel
theorem i70_1 : ins 70 1 = some (.getfield 39, 4, 6, 6) := by decide +kernel
theorem i70_4 : ins 70 4 = some (.iconst (2), 5, 0, 2) := by decide +kernel
theorem i70_5 : ins 70 5 = some (.if_icmp .ne (49), 8, 54, 0) := by decide +kernel
theorem i70_8 : ins 70 8 = some (.iconst (0), 9, 0, 0) := by decide +kernel
theorem i70_9 : ins 70 9 = some (.istore_n 2, 10, 0, 0) := by decide +kernel
theorem i70_10 : ins 70 10 = some (.iload_n 2, 11, 0, 0) := by decide +kernel
theorem i70_11 : ins 70 11 = some (.aload_n 0, 12, 0, 0) := by decide +kernel
theorem i70_12 : ins 70 12 = some (.getfield 32, 15, 6, 4) := by decide +kernel
theorem i70_15 : ins 70 15 = some (.arraylength, 16, 0, 0) := by decide +kernel
theorem i70_16 : ins 70 16 = some (.if_icmp .ge (28), 19, 44, 0) := by decide +kernel
theorem i70_19 : ins 70 19 = some (.aload_n 0, 20, 0, 0) := by decide +kernel
theorem i70_20 : ins 70 20 = some (.getfield 32, 23, 6, 4) := by decide +kernel
theorem i70_23 : ins 70 23 = some (.iload_n 2, 24, 0, 0) := by decide +kernel
theorem i70_24 : ins 70 24 = some (.laload, 25, 0, 0) := by decide +kernel
theorem i70_25 : ins 70 25 = some (.aload_n 0, 26, 0, 0) := by decide +kernel
theorem i70_26 : ins 70 26 = some (.getfield 42, 29, 6, 7) := by decide +kernel
theorem i70_29 : ins 70 29 = some (.lcmp, 30, 0, 0) := by decide +kernel
theorem i70_30 : ins 70 30 = some (.ifCond .ne (8), 33, 38, 0) := by decide +kernel
theorem i70_33 : ins 70 33 = some (.aload_n 0, 34, 0, 0) := by decide +kernel
theorem i70_34 : ins 70 34 = some (.iconst (3), 35, 0, 3) := by decide +kernel
theorem i70_35 : ins 70 35 = some (.invokevirtual 144, 38, 58, 0) := by decide +kernel
theorem i70_38 : ins 70 38 = some (.iinc 2 (1), 41, 0, 1) := by decide +kernel
theorem i70_41 : ins 70 41 = some (.goto (-31), 44, 10, 0) := by decide +kernel
theorem i70_44 : ins 70 44 = some (.aload_n 0, 45, 0, 0) := by decide +kernel
theorem i70_45 : ins 70 45 = some (.getfield 32, 48, 6, 4) := by decide +kernel
theorem i70_48 : ins 70 48 = some (.iload_n 1, 49, 0, 0) := by decide +kernel
theorem i70_49 : ins 70 49 = some (.aload_n 0, 50, 0, 0) := by decide +kernel
theorem i70_50 : ins 70 50 = some (.getfield 42, 53, 6, 7) := by decide +kernel
theorem i70_53 : ins 70 53 = some (.lastore, 54, 0, 0) := by decide +kernel
theorem i70_54 : ins 70 54 = some (.aload_n 0, 55, 0, 0) := by decide +kernel
theorem i70_55 : ins 70 55 = some (.iconst (2), 56, 0, 2) := by decide +kernel
theorem i70_56 : ins 70 56 = some (.invokevirtual 60, 59, 60, 0) := by decide +kernel
theorem i70_59 : ins 70 59 = some (.ireturn, 60, 0, 0) := by decide +kernel
theorem i71_0 : ins 71 0 = some (.aload_n 0, 1, 0, 0) := by decide +kernel
theorem i71_1 : ins 71 1 = some (.getfield 39, 4, 6, 6) := by decide +kernel
theorem i71_4 : ins 71 4 = some (.iconst (3), 5, 0, 3) := by decide +kernel
theorem i71_5 : ins 71 5 = some (.if_icmp .ne (18), 8, 23, 0) := by decide +kernel
theorem i71_8 : ins 71 8 = some (.aload_n 0, 9, 0, 0) := by decide +kernel
theorem i71_9 : ins 71 9 = some (.getfield 42, 12, 6, 7) := by decide +kernel
theorem i71_12 : ins 71 12 = some (.iload_n 1, 13, 0, 0) := by decide +kernel
theorem i71_13 : ins 71 13 = some (.i2l, 14, 0, 0) := by decide +kernel
theorem i71_14 : ins 71 14 = some (.lcmp, 15, 0, 0) := by decide +kernel
theorem i71_15 : ins 71 15 = some (.ifCond .le (8), 18, 23, 0) := by decide +kernel
theorem i71_18 : ins 71 18 = some (.aload_n 0, 19, 0, 0) := by decide +kernel
theorem i71_19 : ins 71 19 = some (.iconst (5), 20, 0, 5) := by decide +kernel
theorem i71_20 : ins 71 20 = some (.invokevirtual 144, 23, 58, 0) := by decide +kernel
theorem i71_23 : ins 71 23 = some (.aload_n 0, 24, 0, 0) := by decide +kernel
theorem i71_24 : ins 71 24 = some (.aload_n 0, 25, 0, 0) := by decide +kernel
theorem i71_25 : ins 71 25 = some (.getfield 42, 28, 6, 7) := by decide +kernel
theorem i71_28 : ins 71 28 = some (.l2i, 29, 0, 0) := by decide +kernel
theorem i71_29 : ins 71 29 = some (.putfield 46, 32, 6, 8) := by decide +kernel
theorem i71_32 : ins 71 32 = some (.aload_n 0, 33, 0, 0) := by decide +kernel
theorem i71_33 : ins 71 33 = some (.iconst (3), 34, 0, 3) := by decide +kernel
theorem i71_34 : ins 71 34 = some (.invokevirtual 60, 37, 60, 0) := by decide +kernel
theorem i71_37 : ins 71 37 = some (.ireturn, 38, 0, 0) := by decide +kernel
theorem i72_0 : ins 72 0 = some (.aload_n 0, 1, 0, 0) := by decide +kernel
theorem i72_1 : ins 72 1 = some (.getfield 18, 4, 6, 1) := by decide +kernel
theorem i72_4 : ins 72 4 = some (.getfield 163, 7, 10, 13) := by decide +kernel
theorem i72_7 : ins 72 7 = some (.astore_n 1, 8, 0, 0) := by decide +kernel
theorem i72_8 : ins 72 8 = some (.aload_n 0, 9, 0, 0) := by decide +kernel
theorem i72_9 : ins 72 9 = some (.aload_n 1, 10, 0, 0) := by decide +kernel
theorem i72_10 : ins 72 10 = some (.getfield 167, 13, 2, 0) := by decide +kernel
theorem i72_13 : ins 72 13 = some (.putfield 49, 16, 6, 9) := by decide +kernel
theorem i72_16 : ins 72 16 = some (.aload_n 0, 17, 0, 0) := by decide +kernel
theorem i72_17 : ins 72 17 = some (.bipush (61), 19, 0, 61) := by decide +kernel
theorem i72_19 : ins 72 19 = some (.invokevirtual 60, 22, 60, 0) := by decide +kernel
theorem i72_22 : ins 72 22 = some (.ifCond .ne (5), 25, 27, 0) := by decide +kernel
theorem i72_25 : ins 72 25 = some (.iconst (0), 26, 0, 0) := by decide +kernel
theorem i72_26 : ins 72 26 = some (.ireturn, 27, 0, 0) := by decide +kernel
theorem i72_27 : ins 72 27 = some (.iconst (0), 28, 0, 0) := by decide +kernel
theorem i72_28 : ins 72 28 = some (.istore_n 2, 29, 0, 0) := by decide +kernel
theorem i72_29 : ins 72 29 = some (.iload_n 2, 30, 0, 0) := by decide +kernel
theorem i72_30 : ins 72 30 = some (.iconst (4), 31, 0, 4) := by decide +kernel
theorem i72_31 : ins 72 31 = some (.if_icmp .gt (116), 34, 147, 0) := by decide +kernel
theorem i72_34 : ins 72 34 = some (.aload_n 0, 35, 0, 0) := by decide +kernel
theorem i72_35 : ins 72 35 = some (.getfield 39, 38, 6, 6) := by decide +kernel
theorem i72_38 : ins 72 38 = some (.sipush (264), 41, 0, 264) := by decide +kernel
theorem i72_41 : ins 72 41 = some (.if_icmp .ne (106), 44, 147, 0) := by decide +kernel
theorem i72_44 : ins 72 44 = some (.iload_n 2, 45, 0, 0) := by decide +kernel
theorem i72_45 : ins 72 45 = some (.iconst (4), 46, 0, 4) := by decide +kernel
theorem i72_46 : ins 72 46 = some (.if_icmp .ne (9), 49, 55, 0) := by decide +kernel
theorem i72_49 : ins 72 49 = some (.aload_n 0, 50, 0, 0) := by decide +kernel
theorem i72_50 : ins 72 50 = some (.iconst (2), 51, 0, 2) := by decide +kernel
theorem i72_51 : ins 72 51 = some (.invokevirtual 85, 54, 57, 0) := by decide +kernel
theorem i72_54 : ins 72 54 = some (.ireturn, 55, 0, 0) := by decide +kernel
theorem i72_55 : ins 72 55 = some (.aload_n 0, 56, 0, 0) := by decide +kernel
theorem i72_56 : ins 72 56 = some (.invokevirtual 94, 59, 59, 0) := by decide +kernel
theorem i72_59 : ins 72 59 = some (.ifCond .eq (38), 62, 97, 0) := by decide +kernel
theorem i72_62 : ins 72 62 = some (.aload_n 0, 63, 0, 0) := by decide +kernel
theorem i72_63 : ins 72 63 = some (.iconst (0), 64, 0, 0) := by decide +kernel
theorem i72_64 : ins 72 64 = some (.invokevirtual 172, 67, 73, 0) := by decide +kernel
theorem i72_67 : ins 72 67 = some (.ifCond .eq (30), 70, 97, 0) := by decide +kernel
theorem i72_70 : ins 72 70 = some (.aload_n 0, 71, 0, 0) := by decide +kernel
theorem i72_71 : ins 72 71 = some (.bipush (60), 73, 0, 60) := by decide +kernel
theorem i72_73 : ins 72 73 = some (.invokevirtual 60, 76, 60, 0) := by decide +kernel
theorem i72_76 : ins 72 76 = some (.ifCond .eq (21), 79, 97, 0) := by decide +kernel
theorem i72_79 : ins 72 79 = some (.aload_n 0, 80, 0, 0) := by decide +kernel
theorem i72_80 : ins 72 80 = some (.iconst (0), 81, 0, 0) := by decide +kernel
theorem i72_81 : ins 72 81 = some (.invokevirtual 172, 84, 73, 0) := by decide +kernel
theorem i72_84 : ins 72 84 = some (.ifCond .eq (13), 87, 97, 0) := by decide +kernel
theorem i72_87 : ins 72 87 = some (.aload_n 0, 88, 0, 0) := by decide +kernel
theorem i72_88 : ins 72 88 = some (.sipush (265), 91, 0, 265) := by decide +kernel
theorem i72_91 : ins 72 91 = some (.invokevirtual 60, 94, 60, 0) := by decide +kernel
theorem i72_94 : ins 72 94 = some (.ifCond .ne (5), 97, 99, 0) := by decide +kernel
theorem i72_97 : ins 72 97 = some (.iconst (0), 98, 0, 0) := by decide +kernel
theorem i72_98 : ins 72 98 = some (.ireturn, 99, 0, 0) := by decide +kernel
theorem i72_99 : ins 72 99 = some (.aload_n 1, 100, 0, 0) := by decide +kernel
theorem i72_100 : ins 72 100 = some (.getfield 167, 103, 2, 0) := by decide +kernel
theorem i72_103 : ins 72 103 = some (.istore_n 3, 104, 0, 0) := by decide +kernel
theorem i72_104 : ins 72 104 = some (.aload_n 1, 105, 0, 0) := by decide +kernel
theorem i72_105 : ins 72 105 = some (.iconst (3), 106, 0, 3) := by decide +kernel
theorem i72_106 : ins 72 106 = some (.iconst (0), 107, 0, 0) := by decide +kernel
theorem i72_107 : ins 72 107 = some (.invokevirtual 175, 110, 37, 0) := by decide +kernel
theorem i72_110 : ins 72 110 = some (.aload_n 0, 111, 0, 0) := by decide +kernel
theorem i72_111 : ins 72 111 = some (.iconst (0), 112, 0, 0) := by decide +kernel
theorem i72_112 : ins 72 112 = some (.invokevirtual 172, 115, 73, 0) := by decide +kernel
theorem i72_115 : ins 72 115 = some (.ifCond .eq (13), 118, 128, 0) := by decide +kernel
theorem i72_118 : ins 72 118 = some (.aload_n 0, 119, 0, 0) := by decide +kernel
theorem i72_119 : ins 72 119 = some (.sipush (266), 122, 0, 266) := by decide +kernel
theorem i72_122 : ins 72 122 = some (.invokevirtual 60, 125, 60, 0) := by decide +kernel
theorem i72_125 : ins 72 125 = some (.ifCond .ne (5), 128, 130, 0) := by decide +kernel
theorem i72_128 : ins 72 128 = some (.iconst (0), 129, 0, 0) := by decide +kernel
theorem i72_129 : ins 72 129 = some (.ireturn, 130, 0, 0) := by decide +kernel
theorem i72_130 : ins 72 130 = some (.aload_n 1, 131, 0, 0) := by decide +kernel
theorem i72_131 : ins 72 131 = some (.iconst (4), 132, 0, 4) := by decide +kernel
theorem i72_132 : ins 72 132 = some (.iconst (0), 133, 0, 0) := by decide +kernel
theorem i72_133 : ins 72 133 = some (.invokevirtual 175, 136, 37, 0) := by decide +kernel
theorem i72_136 : ins 72 136 = some (.aload_n 1, 137, 0, 0) := by decide +kernel
theorem i72_137 : ins 72 137 = some (.iload_n 3, 138, 0, 0) := by decide +kernel
theorem i72_138 : ins 72 138 = some (.invokevirtual 179, 141, 38, 0) := by decide +kernel
theorem i72_141 : ins 72 141 = some (.iinc 2 (1), 144, 0, 1) := by decide +kernel
theorem i72_144 : ins 72 144 = some (.goto (-115), 147, 29, 0) := by decide +kernel
theorem i72_147 : ins 72 147 = some (.aload_n 0, 148, 0, 0) := by decide +kernel
theorem i72_148 : ins 72 148 = some (.iconst (0), 149, 0, 0) := by decide +kernel
theorem i72_149 : ins 72 149 = some (.invokevirtual 172, 152, 73, 0) := by decide +kernel
theorem i72_152 : ins 72 152 = some (.ifCond .ne (5), 155, 157, 0) := by decide +kernel
theorem i72_155 : ins 72 155 = some (.iconst (0), 156, 0, 0) := by decide +kernel
theorem i72_156 : ins 72 156 = some (.ireturn, 157, 0, 0) := by decide +kernel
theorem i72_157 : ins 72 157 = some (.aload_n 1, 158, 0, 0) := by decide +kernel
theorem i72_158 : ins 72 158 = some (.iconst (4), 159, 0, 4) := by decide +kernel
theorem i72_159 : ins 72 159 = some (.iconst (0), 160, 0, 0) := by decide +kernel
theorem i72_160 : ins 72 160 = some (.invokevirtual 175, 163, 37, 0) := by decide +kernel
theorem i72_163 : ins 72 163 = some (.iconst (1), 164, 0, 1) := by decide +kernel
theorem i72_164 : ins 72 164 = some (.ireturn, 165, 0, 0) := by decide +kernel
theorem i73_0 : ins 73 0 = some (.aload_n 0, 1, 0, 0) := by decide +kernel
theorem i73_1 : ins 73 1 = some (.iload_n 1, 2, 0, 0) := by decide +kernel
theorem i73_2 : ins 73 2 = some (.invokevirtual 182, 5, 74, 0) := by decide +kernel
theorem i73_5 : ins 73 5 = some (.ifCond .ne (5), 8, 10, 0) := by decide +kernel
theorem i73_8 : ins 73 8 = some (.iconst (0), 9, 0, 0) := by decide +kernel
theorem i73_9 : ins 73 9 = some (.ireturn, 10, 0, 0) := by decide +kernel
theorem i73_10 : ins 73 10 = some (.iconst (0), 11, 0, 0) := by decide +kernel
theorem i73_11 : ins 73 11 = some (.istore_n 2, 12, 0, 0) := by decide +kernel
theorem i73_12 : ins 73 12 = some (.iload_n 2, 13, 0, 0) := by decide +kernel
theorem i73_13 : ins 73 13 = some (.sipush (400), 16, 0, 400) := by decide +kernel
theorem i73_16 : ins 73 16 = some (.if_icmp .gt (61), 19, 77, 0) := by decide +kernel
theorem i73_19 : ins 73 19 = some (.aload_n 0, 20, 0, 0) := by decide +kernel
theorem i73_20 : ins 73 20 = some (.getfield 39, 23, 6, 6) := by decide +kernel
theorem i73_23 : ins 73 23 = some (.bipush (43), 25, 0, 43) := by decide +kernel
theorem i73_25 : ins 73 25 = some (.if_icmp .eq (12), 28, 37, 0) := by decide +kernel
theorem i73_28 : ins 73 28 = some (.aload_n 0, 29, 0, 0) := by decide +kernel
theorem i73_29 : ins 73 29 = some (.getfield 39, 32, 6, 6) := by decide +kernel
theorem i73_32 : ins 73 32 = some (.bipush (45), 34, 0, 45) := by decide +kernel
theorem i73_34 : ins 73 34 = some (.if_icmp .ne (43), 37, 77, 0) := by decide +kernel
theorem i73_37 : ins 73 37 = some (.aload_n 0, 38, 0, 0) := by decide +kernel
theorem i73_38 : ins 73 38 = some (.getfield 39, 41, 6, 6) := by decide +kernel
theorem i73_41 : ins 73 41 = some (.istore_n 3, 42, 0, 0) := by decide +kernel
theorem i73_42 : ins 73 42 = some (.aload_n 0, 43, 0, 0) := by decide +kernel
theorem i73_43 : ins 73 43 = some (.invokevirtual 94, 46, 59, 0) := by decide +kernel
theorem i73_46 : ins 73 46 = some (.ifCond .eq (11), 49, 57, 0) := by decide +kernel
theorem i73_49 : ins 73 49 = some (.aload_n 0, 50, 0, 0) := by decide +kernel
theorem i73_50 : ins 73 50 = some (.iload_n 1, 51, 0, 0) := by decide +kernel
theorem i73_51 : ins 73 51 = some (.invokevirtual 182, 54, 74, 0) := by decide +kernel
theorem i73_54 : ins 73 54 = some (.ifCond .ne (5), 57, 59, 0) := by decide +kernel
theorem i73_57 : ins 73 57 = some (.iconst (0), 58, 0, 0) := by decide +kernel
theorem i73_58 : ins 73 58 = some (.ireturn, 59, 0, 0) := by decide +kernel
theorem i73_59 : ins 73 59 = some (.aload_n 0, 60, 0, 0) := by decide +kernel
theorem i73_60 : ins 73 60 = some (.getfield 18, 63, 6, 1) := by decide +kernel
theorem i73_63 : ins 73 63 = some (.getfield 163, 66, 10, 13) := by decide +kernel
theorem i73_66 : ins 73 66 = some (.iload_n 3, 67, 0, 0) := by decide +kernel
theorem i73_67 : ins 73 67 = some (.iconst (0), 68, 0, 0) := by decide +kernel
theorem i73_68 : ins 73 68 = some (.invokevirtual 175, 71, 37, 0) := by decide +kernel
theorem i73_71 : ins 73 71 = some (.iinc 2 (1), 74, 0, 1) := by decide +kernel
theorem i73_74 : ins 73 74 = some (.goto (-62), 77, 12, 0) := by decide +kernel
theorem i73_77 : ins 73 77 = some (.iconst (1), 78, 0, 1) := by decide +kernel
theorem i73_78 : ins 73 78 = some (.ireturn, 79, 0, 0) := by decide +kernel
theorem i74_0 : ins 74 0 = some (.aload_n 0, 1, 0, 0) := by decide +kernel
theorem i74_1 : ins 74 1 = some (.iload_n 1, 2, 0, 0) := by decide +kernel
theorem i74_2 : ins 74 2 = some (.invokevirtual 185, 5, 75, 0) := by decide +kernel
theorem i74_5 : ins 74 5 = some (.ifCond .ne (5), 8, 10, 0) := by decide +kernel
theorem i74_8 : ins 74 8 = some (.iconst (0), 9, 0, 0) := by decide +kernel
theorem i74_9 : ins 74 9 = some (.ireturn, 10, 0, 0) := by decide +kernel
theorem i74_10 : ins 74 10 = some (.iconst (0), 11, 0, 0) := by decide +kernel
theorem i74_11 : ins 74 11 = some (.istore_n 2, 12, 0, 0) := by decide +kernel
theorem i74_12 : ins 74 12 = some (.iload_n 2, 13, 0, 0) := by decide +kernel
theorem i74_13 : ins 74 13 = some (.sipush (400), 16, 0, 400) := by decide +kernel
theorem i74_16 : ins 74 16 = some (.if_icmp .gt (61), 19, 77, 0) := by decide +kernel
theorem i74_19 : ins 74 19 = some (.aload_n 0, 20, 0, 0) := by decide +kernel
theorem i74_20 : ins 74 20 = some (.getfield 39, 23, 6, 6) := by decide +kernel
theorem i74_23 : ins 74 23 = some (.bipush (42), 25, 0, 42) := by decide +kernel
theorem i74_25 : ins 74 25 = some (.if_icmp .eq (12), 28, 37, 0) := by decide +kernel
theorem i74_28 : ins 74 28 = some (.aload_n 0, 29, 0, 0) := by decide +kernel
theorem i74_29 : ins 74 29 = some (.getfield 39, 32, 6, 6) := by decide +kernel
theorem i74_32 : ins 74 32 = some (.bipush (47), 34, 0, 47) := by decide +kernel
theorem i74_34 : ins 74 34 = some (.if_icmp .ne (43), 37, 77, 0) := by decide +kernel
theorem i74_37 : ins 74 37 = some (.aload_n 0, 38, 0, 0) := by decide +kernel
theorem i74_38 : ins 74 38 = some (.getfield 39, 41, 6, 6) := by decide +kernel
theorem i74_41 : ins 74 41 = some (.istore_n 3, 42, 0, 0) := by decide +kernel
theorem i74_42 : ins 74 42 = some (.aload_n 0, 43, 0, 0) := by decide +kernel
theorem i74_43 : ins 74 43 = some (.invokevirtual 94, 46, 59, 0) := by decide +kernel
theorem i74_46 : ins 74 46 = some (.ifCond .eq (11), 49, 57, 0) := by decide +kernel
theorem i74_49 : ins 74 49 = some (.aload_n 0, 50, 0, 0) := by decide +kernel
theorem i74_50 : ins 74 50 = some (.iload_n 1, 51, 0, 0) := by decide +kernel
theorem i74_51 : ins 74 51 = some (.invokevirtual 185, 54, 75, 0) := by decide +kernel
theorem i74_54 : ins 74 54 = some (.ifCond .ne (5), 57, 59, 0) := by decide +kernel
theorem i74_57 : ins 74 57 = some (.iconst (0), 58, 0, 0) := by decide +kernel
theorem i74_58 : ins 74 58 = some (.ireturn, 59, 0, 0) := by decide +kernel
theorem i74_59 : ins 74 59 = some (.aload_n 0, 60, 0, 0) := by decide +kernel
theorem i74_60 : ins 74 60 = some (.getfield 18, 63, 6, 1) := by decide +kernel
theorem i74_63 : ins 74 63 = some (.getfield 163, 66, 10, 13) := by decide +kernel
theorem i74_66 : ins 74 66 = some (.iload_n 3, 67, 0, 0) := by decide +kernel
theorem i74_67 : ins 74 67 = some (.iconst (0), 68, 0, 0) := by decide +kernel
theorem i74_68 : ins 74 68 = some (.invokevirtual 175, 71, 37, 0) := by decide +kernel
theorem i74_71 : ins 74 71 = some (.iinc 2 (1), 74, 0, 1) := by decide +kernel
theorem i74_74 : ins 74 74 = some (.goto (-62), 77, 12, 0) := by decide +kernel
theorem i74_77 : ins 74 77 = some (.iconst (1), 78, 0, 1) := by decide +kernel
theorem i74_78 : ins 74 78 = some (.ireturn, 79, 0, 0) := by decide +kernel
theorem i75_0 : ins 75 0 = some (.aload_n 0, 1, 0, 0) := by decide +kernel
theorem i75_1 : ins 75 1 = some (.getfield 39, 4, 6, 6) := by decide +kernel
theorem i75_4 : ins 75 4 = some (.iconst (3), 5, 0, 3) := by decide +kernel
theorem i75_5 : ins 75 5 = some (.if_icmp .ne (24), 8, 29, 0) := by decide +kernel
theorem i75_8 : ins 75 8 = some (.aload_n 0, 9, 0, 0) := by decide +kernel
theorem i75_9 : ins 75 9 = some (.getfield 18, 12, 6, 1) := by decide +kernel
theorem i75_12 : ins 75 12 = some (.getfield 163, 15, 10, 13) := by decide +kernel
theorem i75_15 : ins 75 15 = some (.iconst (1), 16, 0, 1) := by decide +kernel
theorem i75_16 : ins 75 16 = some (.aload_n 0, 17, 0, 0) := by decide +kernel
theorem i75_17 : ins 75 17 = some (.getfield 42, 20, 6, 7) := by decide +kernel
theorem i75_20 : ins 75 20 = some (.l2i, 21, 0, 0) := by decide +kernel
theorem i75_21 : ins 75 21 = some (.invokevirtual 175, 24, 37, 0) := by decide +kernel
theorem i75_24 : ins 75 24 = some (.aload_n 0, 25, 0, 0) := by decide +kernel
theorem i75_25 : ins 75 25 = some (.invokevirtual 94, 28, 59, 0) := by decide +kernel
theorem i75_28 : ins 75 28 = some (.ireturn, 29, 0, 0) := by decide +kernel
theorem i75_29 : ins 75 29 = some (.aload_n 0, 30, 0, 0) := by decide +kernel
theorem i75_30 : ins 75 30 = some (.getfield 39, 33, 6, 6) := by decide +kernel
theorem i75_33 : ins 75 33 = some (.sipush (256), 36, 0, 256) := by decide +kernel
theorem i75_36 : ins 75 36 = some (.if_icmp .ne (21), 39, 57, 0) := by decide +kernel
theorem i75_39 : ins 75 39 = some (.aload_n 0, 40, 0, 0) := by decide +kernel
theorem i75_40 : ins 75 40 = some (.getfield 18, 43, 6, 1) := by decide +kernel
theorem i75_43 : ins 75 43 = some (.getfield 163, 46, 10, 13) := by decide +kernel
theorem i75_46 : ins 75 46 = some (.iconst (2), 47, 0, 2) := by decide +kernel
theorem i75_47 : ins 75 47 = some (.bipush (6), 49, 0, 6) := by decide +kernel
theorem i75_49 : ins 75 49 = some (.invokevirtual 175, 52, 37, 0) := by decide +kernel
theorem i75_52 : ins 75 52 = some (.aload_n 0, 53, 0, 0) := by decide +kernel
theorem i75_53 : ins 75 53 = some (.invokevirtual 94, 56, 59, 0) := by decide +kernel
theorem i75_56 : ins 75 56 = some (.ireturn, 57, 0, 0) := by decide +kernel
theorem i75_57 : ins 75 57 = some (.aload_n 0, 58, 0, 0) := by decide +kernel
theorem i75_58 : ins 75 58 = some (.getfield 39, 61, 6, 6) := by decide +kernel
theorem i75_61 : ins 75 61 = some (.sipush (267), 64, 0, 267) := by decide +kernel
theorem i75_64 : ins 75 64 = some (.if_icmp .lt (39), 67, 103, 0) := by decide +kernel
theorem i75_67 : ins 75 67 = some (.aload_n 0, 68, 0, 0) := by decide +kernel
theorem i75_68 : ins 75 68 = some (.getfield 39, 71, 6, 6) := by decide +kernel
theorem i75_71 : ins 75 71 = some (.sipush (272), 74, 0, 272) := by decide +kernel
theorem i75_74 : ins 75 74 = some (.if_icmp .gt (29), 77, 103, 0) := by decide +kernel
theorem i75_77 : ins 75 77 = some (.aload_n 0, 78, 0, 0) := by decide +kernel
theorem i75_78 : ins 75 78 = some (.getfield 18, 81, 6, 1) := by decide +kernel
theorem i75_81 : ins 75 81 = some (.getfield 163, 84, 10, 13) := by decide +kernel
theorem i75_84 : ins 75 84 = some (.iconst (2), 85, 0, 2) := by decide +kernel
theorem i75_85 : ins 75 85 = some (.iconst (0), 86, 0, 0) := by decide +kernel
theorem i75_86 : ins 75 86 = some (.aload_n 0, 87, 0, 0) := by decide +kernel
theorem i75_87 : ins 75 87 = some (.getfield 39, 90, 6, 6) := by decide +kernel
theorem i75_90 : ins 75 90 = some (.iadd, 91, 0, 0) := by decide +kernel
theorem i75_91 : ins 75 91 = some (.sipush (267), 94, 0, 267) := by decide +kernel
theorem i75_94 : ins 75 94 = some (.isub, 95, 0, 0) := by decide +kernel
theorem i75_95 : ins 75 95 = some (.invokevirtual 175, 98, 37, 0) := by decide +kernel
theorem i75_98 : ins 75 98 = some (.aload_n 0, 99, 0, 0) := by decide +kernel
theorem i75_99 : ins 75 99 = some (.invokevirtual 94, 102, 59, 0) := by decide +kernel
theorem i75_102 : ins 75 102 = some (.ireturn, 103, 0, 0) := by decide +kernel
theorem i75_103 : ins 75 103 = some (.aload_n 0, 104, 0, 0) := by decide +kernel
theorem i75_104 : ins 75 104 = some (.getfield 39, 107, 6, 6) := by decide +kernel
theorem i75_107 : ins 75 107 = some (.bipush (40), 109, 0, 40) := by decide +kernel
theorem i75_109 : ins 75 109 = some (.if_icmp .eq (9), 112, 118, 0) := by decide +kernel
theorem i75_112 : ins 75 112 = some (.aload_n 0, 113, 0, 0) := by decide +kernel
theorem i75_113 : ins 75 113 = some (.iconst (1), 114, 0, 1) := by decide +kernel
theorem i75_114 : ins 75 114 = some (.invokevirtual 85, 117, 57, 0) := by decide +kernel
theorem i75_117 : ins 75 117 = some (.ireturn, 118, 0, 0) := by decide +kernel
theorem i75_118 : ins 75 118 = some (.iload_n 1, 119, 0, 0) := by decide +kernel
theorem i75_119 : ins 75 119 = some (.bipush (6), 121, 0, 6) := by decide +kernel
theorem i75_121 : ins 75 121 = some (.if_icmp .lt (9), 124, 130, 0) := by decide +kernel
theorem i75_124 : ins 75 124 = some (.aload_n 0, 125, 0, 0) := by decide +kernel
theorem i75_125 : ins 75 125 = some (.iconst (2), 126, 0, 2) := by decide +kernel
theorem i75_126 : ins 75 126 = some (.invokevirtual 85, 129, 57, 0) := by decide +kernel
theorem i75_129 : ins 75 129 = some (.ireturn, 130, 0, 0) := by decide +kernel
theorem i75_130 : ins 75 130 = some (.aload_n 0, 131, 0, 0) := by decide +kernel
theorem i75_131 : ins 75 131 = some (.invokevirtual 94, 134, 59, 0) := by decide +kernel
theorem i75_134 : ins 75 134 = some (.ifCond .eq (26), 137, 160, 0) := by decide +kernel
theorem i75_137 : ins 75 137 = some (.aload_n 0, 138, 0, 0) := by decide +kernel
theorem i75_138 : ins 75 138 = some (.iload_n 1, 139, 0, 0) := by decide +kernel
theorem i75_139 : ins 75 139 = some (.iconst (1), 140, 0, 1) := by decide +kernel
theorem i75_140 : ins 75 140 = some (.iadd, 141, 0, 0) := by decide +kernel
theorem i75_141 : ins 75 141 = some (.invokevirtual 172, 144, 73, 0) := by decide +kernel
theorem i75_144 : ins 75 144 = some (.ifCond .eq (16), 147, 160, 0) := by decide +kernel
theorem i75_147 : ins 75 147 = some (.aload_n 0, 148, 0, 0) := by decide +kernel
theorem i75_148 : ins 75 148 = some (.bipush (41), 150, 0, 41) := by decide +kernel
theorem i75_150 : ins 75 150 = some (.invokevirtual 60, 153, 60, 0) := by decide +kernel
theorem i75_153 : ins 75 153 = some (.ifCond .eq (7), 156, 160, 0) := by decide +kernel
theorem i75_156 : ins 75 156 = some (.iconst (1), 157, 0, 1) := by decide +kernel
theorem i75_157 : ins 75 157 = some (.goto (4), 160, 161, 0) := by decide +kernel
theorem i75_160 : ins 75 160 = some (.iconst (0), 161, 0, 0) := by decide +kernel
theorem i75_161 : ins 75 161 = some (.ireturn, 162, 0, 0) := by decide +kernel
theorem i76_0 : ins 76 0 = some (.aload_n 0, 1, 0, 0) := by decide +kernel
theorem i76_1 : ins 76 1 = some (.invokespecial 1, 4, 1000, 0) := by decide +kernel
theorem i76_4 : ins 76 4 = some (.aload_n 0, 5, 0, 0) := by decide +kernel
theorem i76_5 : ins 76 5 = some (.sipush (401), 8, 0, 401) := by decide +kernel
theorem i76_8 : ins 76 8 = some (.newarray .int, 10, 0, 0) := by decide +kernel
theorem i76_10 : ins 76 10 = some (.putfield 9, 13, 7, 0) := by decide +kernel
theorem i76_13 : ins 76 13 = some (.aload_n 0, 14, 0, 0) := by decide +kernel
theorem i76_14 : ins 76 14 = some (.sipush (401), 17, 0, 401) := by decide +kernel
theorem i76_17 : ins 76 17 = some (.newarray .int, 19, 0, 0) := by decide +kernel
theorem i76_19 : ins 76 19 = some (.putfield 13, 22, 7, 1) := by decide +kernel
theorem i76_22 : ins 76 22 = some (.aload_n 0, 23, 0, 0) := by decide +kernel
theorem i76_23 : ins 76 23 = some (.sipush (401), 26, 0, 401) := by decide +kernel
theorem i76_26 : ins 76 26 = some (.newarray .long, 28, 0, 0) := by decide +kernel
theorem i76_28 : ins 76 28 = some (.putfield 16, 31, 7, 2) := by decide +kernel
theorem i76_31 : ins 76 31 = some (.aload_n 0, 32, 0, 0) := by decide +kernel
theorem i76_32 : ins 76 32 = some (.bipush (17), 34, 0, 17) := by decide +kernel
theorem i76_34 : ins 76 34 = some (.newarray .long, 36, 0, 0) := by decide +kernel
theorem i76_36 : ins 76 36 = some (.putfield 20, 39, 7, 3) := by decide +kernel
theorem i76_39 : ins 76 39 = some (.aload_n 0, 40, 0, 0) := by decide +kernel
theorem i76_40 : ins 76 40 = some (.iconst (0), 41, 0, 0) := by decide +kernel
theorem i76_41 : ins 76 41 = some (.newarray .byte, 43, 0, 0) := by decide +kernel
theorem i76_43 : ins 76 43 = some (.putfield 23, 46, 7, 4) := by decide +kernel
theorem i76_46 : ins 76 46 = some (.aload_n 0, 47, 0, 0) := by decide +kernel
theorem i76_47 : ins 76 47 = some (.iconst (0), 48, 0, 0) := by decide +kernel
theorem i76_48 : ins 76 48 = some (.putfield 27, 51, 7, 5) := by decide +kernel
theorem i76_51 : ins 76 51 = some (.aload_n 0, 52, 0, 0) := by decide +kernel
theorem i76_52 : ins 76 52 = some (.iconst (0), 53, 0, 0) := by decide +kernel
theorem i76_53 : ins 76 53 = some (.putfield 31, 56, 7, 6) := by decide +kernel
theorem i76_56 : ins 76 56 = some (.iconst (0), 57, 0, 0) := by decide +kernel
theorem i76_57 : ins 76 57 = some (.istore_n 1, 58, 0, 0) := by decide +kernel
theorem i76_58 : ins 76 58 = some (.iconst (0), 59, 0, 0) := by decide +kernel
theorem i76_59 : ins 76 59 = some (.istore_n 2, 60, 0, 0) := by decide +kernel
theorem i76_60 : ins 76 60 = some (.iload_n 2, 61, 0, 0) := by decide +kernel
theorem i76_61 : ins 76 61 = some (.ldc 34, 63, 2, 0) := by decide +kernel
theorem i76_63 : ins 76 63 = some (.invokevirtual 36, 66, 9, 0) := by decide +kernel
theorem i76_66 : ins 76 66 = some (.if_icmp .ge (53), 69, 119, 0) := by decide +kernel
theorem i76_69 : ins 76 69 = some (.iload_n 1, 70, 0, 0) := by decide +kernel
theorem i76_70 : ins 76 70 = some (.bipush (17), 72, 0, 17) := by decide +kernel
theorem i76_72 : ins 76 72 = some (.if_icmp .ge (47), 75, 119, 0) := by decide +kernel
theorem i76_75 : ins 76 75 = some (.ldc 34, 77, 2, 0) := by decide +kernel
theorem i76_77 : ins 76 77 = some (.iload_n 2, 78, 0, 0) := by decide +kernel
theorem i76_78 : ins 76 78 = some (.invokevirtual 41, 81, 3, 0) := by decide +kernel
theorem i76_81 : ins 76 81 = some (.bipush (32), 83, 0, 32) := by decide +kernel
theorem i76_83 : ins 76 83 = some (.if_icmp .ne (9), 86, 92, 0) := by decide +kernel
theorem i76_86 : ins 76 86 = some (.iinc 1 (1), 89, 0, 1) := by decide +kernel
theorem i76_89 : ins 76 89 = some (.goto (24), 92, 113, 0) := by decide +kernel
theorem i76_92 : ins 76 92 = some (.aload_n 0, 93, 0, 0) := by decide +kernel
theorem i76_93 : ins 76 93 = some (.getfield 20, 96, 7, 3) := by decide +kernel
theorem i76_96 : ins 76 96 = some (.iload_n 1, 97, 0, 0) := by decide +kernel
theorem i76_97 : ins 76 97 = some (.aload_n 0, 98, 0, 0) := by decide +kernel
theorem i76_98 : ins 76 98 = some (.getfield 20, 101, 7, 3) := by decide +kernel
theorem i76_101 : ins 76 101 = some (.iload_n 1, 102, 0, 0) := by decide +kernel
theorem i76_102 : ins 76 102 = some (.laload, 103, 0, 0) := by decide +kernel
theorem i76_103 : ins 76 103 = some (.ldc 34, 105, 2, 0) := by decide +kernel
theorem i76_105 : ins 76 105 = some (.iload_n 2, 106, 0, 0) := by decide +kernel
theorem i76_106 : ins 76 106 = some (.invokevirtual 41, 109, 3, 0) := by decide +kernel
theorem i76_109 : ins 76 109 = some (.invokestatic 45, 112, 77, 0) := by decide +kernel
theorem i76_112 : ins 76 112 = some (.lastore, 113, 0, 0) := by decide +kernel
theorem i76_113 : ins 76 113 = some (.iinc 2 (1), 116, 0, 1) := by decide +kernel
theorem i76_116 : ins 76 116 = some (.goto (-56), 119, 60, 0) := by decide +kernel
theorem i76_119 : ins 76 119 = some (.return_, 120, 0, 0) := by decide +kernel
theorem i77_0 : ins 77 0 = some (.lload_n 0, 1, 0, 0) := by decide +kernel
theorem i77_1 : ins 77 1 = some (.ldc2_w 49, 4, 0, 27) := by decide +kernel
theorem i77_4 : ins 77 4 = some (.lmul, 5, 0, 0) := by decide +kernel
theorem i77_5 : ins 77 5 = some (.iload_n 2, 6, 0, 0) := by decide +kernel
theorem i77_6 : ins 77 6 = some (.bipush (97), 8, 0, 97) := by decide +kernel
theorem i77_8 : ins 77 8 = some (.isub, 9, 0, 0) := by decide +kernel
theorem i77_9 : ins 77 9 = some (.iconst (1), 10, 0, 1) := by decide +kernel
theorem i77_10 : ins 77 10 = some (.iadd, 11, 0, 0) := by decide +kernel
theorem i77_11 : ins 77 11 = some (.i2l, 12, 0, 0) := by decide +kernel
theorem i77_12 : ins 77 12 = some (.ladd, 13, 0, 0) := by decide +kernel
theorem i77_13 : ins 77 13 = some (.lreturn, 14, 0, 0) := by decide +kernel
theorem i78_0 : ins 78 0 = some (.aload_n 0, 1, 0, 0) := by decide +kernel
theorem i78_1 : ins 78 1 = some (.aload_n 1, 2, 0, 0) := by decide +kernel
theorem i78_2 : ins 78 2 = some (.putfield 23, 5, 7, 4) := by decide +kernel
theorem i78_5 : ins 78 5 = some (.aload_n 0, 6, 0, 0) := by decide +kernel
theorem i78_6 : ins 78 6 = some (.iload_n 2, 7, 0, 0) := by decide +kernel
theorem i78_7 : ins 78 7 = some (.aload_n 1, 8, 0, 0) := by decide +kernel
theorem i78_8 : ins 78 8 = some (.arraylength, 9, 0, 0) := by decide +kernel
theorem i78_9 : ins 78 9 = some (.invokestatic 51, 12, 2, 0) := by decide +kernel
theorem i78_12 : ins 78 12 = some (.putfield 27, 15, 7, 5) := by decide +kernel
theorem i78_15 : ins 78 15 = some (.aload_n 0, 16, 0, 0) := by decide +kernel
theorem i78_16 : ins 78 16 = some (.iconst (0), 17, 0, 0) := by decide +kernel
theorem i78_17 : ins 78 17 = some (.putfield 31, 20, 7, 6) := by decide +kernel
theorem i78_20 : ins 78 20 = some (.iconst (1), 21, 0, 1) := by decide +kernel
theorem i78_21 : ins 78 21 = some (.istore_n 3, 22, 0, 0) := by decide +kernel
theorem i78_22 : ins 78 22 = some (.iconst (0), 23, 0, 0) := by decide +kernel
theorem i78_23 : ins 78 23 = some (.istore 4, 25, 0, 0) := by decide +kernel
theorem i78_25 : ins 78 25 = some (.iload 4, 27, 0, 0) := by decide +kernel
theorem i78_27 : ins 78 27 = some (.sipush (400), 30, 0, 400) := by decide +kernel
theorem i78_30 : ins 78 30 = some (.if_icmp .gt (46), 33, 76, 0) := by decide +kernel
theorem i78_33 : ins 78 33 = some (.iload_n 3, 34, 0, 0) := by decide +kernel
theorem i78_34 : ins 78 34 = some (.ifCond .eq (42), 37, 76, 0) := by decide +kernel
theorem i78_37 : ins 78 37 = some (.aload_n 0, 38, 0, 0) := by decide +kernel
theorem i78_38 : ins 78 38 = some (.iload 4, 40, 0, 0) := by decide +kernel
theorem i78_40 : ins 78 40 = some (.invokevirtual 57, 43, 79, 0) := by decide +kernel
theorem i78_43 : ins 78 43 = some (.aload_n 0, 44, 0, 0) := by decide +kernel
theorem i78_44 : ins 78 44 = some (.getfield 9, 47, 7, 0) := by decide +kernel
theorem i78_47 : ins 78 47 = some (.iload 4, 49, 0, 0) := by decide +kernel
theorem i78_49 : ins 78 49 = some (.iaload, 50, 0, 0) := by decide +kernel
theorem i78_50 : ins 78 50 = some (.ifCond .eq (18), 53, 68, 0) := by decide +kernel
theorem i78_53 : ins 78 53 = some (.aload_n 0, 54, 0, 0) := by decide +kernel
theorem i78_54 : ins 78 54 = some (.getfield 9, 57, 7, 0) := by decide +kernel
theorem i78_57 : ins 78 57 = some (.iload 4, 59, 0, 0) := by decide +kernel
theorem i78_59 : ins 78 59 = some (.iaload, 60, 0, 0) := by decide +kernel
theorem i78_60 : ins 78 60 = some (.iconst (1), 61, 0, 1) := by decide +kernel
theorem i78_61 : ins 78 61 = some (.if_icmp .eq (7), 64, 68, 0) := by decide +kernel
theorem i78_64 : ins 78 64 = some (.iconst (1), 65, 0, 1) := by decide +kernel
theorem i78_65 : ins 78 65 = some (.goto (4), 68, 69, 0) := by decide +kernel
theorem i78_68 : ins 78 68 = some (.iconst (0), 69, 0, 0) := by decide +kernel
theorem i78_69 : ins 78 69 = some (.istore_n 3, 70, 0, 0) := by decide +kernel
theorem i78_70 : ins 78 70 = some (.iinc 4 (1), 73, 0, 1) := by decide +kernel
theorem i78_73 : ins 78 73 = some (.goto (-48), 76, 25, 0) := by decide +kernel
theorem i78_76 : ins 78 76 = some (.return_, 77, 0, 0) := by decide +kernel
theorem i79_0 : ins 79 0 = some (.aload_n 0, 1, 0, 0) := by decide +kernel
theorem i79_1 : ins 79 1 = some (.getfield 31, 4, 7, 6) := by decide +kernel
theorem i79_4 : ins 79 4 = some (.aload_n 0, 5, 0, 0) := by decide +kernel
theorem i79_5 : ins 79 5 = some (.getfield 27, 8, 7, 5) := by decide +kernel
theorem i79_8 : ins 79 8 = some (.if_icmp .ge (31), 11, 39, 0) := by decide +kernel
theorem i79_11 : ins 79 11 = some (.aload_n 0, 12, 0, 0) := by decide +kernel
theorem i79_12 : ins 79 12 = some (.getfield 23, 15, 7, 4) := by decide +kernel
theorem i79_15 : ins 79 15 = some (.aload_n 0, 16, 0, 0) := by decide +kernel
theorem i79_16 : ins 79 16 = some (.getfield 31, 19, 7, 6) := by decide +kernel
theorem i79_19 : ins 79 19 = some (.baload, 20, 0, 0) := by decide +kernel
theorem i79_20 : ins 79 20 = some (.invokestatic 61, 23, 83, 0) := by decide +kernel
theorem i79_23 : ins 79 23 = some (.ifCond .eq (16), 26, 39, 0) := by decide +kernel
theorem i79_26 : ins 79 26 = some (.aload_n 0, 27, 0, 0) := by decide +kernel
theorem i79_27 : ins 79 27 = some (.dup, 28, 0, 0) := by decide +kernel
theorem i79_28 : ins 79 28 = some (.getfield 31, 31, 7, 6) := by decide +kernel
theorem i79_31 : ins 79 31 = some (.iconst (1), 32, 0, 1) := by decide +kernel
theorem i79_32 : ins 79 32 = some (.iadd, 33, 0, 0) := by decide +kernel
theorem i79_33 : ins 79 33 = some (.putfield 31, 36, 7, 6) := by decide +kernel
theorem i79_36 : ins 79 36 = some (.goto (-36), 39, 0, 0) := by decide +kernel
theorem i79_39 : ins 79 39 = some (.aload_n 0, 40, 0, 0) := by decide +kernel
theorem i79_40 : ins 79 40 = some (.getfield 13, 43, 7, 1) := by decide +kernel
theorem i79_43 : ins 79 43 = some (.iload_n 1, 44, 0, 0) := by decide +kernel
theorem i79_44 : ins 79 44 = some (.aload_n 0, 45, 0, 0) := by decide +kernel
theorem i79_45 : ins 79 45 = some (.getfield 31, 48, 7, 6) := by decide +kernel
theorem i79_48 : ins 79 48 = some (.iastore, 49, 0, 0) := by decide +kernel
theorem i79_49 : ins 79 49 = some (.aload_n 0, 50, 0, 0) := by decide +kernel
theorem i79_50 : ins 79 50 = some (.getfield 31, 53, 7, 6) := by decide +kernel
theorem i79_53 : ins 79 53 = some (.aload_n 0, 54, 0, 0) := by decide +kernel
theorem i79_54 : ins 79 54 = some (.getfield 27, 57, 7, 5) := by decide +kernel
theorem i79_57 : ins 79 57 = some (.if_icmp .lt (13), 60, 70, 0) := by decide +kernel
theorem i79_60 : ins 79 60 = some (.aload_n 0, 61, 0, 0) := by decide +kernel
theorem i79_61 : ins 79 61 = some (.getfield 9, 64, 7, 0) := by decide +kernel
theorem i79_64 : ins 79 64 = some (.iload_n 1, 65, 0, 0) := by decide +kernel
theorem i79_65 : ins 79 65 = some (.iconst (0), 66, 0, 0) := by decide +kernel
theorem i79_66 : ins 79 66 = some (.iastore, 67, 0, 0) := by decide +kernel
theorem i79_67 : ins 79 67 = some (.goto (94), 70, 161, 0) := by decide +kernel
theorem i79_70 : ins 79 70 = some (.aload_n 0, 71, 0, 0) := by decide +kernel
theorem i79_71 : ins 79 71 = some (.getfield 23, 74, 7, 4) := by decide +kernel
theorem i79_74 : ins 79 74 = some (.aload_n 0, 75, 0, 0) := by decide +kernel
theorem i79_75 : ins 79 75 = some (.getfield 31, 78, 7, 6) := by decide +kernel
theorem i79_78 : ins 79 78 = some (.baload, 79, 0, 0) := by decide +kernel
theorem i79_79 : ins 79 79 = some (.invokestatic 65, 82, 84, 0) := by decide +kernel
theorem i79_82 : ins 79 82 = some (.ifCond .eq (11), 85, 93, 0) := by decide +kernel
theorem i79_85 : ins 79 85 = some (.aload_n 0, 86, 0, 0) := by decide +kernel
theorem i79_86 : ins 79 86 = some (.iload_n 1, 87, 0, 0) := by decide +kernel
theorem i79_87 : ins 79 87 = some (.invokevirtual 68, 90, 80, 0) := by decide +kernel
theorem i79_90 : ins 79 90 = some (.goto (71), 93, 161, 0) := by decide +kernel
theorem i79_93 : ins 79 93 = some (.aload_n 0, 94, 0, 0) := by decide +kernel
theorem i79_94 : ins 79 94 = some (.getfield 23, 97, 7, 4) := by decide +kernel
theorem i79_97 : ins 79 97 = some (.aload_n 0, 98, 0, 0) := by decide +kernel
theorem i79_98 : ins 79 98 = some (.getfield 31, 101, 7, 6) := by decide +kernel
theorem i79_101 : ins 79 101 = some (.baload, 102, 0, 0) := by decide +kernel
theorem i79_102 : ins 79 102 = some (.invokestatic 71, 105, 85, 0) := by decide +kernel
theorem i79_105 : ins 79 105 = some (.ifCond .eq (11), 108, 116, 0) := by decide +kernel
theorem i79_108 : ins 79 108 = some (.aload_n 0, 109, 0, 0) := by decide +kernel
theorem i79_109 : ins 79 109 = some (.iload_n 1, 110, 0, 0) := by decide +kernel
theorem i79_110 : ins 79 110 = some (.invokevirtual 74, 113, 82, 0) := by decide +kernel
theorem i79_113 : ins 79 113 = some (.goto (48), 116, 161, 0) := by decide +kernel
theorem i79_116 : ins 79 116 = some (.aload_n 0, 117, 0, 0) := by decide +kernel
theorem i79_117 : ins 79 117 = some (.getfield 23, 120, 7, 4) := by decide +kernel
theorem i79_120 : ins 79 120 = some (.aload_n 0, 121, 0, 0) := by decide +kernel
theorem i79_121 : ins 79 121 = some (.getfield 31, 124, 7, 6) := by decide +kernel
theorem i79_124 : ins 79 124 = some (.baload, 125, 0, 0) := by decide +kernel
theorem i79_125 : ins 79 125 = some (.sipush (255), 128, 0, 255) := by decide +kernel
theorem i79_128 : ins 79 128 = some (.iand, 129, 0, 0) := by decide +kernel
theorem i79_129 : ins 79 129 = some (.istore_n 2, 130, 0, 0) := by decide +kernel
theorem i79_130 : ins 79 130 = some (.aload_n 0, 131, 0, 0) := by decide +kernel
theorem i79_131 : ins 79 131 = some (.getfield 9, 134, 7, 0) := by decide +kernel
theorem i79_134 : ins 79 134 = some (.iload_n 1, 135, 0, 0) := by decide +kernel
theorem i79_135 : ins 79 135 = some (.ldc 77, 137, 4, 0) := by decide +kernel
theorem i79_137 : ins 79 137 = some (.iload_n 2, 138, 0, 0) := by decide +kernel
theorem i79_138 : ins 79 138 = some (.i2c, 139, 0, 0) := by decide +kernel
theorem i79_139 : ins 79 139 = some (.invokevirtual 79, 142, 6, 0) := by decide +kernel
theorem i79_142 : ins 79 142 = some (.ifCond .lt (7), 145, 149, 0) := by decide +kernel
theorem i79_145 : ins 79 145 = some (.iload_n 2, 146, 0, 0) := by decide +kernel
theorem i79_146 : ins 79 146 = some (.goto (4), 149, 150, 0) := by decide +kernel
theorem i79_149 : ins 79 149 = some (.iconst (1), 150, 0, 1) := by decide +kernel
theorem i79_150 : ins 79 150 = some (.iastore, 151, 0, 0) := by decide +kernel
theorem i79_151 : ins 79 151 = some (.aload_n 0, 152, 0, 0) := by decide +kernel
theorem i79_152 : ins 79 152 = some (.dup, 153, 0, 0) := by decide +kernel
theorem i79_153 : ins 79 153 = some (.getfield 31, 156, 7, 6) := by decide +kernel
theorem i79_156 : ins 79 156 = some (.iconst (1), 157, 0, 1) := by decide +kernel
theorem i79_157 : ins 79 157 = some (.iadd, 158, 0, 0) := by decide +kernel
theorem i79_158 : ins 79 158 = some (.putfield 31, 161, 7, 6) := by decide +kernel
theorem i79_161 : ins 79 161 = some (.return_, 162, 0, 0) := by decide +kernel
theorem i80_0 : ins 80 0 = some (.lconst 0, 1, 0, 0) := by decide +kernel
theorem i80_1 : ins 80 1 = some (.lstore_n 2, 2, 0, 0) := by decide +kernel
theorem i80_2 : ins 80 2 = some (.aload_n 0, 3, 0, 0) := by decide +kernel
theorem i80_3 : ins 80 3 = some (.getfield 31, 6, 7, 6) := by decide +kernel
theorem i80_6 : ins 80 6 = some (.aload_n 0, 7, 0, 0) := by decide +kernel
theorem i80_7 : ins 80 7 = some (.getfield 27, 10, 7, 5) := by decide +kernel
theorem i80_10 : ins 80 10 = some (.if_icmp .ge (45), 13, 55, 0) := by decide +kernel
theorem i80_13 : ins 80 13 = some (.aload_n 0, 14, 0, 0) := by decide +kernel
theorem i80_14 : ins 80 14 = some (.getfield 23, 17, 7, 4) := by decide +kernel
theorem i80_17 : ins 80 17 = some (.aload_n 0, 18, 0, 0) := by decide +kernel
theorem i80_18 : ins 80 18 = some (.getfield 31, 21, 7, 6) := by decide +kernel
theorem i80_21 : ins 80 21 = some (.baload, 22, 0, 0) := by decide +kernel
theorem i80_22 : ins 80 22 = some (.invokestatic 65, 25, 84, 0) := by decide +kernel
theorem i80_25 : ins 80 25 = some (.ifCond .eq (30), 28, 55, 0) := by decide +kernel
theorem i80_28 : ins 80 28 = some (.lload_n 2, 29, 0, 0) := by decide +kernel
theorem i80_29 : ins 80 29 = some (.aload_n 0, 30, 0, 0) := by decide +kernel
theorem i80_30 : ins 80 30 = some (.getfield 23, 33, 7, 4) := by decide +kernel
theorem i80_33 : ins 80 33 = some (.aload_n 0, 34, 0, 0) := by decide +kernel
theorem i80_34 : ins 80 34 = some (.getfield 31, 37, 7, 6) := by decide +kernel
theorem i80_37 : ins 80 37 = some (.baload, 38, 0, 0) := by decide +kernel
theorem i80_38 : ins 80 38 = some (.invokestatic 45, 41, 77, 0) := by decide +kernel
theorem i80_41 : ins 80 41 = some (.lstore_n 2, 42, 0, 0) := by decide +kernel
theorem i80_42 : ins 80 42 = some (.aload_n 0, 43, 0, 0) := by decide +kernel
theorem i80_43 : ins 80 43 = some (.dup, 44, 0, 0) := by decide +kernel
theorem i80_44 : ins 80 44 = some (.getfield 31, 47, 7, 6) := by decide +kernel
theorem i80_47 : ins 80 47 = some (.iconst (1), 48, 0, 1) := by decide +kernel
theorem i80_48 : ins 80 48 = some (.iadd, 49, 0, 0) := by decide +kernel
theorem i80_49 : ins 80 49 = some (.putfield 31, 52, 7, 6) := by decide +kernel
theorem i80_52 : ins 80 52 = some (.goto (-50), 55, 2, 0) := by decide +kernel
theorem i80_55 : ins 80 55 = some (.aload_n 0, 56, 0, 0) := by decide +kernel
theorem i80_56 : ins 80 56 = some (.getfield 16, 59, 7, 2) := by decide +kernel
theorem i80_59 : ins 80 59 = some (.iload_n 1, 60, 0, 0) := by decide +kernel
theorem i80_60 : ins 80 60 = some (.lload_n 2, 61, 0, 0) := by decide +kernel
theorem i80_61 : ins 80 61 = some (.lastore, 62, 0, 0) := by decide +kernel
theorem i80_62 : ins 80 62 = some (.aload_n 0, 63, 0, 0) := by decide +kernel
theorem i80_63 : ins 80 63 = some (.getfield 9, 66, 7, 0) := by decide +kernel
theorem i80_66 : ins 80 66 = some (.iload_n 1, 67, 0, 0) := by decide +kernel
theorem i80_67 : ins 80 67 = some (.aload_n 0, 68, 0, 0) := by decide +kernel
theorem i80_68 : ins 80 68 = some (.getfield 31, 71, 7, 6) := by decide +kernel
theorem i80_71 : ins 80 71 = some (.aload_n 0, 72, 0, 0) := by decide +kernel
theorem i80_72 : ins 80 72 = some (.getfield 13, 75, 7, 1) := by decide +kernel
theorem i80_75 : ins 80 75 = some (.iload_n 1, 76, 0, 0) := by decide +kernel
theorem i80_76 : ins 80 76 = some (.iaload, 77, 0, 0) := by decide +kernel
theorem i80_77 : ins 80 77 = some (.isub, 78, 0, 0) := by decide +kernel
theorem i80_78 : ins 80 78 = some (.bipush (8), 80, 0, 8) := by decide +kernel
theorem i80_80 : ins 80 80 = some (.if_icmp .le (7), 83, 87, 0) := by decide +kernel
theorem i80_83 : ins 80 83 = some (.iconst (1), 84, 0, 1) := by decide +kernel
theorem i80_84 : ins 80 84 = some (.goto (8), 87, 92, 0) := by decide +kernel
theorem i80_87 : ins 80 87 = some (.aload_n 0, 88, 0, 0) := by decide +kernel
theorem i80_88 : ins 80 88 = some (.lload_n 2, 89, 0, 0) := by decide +kernel
theorem i80_89 : ins 80 89 = some (.invokevirtual 83, 92, 81, 0) := by decide +kernel
theorem i80_92 : ins 80 92 = some (.iastore, 93, 0, 0) := by decide +kernel
theorem i80_93 : ins 80 93 = some (.return_, 94, 0, 0) := by decide +kernel
theorem i81_0 : ins 81 0 = some (.iconst (0), 1, 0, 0) := by decide +kernel
theorem i81_1 : ins 81 1 = some (.istore_n 3, 2, 0, 0) := by decide +kernel
theorem i81_2 : ins 81 2 = some (.iload_n 3, 3, 0, 0) := by decide +kernel
theorem i81_3 : ins 81 3 = some (.bipush (17), 5, 0, 17) := by decide +kernel
theorem i81_5 : ins 81 5 = some (.if_icmp .ge (26), 8, 31, 0) := by decide +kernel
theorem i81_8 : ins 81 8 = some (.aload_n 0, 9, 0, 0) := by decide +kernel
theorem i81_9 : ins 81 9 = some (.getfield 20, 12, 7, 3) := by decide +kernel
theorem i81_12 : ins 81 12 = some (.iload_n 3, 13, 0, 0) := by decide +kernel
theorem i81_13 : ins 81 13 = some (.laload, 14, 0, 0) := by decide +kernel
theorem i81_14 : ins 81 14 = some (.lload_n 1, 15, 0, 0) := by decide +kernel
theorem i81_15 : ins 81 15 = some (.lcmp, 16, 0, 0) := by decide +kernel
theorem i81_16 : ins 81 16 = some (.ifCond .ne (9), 19, 25, 0) := by decide +kernel
theorem i81_19 : ins 81 19 = some (.sipush (256), 22, 0, 256) := by decide +kernel
theorem i81_22 : ins 81 22 = some (.iload_n 3, 23, 0, 0) := by decide +kernel
theorem i81_23 : ins 81 23 = some (.iadd, 24, 0, 0) := by decide +kernel
theorem i81_24 : ins 81 24 = some (.ireturn, 25, 0, 0) := by decide +kernel
theorem i81_25 : ins 81 25 = some (.iinc 3 (1), 28, 0, 1) := by decide +kernel
theorem i81_28 : ins 81 28 = some (.goto (-26), 31, 2, 0) := by decide +kernel
theorem i81_31 : ins 81 31 = some (.iconst (2), 32, 0, 2) := by decide +kernel
theorem i81_32 : ins 81 32 = some (.ireturn, 33, 0, 0) := by decide +kernel
theorem i82_0 : ins 82 0 = some (.iconst (0), 1, 0, 0) := by decide +kernel
theorem i82_1 : ins 82 1 = some (.istore_n 2, 2, 0, 0) := by decide +kernel
theorem i82_2 : ins 82 2 = some (.aload_n 0, 3, 0, 0) := by decide +kernel
theorem i82_3 : ins 82 3 = some (.getfield 31, 6, 7, 6) := by decide +kernel
theorem i82_6 : ins 82 6 = some (.aload_n 0, 7, 0, 0) := by decide +kernel
theorem i82_7 : ins 82 7 = some (.getfield 27, 10, 7, 5) := by decide +kernel
theorem i82_10 : ins 82 10 = some (.if_icmp .ge (49), 13, 59, 0) := by decide +kernel
theorem i82_13 : ins 82 13 = some (.aload_n 0, 14, 0, 0) := by decide +kernel
theorem i82_14 : ins 82 14 = some (.getfield 23, 17, 7, 4) := by decide +kernel
theorem i82_17 : ins 82 17 = some (.aload_n 0, 18, 0, 0) := by decide +kernel
theorem i82_18 : ins 82 18 = some (.getfield 31, 21, 7, 6) := by decide +kernel
theorem i82_21 : ins 82 21 = some (.baload, 22, 0, 0) := by decide +kernel
theorem i82_22 : ins 82 22 = some (.invokestatic 71, 25, 85, 0) := by decide +kernel
theorem i82_25 : ins 82 25 = some (.ifCond .eq (34), 28, 59, 0) := by decide +kernel
theorem i82_28 : ins 82 28 = some (.iload_n 2, 29, 0, 0) := by decide +kernel
theorem i82_29 : ins 82 29 = some (.bipush (10), 31, 0, 10) := by decide +kernel
theorem i82_31 : ins 82 31 = some (.imul, 32, 0, 0) := by decide +kernel
theorem i82_32 : ins 82 32 = some (.aload_n 0, 33, 0, 0) := by decide +kernel
theorem i82_33 : ins 82 33 = some (.getfield 23, 36, 7, 4) := by decide +kernel
theorem i82_36 : ins 82 36 = some (.aload_n 0, 37, 0, 0) := by decide +kernel
theorem i82_37 : ins 82 37 = some (.getfield 31, 40, 7, 6) := by decide +kernel
theorem i82_40 : ins 82 40 = some (.baload, 41, 0, 0) := by decide +kernel
theorem i82_41 : ins 82 41 = some (.bipush (48), 43, 0, 48) := by decide +kernel
theorem i82_43 : ins 82 43 = some (.isub, 44, 0, 0) := by decide +kernel
theorem i82_44 : ins 82 44 = some (.iadd, 45, 0, 0) := by decide +kernel
theorem i82_45 : ins 82 45 = some (.istore_n 2, 46, 0, 0) := by decide +kernel
theorem i82_46 : ins 82 46 = some (.aload_n 0, 47, 0, 0) := by decide +kernel
theorem i82_47 : ins 82 47 = some (.dup, 48, 0, 0) := by decide +kernel
theorem i82_48 : ins 82 48 = some (.getfield 31, 51, 7, 6) := by decide +kernel
theorem i82_51 : ins 82 51 = some (.iconst (1), 52, 0, 1) := by decide +kernel
theorem i82_52 : ins 82 52 = some (.iadd, 53, 0, 0) := by decide +kernel
theorem i82_53 : ins 82 53 = some (.putfield 31, 56, 7, 6) := by decide +kernel
theorem i82_56 : ins 82 56 = some (.goto (-54), 59, 2, 0) := by decide +kernel
theorem i82_59 : ins 82 59 = some (.aload_n 0, 60, 0, 0) := by decide +kernel
theorem i82_60 : ins 82 60 = some (.getfield 16, 63, 7, 2) := by decide +kernel
theorem i82_63 : ins 82 63 = some (.iload_n 1, 64, 0, 0) := by decide +kernel
theorem i82_64 : ins 82 64 = some (.iload_n 2, 65, 0, 0) := by decide +kernel
theorem i82_65 : ins 82 65 = some (.i2l, 66, 0, 0) := by decide +kernel
theorem i82_66 : ins 82 66 = some (.lastore, 67, 0, 0) := by decide +kernel
theorem i82_67 : ins 82 67 = some (.aload_n 0, 68, 0, 0) := by decide +kernel
theorem i82_68 : ins 82 68 = some (.getfield 9, 71, 7, 0) := by decide +kernel
theorem i82_71 : ins 82 71 = some (.iload_n 1, 72, 0, 0) := by decide +kernel
theorem i82_72 : ins 82 72 = some (.aload_n 0, 73, 0, 0) := by decide +kernel
theorem i82_73 : ins 82 73 = some (.getfield 31, 76, 7, 6) := by decide +kernel
theorem i82_76 : ins 82 76 = some (.aload_n 0, 77, 0, 0) := by decide +kernel
theorem i82_77 : ins 82 77 = some (.getfield 13, 80, 7, 1) := by decide +kernel
theorem i82_80 : ins 82 80 = some (.iload_n 1, 81, 0, 0) := by decide +kernel
theorem i82_81 : ins 82 81 = some (.iaload, 82, 0, 0) := by decide +kernel
theorem i82_82 : ins 82 82 = some (.isub, 83, 0, 0) := by decide +kernel
theorem i82_83 : ins 82 83 = some (.iconst (4), 84, 0, 4) := by decide +kernel
theorem i82_84 : ins 82 84 = some (.if_icmp .le (7), 87, 91, 0) := by decide +kernel
theorem i82_87 : ins 82 87 = some (.iconst (1), 88, 0, 1) := by decide +kernel
theorem i82_88 : ins 82 88 = some (.goto (4), 91, 92, 0) := by decide +kernel
theorem i82_91 : ins 82 91 = some (.iconst (3), 92, 0, 3) := by decide +kernel
theorem i82_92 : ins 82 92 = some (.iastore, 93, 0, 0) := by decide +kernel
theorem i82_93 : ins 82 93 = some (.return_, 94, 0, 0) := by decide +kernel
theorem i83_0 : ins 83 0 = some (.iload_n 0, 1, 0, 0) := by decide +kernel
theorem i83_1 : ins 83 1 = some (.bipush (9), 3, 0, 9) := by decide +kernel
theorem i83_3 : ins 83 3 = some (.if_icmp .eq (21), 6, 24, 0) := by decide +kernel
theorem i83_6 : ins 83 6 = some (.iload_n 0, 7, 0, 0) := by decide +kernel
theorem i83_7 : ins 83 7 = some (.bipush (10), 9, 0, 10) := by decide +kernel
theorem i83_9 : ins 83 9 = some (.if_icmp .eq (15), 12, 24, 0) := by decide +kernel
theorem i83_12 : ins 83 12 = some (.iload_n 0, 13, 0, 0) := by decide +kernel
theorem i83_13 : ins 83 13 = some (.bipush (13), 15, 0, 13) := by decide +kernel
theorem i83_15 : ins 83 15 = some (.if_icmp .eq (9), 18, 24, 0) := by decide +kernel
theorem i83_18 : ins 83 18 = some (.iload_n 0, 19, 0, 0) := by decide +kernel
theorem i83_19 : ins 83 19 = some (.bipush (32), 21, 0, 32) := by decide +kernel
theorem i83_21 : ins 83 21 = some (.if_icmp .ne (7), 24, 28, 0) := by decide +kernel
theorem i83_24 : ins 83 24 = some (.iconst (1), 25, 0, 1) := by decide +kernel
theorem i83_25 : ins 83 25 = some (.goto (4), 28, 29, 0) := by decide +kernel
theorem i83_28 : ins 83 28 = some (.iconst (0), 29, 0, 0) := by decide +kernel
theorem i83_29 : ins 83 29 = some (.ireturn, 30, 0, 0) := by decide +kernel
theorem i84_0 : ins 84 0 = some (.iload_n 0, 1, 0, 0) := by decide +kernel
theorem i84_1 : ins 84 1 = some (.bipush (97), 3, 0, 97) := by decide +kernel
theorem i84_3 : ins 84 3 = some (.if_icmp .lt (13), 6, 16, 0) := by decide +kernel
theorem i84_6 : ins 84 6 = some (.iload_n 0, 7, 0, 0) := by decide +kernel
theorem i84_7 : ins 84 7 = some (.bipush (122), 9, 0, 122) := by decide +kernel
theorem i84_9 : ins 84 9 = some (.if_icmp .gt (7), 12, 16, 0) := by decide +kernel
theorem i84_12 : ins 84 12 = some (.iconst (1), 13, 0, 1) := by decide +kernel
theorem i84_13 : ins 84 13 = some (.goto (4), 16, 17, 0) := by decide +kernel
theorem i84_16 : ins 84 16 = some (.iconst (0), 17, 0, 0) := by decide +kernel
theorem i84_17 : ins 84 17 = some (.ireturn, 18, 0, 0) := by decide +kernel
theorem i85_0 : ins 85 0 = some (.iload_n 0, 1, 0, 0) := by decide +kernel
theorem i85_1 : ins 85 1 = some (.bipush (48), 3, 0, 48) := by decide +kernel
theorem i85_3 : ins 85 3 = some (.if_icmp .lt (13), 6, 16, 0) := by decide +kernel
theorem i85_6 : ins 85 6 = some (.iload_n 0, 7, 0, 0) := by decide +kernel
theorem i85_7 : ins 85 7 = some (.bipush (57), 9, 0, 57) := by decide +kernel
theorem i85_9 : ins 85 9 = some (.if_icmp .gt (7), 12, 16, 0) := by decide +kernel
theorem i85_12 : ins 85 12 = some (.iconst (1), 13, 0, 1) := by decide +kernel
theorem i85_13 : ins 85 13 = some (.goto (4), 16, 17, 0) := by decide +kernel
theorem i85_16 : ins 85 16 = some (.iconst (0), 17, 0, 0) := by decide +kernel
theorem i85_17 : ins 85 17 = some (.ireturn, 18, 0, 0) := by decide +kernel
theorem i95_0 : ins 95 0 = some (.aload_n 0, 1, 0, 0) := by decide +kernel
theorem i95_1 : ins 95 1 = some (.invokespecial 3, 4, 1000, 0) := by decide +kernel
theorem i95_4 : ins 95 4 = some (.aload_n 0, 5, 0, 0) := by decide +kernel
theorem i95_5 : ins 95 5 = some (.iconst (0), 6, 0, 0) := by decide +kernel
theorem i95_6 : ins 95 6 = some (.putfield 9, 9, 10, 0) := by decide +kernel
theorem i95_9 : ins 95 9 = some (.aload_n 0, 10, 0, 0) := by decide +kernel
theorem i95_10 : ins 95 10 = some (.iconst (0), 11, 0, 0) := by decide +kernel
theorem i95_11 : ins 95 11 = some (.putfield 15, 14, 10, 1) := by decide +kernel
theorem i95_14 : ins 95 14 = some (.aload_n 0, 15, 0, 0) := by decide +kernel
theorem i95_15 : ins 95 15 = some (.iconst (0), 16, 0, 0) := by decide +kernel
theorem i95_16 : ins 95 16 = some (.putfield 18, 19, 10, 2) := by decide +kernel
theorem i95_19 : ins 95 19 = some (.aload_n 0, 20, 0, 0) := by decide +kernel
theorem i95_20 : ins 95 20 = some (.iconst (3), 21, 0, 3) := by decide +kernel
theorem i95_21 : ins 95 21 = some (.putfield 21, 24, 10, 3) := by decide +kernel
theorem i95_24 : ins 95 24 = some (.aload_n 0, 25, 0, 0) := by decide +kernel
theorem i95_25 : ins 95 25 = some (.sipush (9999), 28, 0, 9999) := by decide +kernel
theorem i95_28 : ins 95 28 = some (.putfield 24, 31, 10, 4) := by decide +kernel
theorem i95_31 : ins 95 31 = some (.aload_n 0, 32, 0, 0) := by decide +kernel
theorem i95_32 : ins 95 32 = some (.iconst (0), 33, 0, 0) := by decide +kernel
theorem i95_33 : ins 95 33 = some (.putfield 27, 36, 10, 5) := by decide +kernel
theorem i95_36 : ins 95 36 = some (.aload_n 0, 37, 0, 0) := by decide +kernel
theorem i95_37 : ins 95 37 = some (.iconst (-1), 38, 0, -1) := by decide +kernel
theorem i95_38 : ins 95 38 = some (.putfield 30, 41, 10, 6) := by decide +kernel
theorem i95_41 : ins 95 41 = some (.aload_n 0, 42, 0, 0) := by decide +kernel
theorem i95_42 : ins 95 42 = some (.bipush (6), 44, 0, 6) := by decide +kernel
theorem i95_44 : ins 95 44 = some (.newarray .int, 46, 0, 0) := by decide +kernel
theorem i95_46 : ins 95 46 = some (.putfield 33, 49, 10, 7) := by decide +kernel
theorem i95_49 : ins 95 49 = some (.aload_n 0, 50, 0, 0) := by decide +kernel
theorem i95_50 : ins 95 50 = some (.bipush (6), 52, 0, 6) := by decide +kernel
theorem i95_52 : ins 95 52 = some (.newarray .int, 54, 0, 0) := by decide +kernel
theorem i95_54 : ins 95 54 = some (.putfield 37, 57, 10, 8) := by decide +kernel
theorem i95_57 : ins 95 57 = some (.aload_n 0, 58, 0, 0) := by decide +kernel
theorem i95_58 : ins 95 58 = some (.bipush (6), 60, 0, 6) := by decide +kernel
theorem i95_60 : ins 95 60 = some (.newarray .int, 62, 0, 0) := by decide +kernel
theorem i95_62 : ins 95 62 = some (.putfield 40, 65, 10, 9) := by decide +kernel
theorem i95_65 : ins 95 65 = some (.aload_n 0, 66, 0, 0) := by decide +kernel
theorem i95_66 : ins 95 66 = some (.bipush (36), 68, 0, 36) := by decide +kernel
theorem i95_68 : ins 95 68 = some (.newarray .int, 70, 0, 0) := by decide +kernel
theorem i95_70 : ins 95 70 = some (.putfield 43, 73, 10, 10) := by decide +kernel
theorem i95_73 : ins 95 73 = some (.aload_n 0, 74, 0, 0) := by decide +kernel
theorem i95_74 : ins 95 74 = some (.iconst (3), 75, 0, 3) := by decide +kernel
theorem i95_75 : ins 95 75 = some (.newarray .int, 77, 0, 0) := by decide +kernel
theorem i95_77 : ins 95 77 = some (.putfield 46, 80, 10, 11) := by decide +kernel
theorem i95_80 : ins 95 80 = some (.aload_n 0, 81, 0, 0) := by decide +kernel
theorem i95_81 : ins 95 81 = some (.bipush (6), 83, 0, 6) := by decide +kernel
theorem i95_83 : ins 95 83 = some (.newarray .int, 85, 0, 0) := by decide +kernel
theorem i95_85 : ins 95 85 = some (.putfield 49, 88, 10, 12) := by decide +kernel
theorem i95_88 : ins 95 88 = some (.aload_n 0, 89, 0, 0) := by decide +kernel
theorem i95_89 : ins 95 89 = some (.new 52, 92, 2, 0) := by decide +kernel
theorem i95_92 : ins 95 92 = some (.dup, 93, 0, 0) := by decide +kernel
theorem i95_93 : ins 95 93 = some (.invokespecial 54, 96, 36, 1) := by decide +kernel
theorem i95_96 : ins 95 96 = some (.putfield 55, 99, 10, 13) := by decide +kernel
theorem i95_99 : ins 95 99 = some (.aload_n 0, 100, 0, 0) := by decide +kernel
theorem i95_100 : ins 95 100 = some (.invokevirtual 59, 103, 96, 0) := by decide +kernel
theorem i95_103 : ins 95 103 = some (.return_, 104, 0, 0) := by decide +kernel
theorem i96_0 : ins 96 0 = some (.aload_n 0, 1, 0, 0) := by decide +kernel
theorem i96_1 : ins 96 1 = some (.iconst (0), 2, 0, 0) := by decide +kernel
theorem i96_2 : ins 96 2 = some (.putfield 9, 5, 10, 0) := by decide +kernel
theorem i96_5 : ins 96 5 = some (.aload_n 0, 6, 0, 0) := by decide +kernel
theorem i96_6 : ins 96 6 = some (.iconst (0), 7, 0, 0) := by decide +kernel
theorem i96_7 : ins 96 7 = some (.putfield 15, 10, 10, 1) := by decide +kernel
theorem i96_10 : ins 96 10 = some (.aload_n 0, 11, 0, 0) := by decide +kernel
theorem i96_11 : ins 96 11 = some (.iconst (0), 12, 0, 0) := by decide +kernel
theorem i96_12 : ins 96 12 = some (.putfield 18, 15, 10, 2) := by decide +kernel
theorem i96_15 : ins 96 15 = some (.aload_n 0, 16, 0, 0) := by decide +kernel
theorem i96_16 : ins 96 16 = some (.iconst (3), 17, 0, 3) := by decide +kernel
theorem i96_17 : ins 96 17 = some (.putfield 21, 20, 10, 3) := by decide +kernel
theorem i96_20 : ins 96 20 = some (.aload_n 0, 21, 0, 0) := by decide +kernel
theorem i96_21 : ins 96 21 = some (.sipush (9999), 24, 0, 9999) := by decide +kernel
theorem i96_24 : ins 96 24 = some (.putfield 24, 27, 10, 4) := by decide +kernel
theorem i96_27 : ins 96 27 = some (.aload_n 0, 28, 0, 0) := by decide +kernel
theorem i96_28 : ins 96 28 = some (.iconst (0), 29, 0, 0) := by decide +kernel
theorem i96_29 : ins 96 29 = some (.putfield 27, 32, 10, 5) := by decide +kernel
theorem i96_32 : ins 96 32 = some (.aload_n 0, 33, 0, 0) := by decide +kernel
theorem i96_33 : ins 96 33 = some (.iconst (-1), 34, 0, -1) := by decide +kernel
theorem i96_34 : ins 96 34 = some (.putfield 30, 37, 10, 6) := by decide +kernel
theorem i96_37 : ins 96 37 = some (.aload_n 0, 38, 0, 0) := by decide +kernel
theorem i96_38 : ins 96 38 = some (.getfield 55, 41, 10, 13) := by decide +kernel
theorem i96_41 : ins 96 41 = some (.iconst (0), 42, 0, 0) := by decide +kernel
theorem i96_42 : ins 96 42 = some (.putfield 62, 45, 2, 0) := by decide +kernel
theorem i96_45 : ins 96 45 = some (.iconst (0), 46, 0, 0) := by decide +kernel
theorem i96_46 : ins 96 46 = some (.istore_n 1, 47, 0, 0) := by decide +kernel
theorem i96_47 : ins 96 47 = some (.iload_n 1, 48, 0, 0) := by decide +kernel
theorem i96_48 : ins 96 48 = some (.bipush (6), 50, 0, 6) := by decide +kernel
theorem i96_50 : ins 96 50 = some (.if_icmp .ge (16), 53, 66, 0) := by decide +kernel
theorem i96_53 : ins 96 53 = some (.aload_n 0, 54, 0, 0) := by decide +kernel
theorem i96_54 : ins 96 54 = some (.getfield 33, 57, 10, 7) := by decide +kernel
theorem i96_57 : ins 96 57 = some (.iload_n 1, 58, 0, 0) := by decide +kernel
theorem i96_58 : ins 96 58 = some (.iconst (0), 59, 0, 0) := by decide +kernel
theorem i96_59 : ins 96 59 = some (.iastore, 60, 0, 0) := by decide +kernel
theorem i96_60 : ins 96 60 = some (.iinc 1 (1), 63, 0, 1) := by decide +kernel
theorem i96_63 : ins 96 63 = some (.goto (-16), 66, 47, 0) := by decide +kernel
theorem i96_66 : ins 96 66 = some (.iconst (0), 67, 0, 0) := by decide +kernel
theorem i96_67 : ins 96 67 = some (.istore_n 1, 68, 0, 0) := by decide +kernel
theorem i96_68 : ins 96 68 = some (.iload_n 1, 69, 0, 0) := by decide +kernel
theorem i96_69 : ins 96 69 = some (.bipush (6), 71, 0, 6) := by decide +kernel
theorem i96_71 : ins 96 71 = some (.if_icmp .ge (16), 74, 87, 0) := by decide +kernel
theorem i96_74 : ins 96 74 = some (.aload_n 0, 75, 0, 0) := by decide +kernel
theorem i96_75 : ins 96 75 = some (.getfield 49, 78, 10, 12) := by decide +kernel
theorem i96_78 : ins 96 78 = some (.iload_n 1, 79, 0, 0) := by decide +kernel
theorem i96_79 : ins 96 79 = some (.iconst (-1), 80, 0, -1) := by decide +kernel
theorem i96_80 : ins 96 80 = some (.iastore, 81, 0, 0) := by decide +kernel
theorem i96_81 : ins 96 81 = some (.iinc 1 (1), 84, 0, 1) := by decide +kernel
theorem i96_84 : ins 96 84 = some (.goto (-16), 87, 68, 0) := by decide +kernel
theorem i96_87 : ins 96 87 = some (.iconst (0), 88, 0, 0) := by decide +kernel
theorem i96_88 : ins 96 88 = some (.istore_n 1, 89, 0, 0) := by decide +kernel
theorem i96_89 : ins 96 89 = some (.iload_n 1, 90, 0, 0) := by decide +kernel
theorem i96_90 : ins 96 90 = some (.aload_n 0, 91, 0, 0) := by decide +kernel
theorem i96_91 : ins 96 91 = some (.getfield 43, 94, 10, 10) := by decide +kernel
theorem i96_94 : ins 96 94 = some (.arraylength, 95, 0, 0) := by decide +kernel
theorem i96_95 : ins 96 95 = some (.if_icmp .ge (17), 98, 112, 0) := by decide +kernel
theorem i96_98 : ins 96 98 = some (.aload_n 0, 99, 0, 0) := by decide +kernel
theorem i96_99 : ins 96 99 = some (.getfield 43, 102, 10, 10) := by decide +kernel
theorem i96_102 : ins 96 102 = some (.iload_n 1, 103, 0, 0) := by decide +kernel
theorem i96_103 : ins 96 103 = some (.bipush (50), 105, 0, 50) := by decide +kernel
theorem i96_105 : ins 96 105 = some (.iastore, 106, 0, 0) := by decide +kernel
theorem i96_106 : ins 96 106 = some (.iinc 1 (1), 109, 0, 1) := by decide +kernel
theorem i96_109 : ins 96 109 = some (.goto (-20), 112, 89, 0) := by decide +kernel
theorem i96_112 : ins 96 112 = some (.return_, 113, 0, 0) := by decide +kernel
def Ps_keep_0 (a0 : Nat) (a1 : Nat) (w : Wd) : Option (Wd) :=
  (fgR w a0 4 2).bind fun v1 =>
  (fgI w a0 4 1).bind fun v5 =>
  (rdR w v1 v5).bind fun v8 =>
  (St_copy v8 a1 w).bind fun r10 =>
  (fgI r10 a0 4 1).bind fun v15 =>
  (irm (w32 (v15 + 1)) 30).bind fun v22 =>
  (fpI r10 a0 4 1 v22).bind fun w23 =>
  (fgI w23 a0 4 0).bind fun v28 =>
  (fpI w23 a0 4 0 (min (w32 (v28 + 1)) 30)).bind fun w38 =>
  some w38
theorem s_Ps_keep_0 {g : Gp} {l : Launch} {D : Nat} (hD : 2 ≤ D) (a0 : Nat) (a1 : Nat) (w : Wd) (r : Wd) (h : Ps_keep_0 a0 a1 w = some r) : Rn g l D 47 0 [(0, .inr (.inr a0)), (1, .inr (.inr a1))] [] w none r := by
  obtain ⟨D, rfl⟩ : ∃ D1, D = D1 + 1 := ⟨D - 1, by omega⟩
  unfold Ps_keep_0 at h
  refine fr_aload_n i47_0 rfl ?_
  obtain ⟨v1, h1, h⟩ := Option.bind_eq_some_iff.mp h
  refine fr_gR (k := 2) i47_1 tf4_2 h1 ?_
  refine fr_aload_n i47_4 rfl ?_
  obtain ⟨v5, h5, h⟩ := Option.bind_eq_some_iff.mp h
  refine fr_gI (k := 1) i47_5 tf4_1 h5 ?_
  obtain ⟨v8, h8, h⟩ := Option.bind_eq_some_iff.mp h
  refine rn_aald i47_8 h8 ?_
  refine fr_aload_n i47_9 rfl ?_
  obtain ⟨r10, h10, h⟩ := Option.bind_eq_some_iff.mp h
  obtain ⟨g10, c10⟩ := S_St_copy v8 a1 w r10 h10
  refine fr_callV (a := v8) (As := [.inr (.inr a1)]) (st := []) i47_10 (cq89 v8 a1) rfl (Nat.le_of_ble_eq_true rfl) g10 (c10 _ (by omega)) ?_
  refine fr_aload_n i47_13 rfl ?_
  refine fr_aload_n i47_14 rfl ?_
  obtain ⟨v15, h15, h⟩ := Option.bind_eq_some_iff.mp h
  refine fr_gI (k := 1) i47_15 tf4_1 h15 ?_
  refine rn_iconst i47_18 ?_
  refine rn_iadd i47_19 ?_
  refine rn_bipush i47_20 ?_
  obtain ⟨v22, h22, h⟩ := Option.bind_eq_some_iff.mp h
  refine fr_irm i47_22 h22 ?_
  obtain ⟨w23, h23, h⟩ := Option.bind_eq_some_iff.mp h
  refine fr_pI (k := 1) i47_23 (pf4_1 47) h23 ?_
  refine fr_aload_n i47_26 rfl ?_
  refine fr_aload_n i47_27 rfl ?_
  obtain ⟨v28, h28, h⟩ := Option.bind_eq_some_iff.mp h
  refine fr_gI (k := 0) i47_28 tf4_0 h28 ?_
  refine rn_iconst i47_31 ?_
  refine rn_iadd i47_32 ?_
  refine rn_bipush i47_33 ?_
  refine rn_min i47_35 (Nat.le_of_ble_eq_true rfl) ?_
  obtain ⟨w38, h38, h⟩ := Option.bind_eq_some_iff.mp h
  refine fr_pI (k := 0) i47_38 (pf4_0 47) h38 ?_
  obtain rfl := Option.some.inj h
  exact rn_ret i47_41 mr47
/-- HandHeirs$Past.keep(LHandHeirs$State;)V -/
def Ps_keep (a0 : Nat) (a1 : Nat) (w : Wd) : Option (Wd) := gd 4 w a0 (Ps_keep_0 a0 a1 w)
theorem S_Ps_keep {g : Gp} {l : Launch} (a0 : Nat) (a1 : Nat) (w : Wd) (r : Wd) (h : Ps_keep a0 a1 w = some r) : (wsh w a0).1 = 4 ∧ ∀ D, 2 ≤ D → Rn g l D 47 0 [(0, .inr (.inr a0)), (1, .inr (.inr a1))] [] w none r := by
  obtain ⟨hg, h⟩ := gd_some h
  exact ⟨hg, fun D hD => rn_sub [0, 1] rfl (s_Ps_keep_0 hD a0 a1 w r h)⟩
def Ps_takeBack_0 (a0 : Nat) (a1 : Nat) (w : Wd) : Option (Int × Wd) :=
  (fgI w a0 4 0).bind fun v1 =>
  if (v1 : Int) = 0 then
    some (0, w)
  else
    (fgI w a0 4 1).bind fun v11 =>
    (irm (w32 ((w32 (v11 + 30)) - 1)) 30).bind fun v21 =>
    (fpI w a0 4 1 v21).bind fun w22 =>
    (fgR w22 a0 4 2).bind fun v27 =>
    (fgI w22 a0 4 1).bind fun v31 =>
    (rdR w22 v27 v31).bind fun v34 =>
    (St_copy a1 v34 w22).bind fun r35 =>
    (fgI r35 a0 4 0).bind fun v40 =>
    (fpI r35 a0 4 0 (w32 (v40 - 1))).bind fun w45 =>
    some (1, w45)
theorem s_Ps_takeBack_0 {g : Gp} {l : Launch} {D : Nat} (hD : 2 ≤ D) (a0 : Nat) (a1 : Nat) (w : Wd) (r : Int × Wd) (h : Ps_takeBack_0 a0 a1 w = some r) : Rn g l D 48 0 [(0, .inr (.inr a0)), (1, .inr (.inr a1))] [] w (some (.inl r.1)) r.2 := by
  obtain ⟨D, rfl⟩ : ∃ D1, D = D1 + 1 := ⟨D - 1, by omega⟩
  unfold Ps_takeBack_0 at h
  refine fr_aload_n i48_0 rfl ?_
  obtain ⟨v1, h1, h⟩ := Option.bind_eq_some_iff.mp h
  refine fr_gI (k := 0) i48_1 tf4_0 h1 ?_
  by_cases c4 : (v1 : Int) = 0
  · rw [if_pos c4] at h
    refine rn_if_ne_f i48_4 c4 ?_
    refine rn_iconst i48_7 ?_
    obtain rfl := Option.some.inj h
    exact rn_retZ i48_8 mr48 (by decide)
  · rw [if_neg c4] at h
    refine rn_if_ne_t i48_4 c4 ?_
    refine fr_aload_n i48_9 rfl ?_
    refine fr_aload_n i48_10 rfl ?_
    obtain ⟨v11, h11, h⟩ := Option.bind_eq_some_iff.mp h
    refine fr_gI (k := 1) i48_11 tf4_1 h11 ?_
    refine rn_bipush i48_14 ?_
    refine rn_iadd i48_16 ?_
    refine rn_iconst i48_17 ?_
    refine rn_isub i48_18 ?_
    refine rn_bipush i48_19 ?_
    obtain ⟨v21, h21, h⟩ := Option.bind_eq_some_iff.mp h
    refine fr_irm i48_21 h21 ?_
    obtain ⟨w22, h22, h⟩ := Option.bind_eq_some_iff.mp h
    refine fr_pI (k := 1) i48_22 (pf4_1 48) h22 ?_
    refine fr_aload_n i48_25 rfl ?_
    refine fr_aload_n i48_26 rfl ?_
    obtain ⟨v27, h27, h⟩ := Option.bind_eq_some_iff.mp h
    refine fr_gR (k := 2) i48_27 tf4_2 h27 ?_
    refine fr_aload_n i48_30 rfl ?_
    obtain ⟨v31, h31, h⟩ := Option.bind_eq_some_iff.mp h
    refine fr_gI (k := 1) i48_31 tf4_1 h31 ?_
    obtain ⟨v34, h34, h⟩ := Option.bind_eq_some_iff.mp h
    refine rn_aald i48_34 h34 ?_
    obtain ⟨r35, h35, h⟩ := Option.bind_eq_some_iff.mp h
    obtain ⟨g35, c35⟩ := S_St_copy a1 v34 w22 r35 h35
    refine fr_callV (a := a1) (As := [.inr (.inr v34)]) (st := []) i48_35 (cq89 a1 v34) rfl (Nat.le_of_ble_eq_true rfl) g35 (c35 _ (by omega)) ?_
    refine fr_aload_n i48_38 rfl ?_
    refine rn_dup i48_39 rfl ?_
    obtain ⟨v40, h40, h⟩ := Option.bind_eq_some_iff.mp h
    refine fr_gI (k := 0) i48_40 tf4_0 h40 ?_
    refine rn_iconst i48_43 ?_
    refine rn_isub i48_44 ?_
    obtain ⟨w45, h45, h⟩ := Option.bind_eq_some_iff.mp h
    refine fr_pI (k := 0) i48_45 (pf4_0 48) h45 ?_
    refine rn_iconst i48_48 ?_
    obtain rfl := Option.some.inj h
    exact rn_retZ i48_49 mr48 (by decide)
/-- HandHeirs$Past.takeBack(LHandHeirs$State;)Z -/
def Ps_takeBack (a0 : Nat) (a1 : Nat) (w : Wd) : Option (Int × Wd) := gd 4 w a0 (Ps_takeBack_0 a0 a1 w)
theorem S_Ps_takeBack {g : Gp} {l : Launch} (a0 : Nat) (a1 : Nat) (w : Wd) (r : Int × Wd) (h : Ps_takeBack a0 a1 w = some r) : (wsh w a0).1 = 4 ∧ ∀ D, 2 ≤ D → Rn g l D 48 0 [(0, .inr (.inr a0)), (1, .inr (.inr a1))] [] w (some (.inl r.1)) r.2 := by
  obtain ⟨hg, h⟩ := gd_some h
  exact ⟨hg, fun D hD => rn_sub [0, 1] rfl (s_Ps_takeBack_0 hD a0 a1 w r h)⟩
def Pl_init_0 (a0 : Nat) (w : Wd) : Option (Wd) :=
  (tgd w a0 5).bind fun _ =>
  (nwA w 20 6).bind fun w7 =>
  (fpR w7 a0 5 0 (wn w)).bind fun w9 =>
  (nwM w9 6 13).bind fun w17 =>
  (fpR w17 a0 5 1 (wn w9)).bind fun w21 =>
  (nwM w21 6 13).bind fun w29 =>
  (fpR w29 a0 5 2 (wn w21)).bind fun w33 =>
  some w33
theorem s_Pl_init_0 {g : Gp} {l : Launch} {D : Nat} (hD : 1 ≤ D) (a0 : Nat) (w : Wd) (r : Wd) (h : Pl_init_0 a0 w = some r) : Rn g l D 49 0 [(0, .inr (.inr a0))] [] w none r := by
  obtain ⟨D, rfl⟩ : ∃ D1, D = D1 + 1 := ⟨D - 1, by omega⟩
  unfold Pl_init_0 at h
  refine fr_aload_n i49_0 rfl ?_
  obtain ⟨_, h1, h⟩ := Option.bind_eq_some_iff.mp h
  refine fr_objI i49_1 h1 (by decide) (Nat.le_of_ble_eq_true rfl) ?_
  refine fr_aload_n i49_4 rfl ?_
  refine rn_bipush i49_5 ?_
  obtain ⟨w7, h7, h⟩ := Option.bind_eq_some_iff.mp h
  refine rn_newa (t := 20) i49_7 (by decide) rfl h7 ?_
  obtain ⟨w9, h9, h⟩ := Option.bind_eq_some_iff.mp h
  refine fr_pR (k := 0) i49_9 pf49_5_0 h9 ?_
  refine fr_aload_n i49_12 rfl ?_
  refine rn_bipush i49_13 ?_
  refine rn_bipush i49_15 ?_
  obtain ⟨w17, h17, h⟩ := Option.bind_eq_some_iff.mp h
  refine rn_multi i49_17 h17 ?_
  obtain ⟨w21, h21, h⟩ := Option.bind_eq_some_iff.mp h
  refine fr_pR (k := 1) i49_21 pf49_5_1 h21 ?_
  refine fr_aload_n i49_24 rfl ?_
  refine rn_bipush i49_25 ?_
  refine rn_bipush i49_27 ?_
  obtain ⟨w29, h29, h⟩ := Option.bind_eq_some_iff.mp h
  refine rn_multi i49_29 h29 ?_
  obtain ⟨w33, h33, h⟩ := Option.bind_eq_some_iff.mp h
  refine fr_pR (k := 2) i49_33 pf49_5_2 h33 ?_
  obtain rfl := Option.some.inj h
  exact rn_ret i49_36 mr49
/-- HandHeirs$Planner.<init>()V -/
def Pl_init (a0 : Nat) (w : Wd) : Option (Wd) := gd 5 w a0 (Pl_init_0 a0 w)
theorem S_Pl_init {g : Gp} {l : Launch} (a0 : Nat) (w : Wd) (r : Wd) (h : Pl_init a0 w = some r) : (wsh w a0).1 = 5 ∧ ∀ D, 1 ≤ D → Rn g l D 49 0 [(0, .inr (.inr a0))] [] w none r := by
  obtain ⟨hg, h⟩ := gd_some h
  exact ⟨hg, fun D hD => rn_sub [0] rfl (s_Pl_init_0 hD a0 w r h)⟩
def Pl_cost_22 : Nat → Nat → Int → Int → Wd → Option (Int × Wd)
  | 0, _, _, _, _ => none
  | n + 1, a1, x6, x7, w =>
    (fgI w a1 10 2).bind fun v25 =>
    if (v25 : Int) ≤ x7 then
      some (x6, w)
    else
      (Wi_toldBy a1 x7 w).bind fun r36 =>
      Pl_cost_22 n a1 (w32 (x6 + r36.1)) (w32 (x7 + 1)) r36.2
theorem s_Pl_cost_22 {g : Gp} {l : Launch} {D : Nat} (hD : 3 ≤ D) : ∀ (n : Nat) (a1 : Nat) (x6 : Int) (x7 : Int) (w : Wd) (r : Int × Wd), Pl_cost_22 n a1 x6 x7 w = some r → Rn g l D 51 22 [(1, .inr (.inr a1)), (6, .inl x6), (7, .inl x7)] [] w (some (.inl r.1)) r.2 := by
  obtain ⟨D, rfl⟩ : ∃ D1, D = D1 + 1 := ⟨D - 1, by omega⟩
  intro n
  induction n with
  | zero => intro a1 x6 x7 w r h; cases (show (none : Option (Int × Wd)) = some r from h)
  | succ n ih =>
    intro a1 x6 x7 w r h
    unfold Pl_cost_22 at h
    refine rn_iload i51_22 rfl ?_
    refine fr_aload_n i51_24 rfl ?_
    obtain ⟨v25, h25, h⟩ := Option.bind_eq_some_iff.mp h
    refine fr_gI (k := 2) i51_25 tf10_2 h25 ?_
    by_cases c28 : (v25 : Int) ≤ x7
    · rw [if_pos c28] at h
      refine rn_icmp_ge_t i51_28 c28 ?_
      refine rn_iload i51_48 rfl ?_
      obtain rfl := Option.some.inj h
      exact rn_retI i51_50 mr51
    · rw [if_neg c28] at h
      refine rn_icmp_ge_f i51_28 c28 ?_
      refine rn_iload i51_31 rfl ?_
      refine fr_aload_n i51_33 rfl ?_
      refine rn_iload i51_34 rfl ?_
      obtain ⟨r36, h36, h⟩ := Option.bind_eq_some_iff.mp h
      obtain ⟨g36, c36⟩ := S_Wi_toldBy a1 x7 w r36 h36
      refine fr_callV (a := a1) (As := [.inl x7]) (st := [.inl x6]) i51_36 (cq100 a1 x7) rfl (Nat.le_of_ble_eq_true rfl) g36 (c36 _ (by omega)) ?_
      show Rn _ _ _ _ _ _ [.inl r36.1, .inl x6] _ _ _
      refine rn_iadd i51_39 ?_
      refine rn_istore (ls1 := [(6, .inl (w32 (x6 + r36.1))), (1, .inr (.inr a1)), (7, .inl x7)]) i51_40 rfl ?_
      refine rn_iinc (ls1 := [(7, .inl (w32 (x7 + 1))), (6, .inl (w32 (x6 + r36.1))), (1, .inr (.inr a1))]) i51_42 rfl rfl ?_
      refine rn_goto i51_45 ?_
      exact rn_sub [2, 1, 0] rfl (ih a1 (w32 (x6 + r36.1)) (w32 (x7 + 1)) r36.2 r h)
def Pl_cost_0 (a1 : Nat) (a2 : Nat) (x3 : Int) (x4 : Int) (x5 : Int) (w : Wd) : Option (Int × Wd) :=
  (St_nearer a2 x3 x4 x5 w).bind fun r10 =>
  (Wi_showMasters a1 a2 x4 (r10.1) r10.2).bind fun r13 =>
  Pl_cost_22 FU a1 0 0 r13
theorem s_Pl_cost_0 {g : Gp} {l : Launch} {D : Nat} (hD : 3 ≤ D) (a1 : Nat) (a2 : Nat) (x3 : Int) (x4 : Int) (x5 : Int) (w : Wd) (r : Int × Wd) (h : Pl_cost_0 a1 a2 x3 x4 x5 w = some r) : Rn g l D 51 0 [(1, .inr (.inr a1)), (2, .inr (.inr a2)), (3, .inl x3), (4, .inl x4), (5, .inl x5)] [] w (some (.inl r.1)) r.2 := by
  obtain ⟨D, rfl⟩ : ∃ D1, D = D1 + 1 := ⟨D - 1, by omega⟩
  unfold Pl_cost_0 at h
  refine fr_aload_n i51_0 rfl ?_
  refine fr_aload_n i51_1 rfl ?_
  refine rn_iload i51_2 rfl ?_
  refine fr_aload_n i51_4 rfl ?_
  refine rn_iload_n i51_5 rfl ?_
  refine rn_iload i51_6 rfl ?_
  refine rn_iload i51_8 rfl ?_
  obtain ⟨r10, h10, h⟩ := Option.bind_eq_some_iff.mp h
  obtain ⟨g10, c10⟩ := S_St_nearer a2 x3 x4 x5 w r10 h10
  refine fr_callV (a := a2) (As := [.inl x3, .inl x4, .inl x5]) (st := [.inl x4, .inr (.inr a2), .inr (.inr a1)]) i51_10 (cq93 a2 x3 x4 x5) rfl (Nat.le_of_ble_eq_true rfl) g10 (c10 _ (by omega)) ?_
  show Rn _ _ _ _ _ _ [.inl r10.1, .inl x4, .inr (.inr a2), .inr (.inr a1)] _ _ _
  obtain ⟨r13, h13, h⟩ := Option.bind_eq_some_iff.mp h
  obtain ⟨g13, c13⟩ := S_Wi_showMasters a1 a2 x4 (r10.1) r10.2 r13 h13
  refine fr_callV (a := a1) (As := [.inr (.inr a2), .inl x4, .inl r10.1]) (st := []) i51_13 (cq99 a1 a2 x4 (r10.1)) rfl (Nat.le_of_ble_eq_true rfl) g13 (c13 _ (by omega)) ?_
  refine rn_iconst i51_16 ?_
  refine rn_istore (ls1 := [(6, .inl 0), (1, .inr (.inr a1)), (2, .inr (.inr a2)), (3, .inl x3), (4, .inl x4), (5, .inl x5)]) i51_17 rfl ?_
  refine rn_iconst i51_19 ?_
  refine rn_istore (ls1 := [(7, .inl 0), (6, .inl 0), (1, .inr (.inr a1)), (2, .inr (.inr a2)), (3, .inl x3), (4, .inl x4), (5, .inl x5)]) i51_20 rfl ?_
  exact rn_sub [2, 1, 0] rfl (s_Pl_cost_22 hD FU a1 0 0 r13 r h)
/-- HandHeirs$Planner.cost(LHandHeirs$Will;LHandHeirs$State;III)I -/
def Pl_cost (a0 : Nat) (a1 : Nat) (a2 : Nat) (x3 : Int) (x4 : Int) (x5 : Int) (w : Wd) : Option (Int × Wd) := gd 5 w a0 (Pl_cost_0 a1 a2 x3 x4 x5 w)
theorem S_Pl_cost {g : Gp} {l : Launch} (a0 : Nat) (a1 : Nat) (a2 : Nat) (x3 : Int) (x4 : Int) (x5 : Int) (w : Wd) (r : Int × Wd) (h : Pl_cost a0 a1 a2 x3 x4 x5 w = some r) : (wsh w a0).1 = 5 ∧ ∀ D, 3 ≤ D → Rn g l D 51 0 [(0, .inr (.inr a0)), (1, .inr (.inr a1)), (2, .inr (.inr a2)), (3, .inl x3), (4, .inl x4), (5, .inl x5)] [] w (some (.inl r.1)) r.2 := by
  obtain ⟨hg, h⟩ := gd_some h
  exact ⟨hg, fun D hD => rn_sub [1, 2, 3, 4, 5] rfl (s_Pl_cost_0 hD a1 a2 x3 x4 x5 w r h)⟩
def Pl_shareWith_33 (s0 : Int) (s1 : Int) (w : Wd) : Option (Int × Wd) :=
  some ((w32 (s1 + s0)), w)
theorem s_Pl_shareWith_33 {g : Gp} {l : Launch} {D : Nat} (hD : 0 ≤ D) (s0 : Int) (s1 : Int) (w : Wd) (r : Int × Wd) (h : Pl_shareWith_33 s0 s1 w = some r) : Rn g l D 52 33 [] [.inl s0, .inl s1] w (some (.inl r.1)) r.2 := by
  unfold Pl_shareWith_33 at h
  refine rn_iadd i52_33 ?_
  obtain rfl := Option.some.inj h
  exact rn_retI i52_34 mr52
def Pl_shareWith_0 (a0 : Nat) (x1 : Int) (x2 : Int) (x3 : Int) (x4 : Int) (w : Wd) : Option (Int × Wd) :=
  (fgR w a0 5 1).bind fun v1 =>
  (rdR w v1 x1).bind fun v5 =>
  (rdI w v5 x4).bind fun v8 =>
  if (x2 : Int) ≤ (w32 (x1 + 1)) then
    Pl_shareWith_33 0 v8 w
  else
    (fgR w a0 5 2).bind fun v17 =>
    (rdR w v17 (w32 (x1 + 1))).bind fun v23 =>
    (rdI w v23 (w32 (x3 - x4))).bind fun v28 =>
    Pl_shareWith_33 v28 v8 w
theorem s_Pl_shareWith_0 {g : Gp} {l : Launch} {D : Nat} (hD : 0 ≤ D) (a0 : Nat) (x1 : Int) (x2 : Int) (x3 : Int) (x4 : Int) (w : Wd) (r : Int × Wd) (h : Pl_shareWith_0 a0 x1 x2 x3 x4 w = some r) : Rn g l D 52 0 [(0, .inr (.inr a0)), (1, .inl x1), (2, .inl x2), (3, .inl x3), (4, .inl x4)] [] w (some (.inl r.1)) r.2 := by
  unfold Pl_shareWith_0 at h
  refine fr_aload_n i52_0 rfl ?_
  obtain ⟨v1, h1, h⟩ := Option.bind_eq_some_iff.mp h
  refine fr_gR (k := 1) i52_1 tf5_1 h1 ?_
  refine rn_iload_n i52_4 rfl ?_
  obtain ⟨v5, h5, h⟩ := Option.bind_eq_some_iff.mp h
  refine rn_aald i52_5 h5 ?_
  refine rn_iload i52_6 rfl ?_
  obtain ⟨v8, h8, h⟩ := Option.bind_eq_some_iff.mp h
  refine rn_iald i52_8 h8 ?_
  refine rn_iload_n i52_9 rfl ?_
  refine rn_iconst i52_10 ?_
  refine rn_iadd i52_11 ?_
  refine rn_iload_n i52_12 rfl ?_
  by_cases c13 : (x2 : Int) ≤ (w32 (x1 + 1))
  · rw [if_pos c13] at h
    refine rn_icmp_ge_t i52_13 c13 ?_
    refine rn_iconst i52_32 ?_
    exact rn_sub [] rfl (s_Pl_shareWith_33 hD 0 v8 w r h)
  · rw [if_neg c13] at h
    refine rn_icmp_ge_f i52_13 c13 ?_
    refine fr_aload_n i52_16 rfl ?_
    obtain ⟨v17, h17, h⟩ := Option.bind_eq_some_iff.mp h
    refine fr_gR (k := 2) i52_17 tf5_2 h17 ?_
    refine rn_iload_n i52_20 rfl ?_
    refine rn_iconst i52_21 ?_
    refine rn_iadd i52_22 ?_
    obtain ⟨v23, h23, h⟩ := Option.bind_eq_some_iff.mp h
    refine rn_aald i52_23 h23 ?_
    refine rn_iload_n i52_24 rfl ?_
    refine rn_iload i52_25 rfl ?_
    refine rn_isub i52_27 ?_
    obtain ⟨v28, h28, h⟩ := Option.bind_eq_some_iff.mp h
    refine rn_iald i52_28 h28 ?_
    refine rn_goto i52_29 ?_
    exact rn_sub [] rfl (s_Pl_shareWith_33 hD v28 v8 w r h)
/-- HandHeirs$Planner.shareWith(IIII)I -/
def Pl_shareWith (a0 : Nat) (x1 : Int) (x2 : Int) (x3 : Int) (x4 : Int) (w : Wd) : Option (Int × Wd) := gd 5 w a0 (Pl_shareWith_0 a0 x1 x2 x3 x4 w)
theorem S_Pl_shareWith {g : Gp} {l : Launch} (a0 : Nat) (x1 : Int) (x2 : Int) (x3 : Int) (x4 : Int) (w : Wd) (r : Int × Wd) (h : Pl_shareWith a0 x1 x2 x3 x4 w = some r) : (wsh w a0).1 = 5 ∧ ∀ D, 0 ≤ D → Rn g l D 52 0 [(0, .inr (.inr a0)), (1, .inl x1), (2, .inl x2), (3, .inl x3), (4, .inl x4)] [] w (some (.inl r.1)) r.2 := by
  obtain ⟨hg, h⟩ := gd_some h
  exact ⟨hg, fun D hD => rn_sub [0, 1, 2, 3, 4] rfl (s_Pl_shareWith_0 hD a0 x1 x2 x3 x4 w r h)⟩
def Pl_mostDays_47 (k17 : Nat → Int → Int → Int → Int → Int → Wd → Option (Int × Wd)) (a0 : Nat) (x1 : Int) (x2 : Int) (x3 : Int) (x4 : Int) (x5 : Int) (w : Wd) : Option (Int × Wd) :=
  k17 a0 x1 x2 x3 x4 (w32 (x5 + (-1))) w
theorem s_Pl_mostDays_47 {g : Gp} {l : Launch} {D : Nat} (hD : 1 ≤ D) (k17 : Nat → Int → Int → Int → Int → Int → Wd → Option (Int × Wd)) (hk17 : ∀ (a0 : Nat) (x1 : Int) (x2 : Int) (x3 : Int) (x4 : Int) (x5 : Int) (w : Wd) (r : Int × Wd), k17 a0 x1 x2 x3 x4 x5 w = some r → Rn g l D 53 17 [(0, .inr (.inr a0)), (1, .inl x1), (2, .inl x2), (3, .inl x3), (4, .inl x4), (5, .inl x5)] [] w (some (.inl r.1)) r.2) (a0 : Nat) (x1 : Int) (x2 : Int) (x3 : Int) (x4 : Int) (x5 : Int) (w : Wd) (r : Int × Wd) (h : Pl_mostDays_47 k17 a0 x1 x2 x3 x4 x5 w = some r) : Rn g l D 53 47 [(0, .inr (.inr a0)), (1, .inl x1), (2, .inl x2), (3, .inl x3), (4, .inl x4), (5, .inl x5)] [] w (some (.inl r.1)) r.2 := by
  unfold Pl_mostDays_47 at h
  refine rn_iinc (ls1 := [(5, .inl (w32 (x5 + (-1)))), (0, .inr (.inr a0)), (1, .inl x1), (2, .inl x2), (3, .inl x3), (4, .inl x4)]) i53_47 rfl rfl ?_
  refine rn_goto i53_50 ?_
  exact rn_sub [1, 2, 3, 4, 5, 0] rfl (hk17 a0 x1 x2 x3 x4 (w32 (x5 + (-1))) w r h)
def Pl_mostDays_17 : Nat → Nat → Int → Int → Int → Int → Int → Wd → Option (Int × Wd)
  | 0, _, _, _, _, _, _, _ => none
  | n + 1, a0, x1, x2, x3, x4, x5, w =>
    if (x5 : Int) < 0 then
      some (x4, w)
    else
      (Pl_shareWith a0 x1 x2 x3 x5 w).bind fun r28 =>
      (Pl_shareWith a0 x1 x2 x3 x4 r28.2).bind fun r37 =>
      if (r37.1 : Int) ≤ r28.1 then
        Pl_mostDays_47 (Pl_mostDays_17 n) a0 x1 x2 x3 x4 x5 r37.2
      else
        Pl_mostDays_47 (Pl_mostDays_17 n) a0 x1 x2 x3 x5 x5 r37.2
theorem s_Pl_mostDays_17 {g : Gp} {l : Launch} {D : Nat} (hD : 1 ≤ D) : ∀ (n : Nat) (a0 : Nat) (x1 : Int) (x2 : Int) (x3 : Int) (x4 : Int) (x5 : Int) (w : Wd) (r : Int × Wd), Pl_mostDays_17 n a0 x1 x2 x3 x4 x5 w = some r → Rn g l D 53 17 [(0, .inr (.inr a0)), (1, .inl x1), (2, .inl x2), (3, .inl x3), (4, .inl x4), (5, .inl x5)] [] w (some (.inl r.1)) r.2 := by
  obtain ⟨D, rfl⟩ : ∃ D1, D = D1 + 1 := ⟨D - 1, by omega⟩
  intro n
  induction n with
  | zero => intro a0 x1 x2 x3 x4 x5 w r h; cases (show (none : Option (Int × Wd)) = some r from h)
  | succ n ih =>
    intro a0 x1 x2 x3 x4 x5 w r h
    unfold Pl_mostDays_17 at h
    refine rn_iload i53_17 rfl ?_
    by_cases c19 : (x5 : Int) < 0
    · rw [if_pos c19] at h
      refine rn_if_lt_t i53_19 c19 ?_
      refine rn_iload i53_53 rfl ?_
      obtain rfl := Option.some.inj h
      exact rn_retI i53_55 mr53
    · rw [if_neg c19] at h
      refine rn_if_lt_f i53_19 c19 ?_
      refine fr_aload_n i53_22 rfl ?_
      refine rn_iload_n i53_23 rfl ?_
      refine rn_iload_n i53_24 rfl ?_
      refine rn_iload_n i53_25 rfl ?_
      refine rn_iload i53_26 rfl ?_
      obtain ⟨r28, h28, h⟩ := Option.bind_eq_some_iff.mp h
      obtain ⟨g28, c28⟩ := S_Pl_shareWith a0 x1 x2 x3 x5 w r28 h28
      refine fr_callV (a := a0) (As := [.inl x1, .inl x2, .inl x3, .inl x5]) (st := []) i53_28 (cq52 a0 x1 x2 x3 x5) rfl (Nat.le_of_ble_eq_true rfl) g28 (c28 _ (by omega)) ?_
      show Rn _ _ _ _ _ _ [.inl r28.1] _ _ _
      refine fr_aload_n i53_31 rfl ?_
      refine rn_iload_n i53_32 rfl ?_
      refine rn_iload_n i53_33 rfl ?_
      refine rn_iload_n i53_34 rfl ?_
      refine rn_iload i53_35 rfl ?_
      obtain ⟨r37, h37, h⟩ := Option.bind_eq_some_iff.mp h
      obtain ⟨g37, c37⟩ := S_Pl_shareWith a0 x1 x2 x3 x4 r28.2 r37 h37
      refine fr_callV (a := a0) (As := [.inl x1, .inl x2, .inl x3, .inl x4]) (st := [.inl r28.1]) i53_37 (cq52 a0 x1 x2 x3 x4) rfl (Nat.le_of_ble_eq_true rfl) g37 (c37 _ (by omega)) ?_
      show Rn _ _ _ _ _ _ [.inl r37.1, .inl r28.1] _ _ _
      by_cases c40 : (r37.1 : Int) ≤ r28.1
      · rw [if_pos c40] at h
        refine rn_icmp_ge_t i53_40 c40 ?_
        exact rn_sub [0, 1, 2, 3, 4, 5] rfl (s_Pl_mostDays_47 hD (Pl_mostDays_17 n) ih a0 x1 x2 x3 x4 x5 r37.2 r h)
      · rw [if_neg c40] at h
        refine rn_icmp_ge_f i53_40 c40 ?_
        refine rn_iload i53_43 rfl ?_
        refine rn_istore (ls1 := [(4, .inl x5), (0, .inr (.inr a0)), (1, .inl x1), (2, .inl x2), (3, .inl x3), (5, .inl x5)]) i53_45 rfl ?_
        exact rn_sub [1, 2, 3, 4, 0, 5] rfl (s_Pl_mostDays_47 hD (Pl_mostDays_17 n) ih a0 x1 x2 x3 x5 x5 r37.2 r h)
def Pl_mostDays_0 (a0 : Nat) (x1 : Int) (x2 : Int) (x3 : Int) (w : Wd) : Option (Int × Wd) :=
  if ((w32 (x1 + 1)) : Int) < x2 then
    Pl_mostDays_17 FU a0 x1 x2 x3 x3 (w32 (x3 - 1)) w
  else
    some (x3, w)
theorem s_Pl_mostDays_0 {g : Gp} {l : Launch} {D : Nat} (hD : 1 ≤ D) (a0 : Nat) (x1 : Int) (x2 : Int) (x3 : Int) (w : Wd) (r : Int × Wd) (h : Pl_mostDays_0 a0 x1 x2 x3 w = some r) : Rn g l D 53 0 [(0, .inr (.inr a0)), (1, .inl x1), (2, .inl x2), (3, .inl x3)] [] w (some (.inl r.1)) r.2 := by
  unfold Pl_mostDays_0 at h
  refine rn_iload_n i53_0 rfl ?_
  refine rn_iconst i53_1 ?_
  refine rn_iadd i53_2 ?_
  refine rn_iload_n i53_3 rfl ?_
  by_cases c4 : ((w32 (x1 + 1)) : Int) < x2
  · rw [if_pos c4] at h
    refine rn_icmp_lt_t i53_4 c4 ?_
    refine rn_iload_n i53_9 rfl ?_
    refine rn_istore (ls1 := [(4, .inl x3), (0, .inr (.inr a0)), (1, .inl x1), (2, .inl x2), (3, .inl x3)]) i53_10 rfl ?_
    refine rn_iload_n i53_12 rfl ?_
    refine rn_iconst i53_13 ?_
    refine rn_isub i53_14 ?_
    refine rn_istore (ls1 := [(5, .inl (w32 (x3 - 1))), (4, .inl x3), (0, .inr (.inr a0)), (1, .inl x1), (2, .inl x2), (3, .inl x3)]) i53_15 rfl ?_
    exact rn_sub [2, 3, 4, 5, 1, 0] rfl (s_Pl_mostDays_17 hD FU a0 x1 x2 x3 x3 (w32 (x3 - 1)) w r h)
  · rw [if_neg c4] at h
    refine rn_icmp_lt_f i53_4 c4 ?_
    refine rn_iload_n i53_7 rfl ?_
    obtain rfl := Option.some.inj h
    exact rn_retI i53_8 mr53
/-- HandHeirs$Planner.mostDays(III)I -/
def Pl_mostDays (a0 : Nat) (x1 : Int) (x2 : Int) (x3 : Int) (w : Wd) : Option (Int × Wd) := gd 5 w a0 (Pl_mostDays_0 a0 x1 x2 x3 w)
theorem S_Pl_mostDays {g : Gp} {l : Launch} (a0 : Nat) (x1 : Int) (x2 : Int) (x3 : Int) (w : Wd) (r : Int × Wd) (h : Pl_mostDays a0 x1 x2 x3 w = some r) : (wsh w a0).1 = 5 ∧ ∀ D, 1 ≤ D → Rn g l D 53 0 [(0, .inr (.inr a0)), (1, .inl x1), (2, .inl x2), (3, .inl x3)] [] w (some (.inl r.1)) r.2 := by
  obtain ⟨hg, h⟩ := gd_some h
  exact ⟨hg, fun D hD => rn_sub [0, 1, 2, 3] rfl (s_Pl_mostDays_0 hD a0 x1 x2 x3 w r h)⟩
def Pl_lay_116 (k17 : Nat → Nat → Nat → Int → Int → Int → Wd → Option (Int × Wd)) (a0 : Nat) (a1 : Nat) (a2 : Nat) (x3 : Int) (x4 : Int) (x5 : Int) (w : Wd) : Option (Int × Wd) :=
  k17 a0 a1 a2 x3 x4 (w32 (x5 + (-1))) w
theorem s_Pl_lay_116 {g : Gp} {l : Launch} {D : Nat} (hD : 4 ≤ D) (k17 : Nat → Nat → Nat → Int → Int → Int → Wd → Option (Int × Wd)) (hk17 : ∀ (a0 : Nat) (a1 : Nat) (a2 : Nat) (x3 : Int) (x4 : Int) (x5 : Int) (w : Wd) (r : Int × Wd), k17 a0 a1 a2 x3 x4 x5 w = some r → Rn g l D 50 17 [(0, .inr (.inr a0)), (1, .inr (.inr a1)), (2, .inr (.inr a2)), (3, .inl x3), (4, .inl x4), (5, .inl x5)] [] w (some (.inl r.1)) r.2) (a0 : Nat) (a1 : Nat) (a2 : Nat) (x3 : Int) (x4 : Int) (x5 : Int) (w : Wd) (r : Int × Wd) (h : Pl_lay_116 k17 a0 a1 a2 x3 x4 x5 w = some r) : Rn g l D 50 116 [(0, .inr (.inr a0)), (1, .inr (.inr a1)), (2, .inr (.inr a2)), (3, .inl x3), (4, .inl x4), (5, .inl x5)] [] w (some (.inl r.1)) r.2 := by
  unfold Pl_lay_116 at h
  refine rn_iinc (ls1 := [(5, .inl (w32 (x5 + (-1)))), (0, .inr (.inr a0)), (1, .inr (.inr a1)), (2, .inr (.inr a2)), (3, .inl x3), (4, .inl x4)]) i50_116 rfl rfl ?_
  refine rn_goto i50_119 ?_
  exact rn_sub [1, 2, 3, 4, 5, 0] rfl (hk17 a0 a1 a2 x3 x4 (w32 (x5 + (-1))) w r h)
def Pl_lay_69 (k17 : Nat → Nat → Nat → Int → Int → Int → Wd → Option (Int × Wd)) : Nat → Nat → Nat → Nat → Int → Int → Int → Int → Wd → Option (Int × Wd)
  | 0, _, _, _, _, _, _, _, _ => none
  | n + 1, a0, a1, a2, x3, x4, x5, x6, w =>
    if (x4 : Int) < x6 then
      Pl_lay_116 k17 a0 a1 a2 x3 x4 x5 w
    else
      (fgR w a0 5 2).bind fun v77 =>
      (rdR w v77 x5).bind fun v82 =>
      (fgI w a1 10 0).bind fun v89 =>
      (fgI w a1 10 0).bind fun v98 =>
      (Pl_mostDays a0 x5 v98 x6 w).bind fun r103 =>
      (Pl_shareWith a0 x5 v89 x6 (r103.1) r103.2).bind fun r106 =>
      (wrI r106.2 v82 x6 r106.1).bind fun w109 =>
      Pl_lay_69 k17 n a0 a1 a2 x3 x4 x5 (w32 (x6 + 1)) w109
theorem s_Pl_lay_69 {g : Gp} {l : Launch} {D : Nat} (hD : 4 ≤ D) (k17 : Nat → Nat → Nat → Int → Int → Int → Wd → Option (Int × Wd)) (hk17 : ∀ (a0 : Nat) (a1 : Nat) (a2 : Nat) (x3 : Int) (x4 : Int) (x5 : Int) (w : Wd) (r : Int × Wd), k17 a0 a1 a2 x3 x4 x5 w = some r → Rn g l D 50 17 [(0, .inr (.inr a0)), (1, .inr (.inr a1)), (2, .inr (.inr a2)), (3, .inl x3), (4, .inl x4), (5, .inl x5)] [] w (some (.inl r.1)) r.2) : ∀ (n : Nat) (a0 : Nat) (a1 : Nat) (a2 : Nat) (x3 : Int) (x4 : Int) (x5 : Int) (x6 : Int) (w : Wd) (r : Int × Wd), Pl_lay_69 k17 n a0 a1 a2 x3 x4 x5 x6 w = some r → Rn g l D 50 69 [(0, .inr (.inr a0)), (1, .inr (.inr a1)), (2, .inr (.inr a2)), (3, .inl x3), (4, .inl x4), (5, .inl x5), (6, .inl x6)] [] w (some (.inl r.1)) r.2 := by
  obtain ⟨D, rfl⟩ : ∃ D1, D = D1 + 1 := ⟨D - 1, by omega⟩
  intro n
  induction n with
  | zero => intro a0 a1 a2 x3 x4 x5 x6 w r h; cases (show (none : Option (Int × Wd)) = some r from h)
  | succ n ih =>
    intro a0 a1 a2 x3 x4 x5 x6 w r h
    unfold Pl_lay_69 at h
    refine rn_iload i50_69 rfl ?_
    refine rn_iload i50_71 rfl ?_
    by_cases c73 : (x4 : Int) < x6
    · rw [if_pos c73] at h
      refine rn_icmp_gt_t i50_73 c73 ?_
      exact rn_sub [0, 1, 2, 3, 4, 5] rfl (s_Pl_lay_116 hD k17 hk17 a0 a1 a2 x3 x4 x5 w r h)
    · rw [if_neg c73] at h
      refine rn_icmp_gt_f i50_73 c73 ?_
      refine fr_aload_n i50_76 rfl ?_
      obtain ⟨v77, h77, h⟩ := Option.bind_eq_some_iff.mp h
      refine fr_gR (k := 2) i50_77 tf5_2 h77 ?_
      refine rn_iload i50_80 rfl ?_
      obtain ⟨v82, h82, h⟩ := Option.bind_eq_some_iff.mp h
      refine rn_aald i50_82 h82 ?_
      refine rn_iload i50_83 rfl ?_
      refine fr_aload_n i50_85 rfl ?_
      refine rn_iload i50_86 rfl ?_
      refine fr_aload_n i50_88 rfl ?_
      obtain ⟨v89, h89, h⟩ := Option.bind_eq_some_iff.mp h
      refine fr_gI (k := 0) i50_89 tf10_0 h89 ?_
      refine rn_iload i50_92 rfl ?_
      refine fr_aload_n i50_94 rfl ?_
      refine rn_iload i50_95 rfl ?_
      refine fr_aload_n i50_97 rfl ?_
      obtain ⟨v98, h98, h⟩ := Option.bind_eq_some_iff.mp h
      refine fr_gI (k := 0) i50_98 tf10_0 h98 ?_
      refine rn_iload i50_101 rfl ?_
      obtain ⟨r103, h103, h⟩ := Option.bind_eq_some_iff.mp h
      obtain ⟨g103, c103⟩ := S_Pl_mostDays a0 x5 v98 x6 w r103 h103
      refine fr_callV (a := a0) (As := [.inl x5, .inl v98, .inl x6]) (st := [.inl x6, .inl v89, .inl x5, .inr (.inr a0), .inl x6, .inr (.inr v82)]) i50_103 (cq53 a0 x5 v98 x6) rfl (Nat.le_of_ble_eq_true rfl) g103 (c103 _ (by omega)) ?_
      show Rn _ _ _ _ _ _ [.inl r103.1, .inl x6, .inl v89, .inl x5, .inr (.inr a0), .inl x6, .inr (.inr v82)] _ _ _
      obtain ⟨r106, h106, h⟩ := Option.bind_eq_some_iff.mp h
      obtain ⟨g106, c106⟩ := S_Pl_shareWith a0 x5 v89 x6 (r103.1) r103.2 r106 h106
      refine fr_callV (a := a0) (As := [.inl x5, .inl v89, .inl x6, .inl r103.1]) (st := [.inl x6, .inr (.inr v82)]) i50_106 (cq52 a0 x5 v89 x6 (r103.1)) rfl (Nat.le_of_ble_eq_true rfl) g106 (c106 _ (by omega)) ?_
      show Rn _ _ _ _ _ _ [.inl r106.1, .inl x6, .inr (.inr v82)] _ _ _
      obtain ⟨w109, h109, h⟩ := Option.bind_eq_some_iff.mp h
      refine rn_iast i50_109 h109 ?_
      refine rn_iinc (ls1 := [(6, .inl (w32 (x6 + 1))), (0, .inr (.inr a0)), (1, .inr (.inr a1)), (2, .inr (.inr a2)), (3, .inl x3), (4, .inl x4), (5, .inl x5)]) i50_110 rfl rfl ?_
      refine rn_goto i50_113 ?_
      exact rn_sub [1, 2, 3, 4, 5, 6, 0] rfl (ih a0 a1 a2 x3 x4 x5 (w32 (x6 + 1)) w109 r h)
def Pl_lay_66 (k17 : Nat → Nat → Nat → Int → Int → Int → Wd → Option (Int × Wd)) (a0 : Nat) (a1 : Nat) (a2 : Nat) (x3 : Int) (x4 : Int) (x5 : Int) (w : Wd) : Option (Int × Wd) :=
  Pl_lay_69 k17 FU a0 a1 a2 x3 x4 x5 0 w
theorem s_Pl_lay_66 {g : Gp} {l : Launch} {D : Nat} (hD : 4 ≤ D) (k17 : Nat → Nat → Nat → Int → Int → Int → Wd → Option (Int × Wd)) (hk17 : ∀ (a0 : Nat) (a1 : Nat) (a2 : Nat) (x3 : Int) (x4 : Int) (x5 : Int) (w : Wd) (r : Int × Wd), k17 a0 a1 a2 x3 x4 x5 w = some r → Rn g l D 50 17 [(0, .inr (.inr a0)), (1, .inr (.inr a1)), (2, .inr (.inr a2)), (3, .inl x3), (4, .inl x4), (5, .inl x5)] [] w (some (.inl r.1)) r.2) (a0 : Nat) (a1 : Nat) (a2 : Nat) (x3 : Int) (x4 : Int) (x5 : Int) (w : Wd) (r : Int × Wd) (h : Pl_lay_66 k17 a0 a1 a2 x3 x4 x5 w = some r) : Rn g l D 50 66 [(0, .inr (.inr a0)), (1, .inr (.inr a1)), (2, .inr (.inr a2)), (3, .inl x3), (4, .inl x4), (5, .inl x5)] [] w (some (.inl r.1)) r.2 := by
  unfold Pl_lay_66 at h
  refine rn_iconst i50_66 ?_
  refine rn_istore (ls1 := [(6, .inl 0), (0, .inr (.inr a0)), (1, .inr (.inr a1)), (2, .inr (.inr a2)), (3, .inl x3), (4, .inl x4), (5, .inl x5)]) i50_67 rfl ?_
  exact rn_sub [1, 2, 3, 4, 5, 6, 0] rfl (s_Pl_lay_69 hD k17 hk17 FU a0 a1 a2 x3 x4 x5 0 w r h)
def Pl_lay_25 (k17 : Nat → Nat → Nat → Int → Int → Int → Wd → Option (Int × Wd)) : Nat → Nat → Nat → Nat → Int → Int → Int → Int → Wd → Option (Int × Wd)
  | 0, _, _, _, _, _, _, _, _ => none
  | n + 1, a0, a1, a2, x3, x4, x5, x6, w =>
    if (x4 : Int) < x6 then
      Pl_lay_66 k17 a0 a1 a2 x3 x4 x5 w
    else
      (fgR w a0 5 1).bind fun v33 =>
      (rdR w v33 x5).bind fun v38 =>
      (fgR w a1 10 8).bind fun v50 =>
      (rdI w v50 x3).bind fun v54 =>
      (Pl_cost a0 a1 a2 x3 x5 (w32 (x6 * v54)) w).bind fun r56 =>
      (wrI r56.2 v38 x6 r56.1).bind fun w59 =>
      Pl_lay_25 k17 n a0 a1 a2 x3 x4 x5 (w32 (x6 + 1)) w59
theorem s_Pl_lay_25 {g : Gp} {l : Launch} {D : Nat} (hD : 4 ≤ D) (k17 : Nat → Nat → Nat → Int → Int → Int → Wd → Option (Int × Wd)) (hk17 : ∀ (a0 : Nat) (a1 : Nat) (a2 : Nat) (x3 : Int) (x4 : Int) (x5 : Int) (w : Wd) (r : Int × Wd), k17 a0 a1 a2 x3 x4 x5 w = some r → Rn g l D 50 17 [(0, .inr (.inr a0)), (1, .inr (.inr a1)), (2, .inr (.inr a2)), (3, .inl x3), (4, .inl x4), (5, .inl x5)] [] w (some (.inl r.1)) r.2) : ∀ (n : Nat) (a0 : Nat) (a1 : Nat) (a2 : Nat) (x3 : Int) (x4 : Int) (x5 : Int) (x6 : Int) (w : Wd) (r : Int × Wd), Pl_lay_25 k17 n a0 a1 a2 x3 x4 x5 x6 w = some r → Rn g l D 50 25 [(0, .inr (.inr a0)), (1, .inr (.inr a1)), (2, .inr (.inr a2)), (3, .inl x3), (4, .inl x4), (5, .inl x5), (6, .inl x6)] [] w (some (.inl r.1)) r.2 := by
  obtain ⟨D, rfl⟩ : ∃ D1, D = D1 + 1 := ⟨D - 1, by omega⟩
  intro n
  induction n with
  | zero => intro a0 a1 a2 x3 x4 x5 x6 w r h; cases (show (none : Option (Int × Wd)) = some r from h)
  | succ n ih =>
    intro a0 a1 a2 x3 x4 x5 x6 w r h
    unfold Pl_lay_25 at h
    refine rn_iload i50_25 rfl ?_
    refine rn_iload i50_27 rfl ?_
    by_cases c29 : (x4 : Int) < x6
    · rw [if_pos c29] at h
      refine rn_icmp_gt_t i50_29 c29 ?_
      exact rn_sub [0, 1, 2, 3, 4, 5] rfl (s_Pl_lay_66 hD k17 hk17 a0 a1 a2 x3 x4 x5 w r h)
    · rw [if_neg c29] at h
      refine rn_icmp_gt_f i50_29 c29 ?_
      refine fr_aload_n i50_32 rfl ?_
      obtain ⟨v33, h33, h⟩ := Option.bind_eq_some_iff.mp h
      refine fr_gR (k := 1) i50_33 tf5_1 h33 ?_
      refine rn_iload i50_36 rfl ?_
      obtain ⟨v38, h38, h⟩ := Option.bind_eq_some_iff.mp h
      refine rn_aald i50_38 h38 ?_
      refine rn_iload i50_39 rfl ?_
      refine fr_aload_n i50_41 rfl ?_
      refine fr_aload_n i50_42 rfl ?_
      refine fr_aload_n i50_43 rfl ?_
      refine rn_iload_n i50_44 rfl ?_
      refine rn_iload i50_45 rfl ?_
      refine rn_iload i50_47 rfl ?_
      refine fr_aload_n i50_49 rfl ?_
      obtain ⟨v50, h50, h⟩ := Option.bind_eq_some_iff.mp h
      refine fr_gR (k := 8) i50_50 tf10_8 h50 ?_
      refine rn_iload_n i50_53 rfl ?_
      obtain ⟨v54, h54, h⟩ := Option.bind_eq_some_iff.mp h
      refine rn_iald i50_54 h54 ?_
      refine rn_imul i50_55 ?_
      obtain ⟨r56, h56, h⟩ := Option.bind_eq_some_iff.mp h
      obtain ⟨g56, c56⟩ := S_Pl_cost a0 a1 a2 x3 x5 (w32 (x6 * v54)) w r56 h56
      refine fr_callV (a := a0) (As := [.inr (.inr a1), .inr (.inr a2), .inl x3, .inl x5, .inl (w32 (x6 * v54))]) (st := [.inl x6, .inr (.inr v38)]) i50_56 (cq51 a0 a1 a2 x3 x5 (w32 (x6 * v54))) rfl (Nat.le_of_ble_eq_true rfl) g56 (c56 _ (by omega)) ?_
      show Rn _ _ _ _ _ _ [.inl r56.1, .inl x6, .inr (.inr v38)] _ _ _
      obtain ⟨w59, h59, h⟩ := Option.bind_eq_some_iff.mp h
      refine rn_iast i50_59 h59 ?_
      refine rn_iinc (ls1 := [(6, .inl (w32 (x6 + 1))), (0, .inr (.inr a0)), (1, .inr (.inr a1)), (2, .inr (.inr a2)), (3, .inl x3), (4, .inl x4), (5, .inl x5)]) i50_60 rfl rfl ?_
      refine rn_goto i50_63 ?_
      exact rn_sub [1, 2, 3, 4, 5, 6, 0] rfl (ih a0 a1 a2 x3 x4 x5 (w32 (x6 + 1)) w59 r h)
def Pl_lay_175 (a0 : Nat) (x4 : Int) (w : Wd) : Option (Int × Wd) :=
  (fgR w a0 5 2).bind fun v176 =>
  (rdR w v176 0).bind fun v180 =>
  (rdI w v180 x4).bind fun v183 =>
  some (v183, w)
theorem s_Pl_lay_175 {g : Gp} {l : Launch} {D : Nat} (hD : 4 ≤ D) (a0 : Nat) (x4 : Int) (w : Wd) (r : Int × Wd) (h : Pl_lay_175 a0 x4 w = some r) : Rn g l D 50 175 [(0, .inr (.inr a0)), (4, .inl x4)] [] w (some (.inl r.1)) r.2 := by
  unfold Pl_lay_175 at h
  refine fr_aload_n i50_175 rfl ?_
  obtain ⟨v176, h176, h⟩ := Option.bind_eq_some_iff.mp h
  refine fr_gR (k := 2) i50_176 tf5_2 h176 ?_
  refine rn_iconst i50_179 ?_
  obtain ⟨v180, h180, h⟩ := Option.bind_eq_some_iff.mp h
  refine rn_aald i50_180 h180 ?_
  refine rn_iload i50_181 rfl ?_
  obtain ⟨v183, h183, h⟩ := Option.bind_eq_some_iff.mp h
  refine rn_iald i50_183 h183 ?_
  obtain rfl := Option.some.inj h
  exact rn_retI i50_184 mr50
def Pl_lay_129 : Nat → Nat → Nat → Int → Int → Int → Wd → Option (Int × Wd)
  | 0, _, _, _, _, _, _ => none
  | n + 1, a0, a1, x4, x5, x6, w =>
    (fgI w a1 10 0).bind fun v132 =>
    if (v132 : Int) ≤ x6 then
      Pl_lay_175 a0 x4 w
    else
      (fgR w a0 5 0).bind fun v139 =>
      (fgI w a1 10 0).bind fun v148 =>
      (Pl_mostDays a0 x6 v148 x5 w).bind fun r153 =>
      (wrI r153.2 v139 x6 r153.1).bind fun w156 =>
      (fgR w156 a0 5 0).bind fun v160 =>
      (rdI w156 v160 x6).bind fun v165 =>
      Pl_lay_129 n a0 a1 x4 (w32 (x5 - v165)) (w32 (x6 + 1)) w156
theorem s_Pl_lay_129 {g : Gp} {l : Launch} {D : Nat} (hD : 4 ≤ D) : ∀ (n : Nat) (a0 : Nat) (a1 : Nat) (x4 : Int) (x5 : Int) (x6 : Int) (w : Wd) (r : Int × Wd), Pl_lay_129 n a0 a1 x4 x5 x6 w = some r → Rn g l D 50 129 [(0, .inr (.inr a0)), (1, .inr (.inr a1)), (4, .inl x4), (5, .inl x5), (6, .inl x6)] [] w (some (.inl r.1)) r.2 := by
  obtain ⟨D, rfl⟩ : ∃ D1, D = D1 + 1 := ⟨D - 1, by omega⟩
  intro n
  induction n with
  | zero => intro a0 a1 x4 x5 x6 w r h; cases (show (none : Option (Int × Wd)) = some r from h)
  | succ n ih =>
    intro a0 a1 x4 x5 x6 w r h
    unfold Pl_lay_129 at h
    refine rn_iload i50_129 rfl ?_
    refine fr_aload_n i50_131 rfl ?_
    obtain ⟨v132, h132, h⟩ := Option.bind_eq_some_iff.mp h
    refine fr_gI (k := 0) i50_132 tf10_0 h132 ?_
    by_cases c135 : (v132 : Int) ≤ x6
    · rw [if_pos c135] at h
      refine rn_icmp_ge_t i50_135 c135 ?_
      exact rn_sub [0, 2] rfl (s_Pl_lay_175 hD a0 x4 w r h)
    · rw [if_neg c135] at h
      refine rn_icmp_ge_f i50_135 c135 ?_
      refine fr_aload_n i50_138 rfl ?_
      obtain ⟨v139, h139, h⟩ := Option.bind_eq_some_iff.mp h
      refine fr_gR (k := 0) i50_139 tf5_0 h139 ?_
      refine rn_iload i50_142 rfl ?_
      refine fr_aload_n i50_144 rfl ?_
      refine rn_iload i50_145 rfl ?_
      refine fr_aload_n i50_147 rfl ?_
      obtain ⟨v148, h148, h⟩ := Option.bind_eq_some_iff.mp h
      refine fr_gI (k := 0) i50_148 tf10_0 h148 ?_
      refine rn_iload i50_151 rfl ?_
      obtain ⟨r153, h153, h⟩ := Option.bind_eq_some_iff.mp h
      obtain ⟨g153, c153⟩ := S_Pl_mostDays a0 x6 v148 x5 w r153 h153
      refine fr_callV (a := a0) (As := [.inl x6, .inl v148, .inl x5]) (st := [.inl x6, .inr (.inr v139)]) i50_153 (cq53 a0 x6 v148 x5) rfl (Nat.le_of_ble_eq_true rfl) g153 (c153 _ (by omega)) ?_
      show Rn _ _ _ _ _ _ [.inl r153.1, .inl x6, .inr (.inr v139)] _ _ _
      obtain ⟨w156, h156, h⟩ := Option.bind_eq_some_iff.mp h
      refine rn_iast i50_156 h156 ?_
      refine rn_iload i50_157 rfl ?_
      refine fr_aload_n i50_159 rfl ?_
      obtain ⟨v160, h160, h⟩ := Option.bind_eq_some_iff.mp h
      refine fr_gR (k := 0) i50_160 tf5_0 h160 ?_
      refine rn_iload i50_163 rfl ?_
      obtain ⟨v165, h165, h⟩ := Option.bind_eq_some_iff.mp h
      refine rn_iald i50_165 h165 ?_
      refine rn_isub i50_166 ?_
      refine rn_istore (ls1 := [(5, .inl (w32 (x5 - v165))), (0, .inr (.inr a0)), (1, .inr (.inr a1)), (4, .inl x4), (6, .inl x6)]) i50_167 rfl ?_
      refine rn_iinc (ls1 := [(6, .inl (w32 (x6 + 1))), (5, .inl (w32 (x5 - v165))), (0, .inr (.inr a0)), (1, .inr (.inr a1)), (4, .inl x4)]) i50_169 rfl rfl ?_
      refine rn_goto i50_172 ?_
      exact rn_sub [2, 3, 4, 1, 0] rfl (ih a0 a1 x4 (w32 (x5 - v165)) (w32 (x6 + 1)) w156 r h)
def Pl_lay_122 (a0 : Nat) (a1 : Nat) (x4 : Int) (w : Wd) : Option (Int × Wd) :=
  Pl_lay_129 FU a0 a1 x4 x4 0 w
theorem s_Pl_lay_122 {g : Gp} {l : Launch} {D : Nat} (hD : 4 ≤ D) (a0 : Nat) (a1 : Nat) (x4 : Int) (w : Wd) (r : Int × Wd) (h : Pl_lay_122 a0 a1 x4 w = some r) : Rn g l D 50 122 [(0, .inr (.inr a0)), (1, .inr (.inr a1)), (4, .inl x4)] [] w (some (.inl r.1)) r.2 := by
  unfold Pl_lay_122 at h
  refine rn_iload i50_122 rfl ?_
  refine rn_istore (ls1 := [(5, .inl x4), (0, .inr (.inr a0)), (1, .inr (.inr a1)), (4, .inl x4)]) i50_124 rfl ?_
  refine rn_iconst i50_126 ?_
  refine rn_istore (ls1 := [(6, .inl 0), (5, .inl x4), (0, .inr (.inr a0)), (1, .inr (.inr a1)), (4, .inl x4)]) i50_127 rfl ?_
  exact rn_sub [2, 3, 4, 1, 0] rfl (s_Pl_lay_129 hD FU a0 a1 x4 x4 0 w r h)
def Pl_lay_17 : Nat → Nat → Nat → Nat → Int → Int → Int → Wd → Option (Int × Wd)
  | 0, _, _, _, _, _, _, _ => none
  | n + 1, a0, a1, a2, x3, x4, x5, w =>
    if (x5 : Int) < 0 then
      Pl_lay_122 a0 a1 x4 w
    else
      Pl_lay_25 (Pl_lay_17 n) FU a0 a1 a2 x3 x4 x5 0 w
theorem s_Pl_lay_17 {g : Gp} {l : Launch} {D : Nat} (hD : 4 ≤ D) : ∀ (n : Nat) (a0 : Nat) (a1 : Nat) (a2 : Nat) (x3 : Int) (x4 : Int) (x5 : Int) (w : Wd) (r : Int × Wd), Pl_lay_17 n a0 a1 a2 x3 x4 x5 w = some r → Rn g l D 50 17 [(0, .inr (.inr a0)), (1, .inr (.inr a1)), (2, .inr (.inr a2)), (3, .inl x3), (4, .inl x4), (5, .inl x5)] [] w (some (.inl r.1)) r.2 := by
  intro n
  induction n with
  | zero => intro a0 a1 a2 x3 x4 x5 w r h; cases (show (none : Option (Int × Wd)) = some r from h)
  | succ n ih =>
    intro a0 a1 a2 x3 x4 x5 w r h
    unfold Pl_lay_17 at h
    refine rn_iload i50_17 rfl ?_
    by_cases c19 : (x5 : Int) < 0
    · rw [if_pos c19] at h
      refine rn_if_lt_t i50_19 c19 ?_
      exact rn_sub [0, 1, 4] rfl (s_Pl_lay_122 hD a0 a1 x4 w r h)
    · rw [if_neg c19] at h
      refine rn_if_lt_f i50_19 c19 ?_
      refine rn_iconst i50_22 ?_
      refine rn_istore (ls1 := [(6, .inl 0), (0, .inr (.inr a0)), (1, .inr (.inr a1)), (2, .inr (.inr a2)), (3, .inl x3), (4, .inl x4), (5, .inl x5)]) i50_23 rfl ?_
      exact rn_sub [1, 2, 3, 4, 5, 6, 0] rfl (s_Pl_lay_25 hD (Pl_lay_17 n) ih FU a0 a1 a2 x3 x4 x5 0 w r h)
def Pl_lay_0 (a0 : Nat) (a1 : Nat) (a2 : Nat) (x3 : Int) (x4 : Int) (w : Wd) : Option (Int × Wd) :=
  (fgI w a1 10 0).bind fun v1 =>
  if (0 : Int) < v1 then
    (fgI w a1 10 0).bind fun v10 =>
    Pl_lay_17 FU a0 a1 a2 x3 x4 (w32 (v10 - 1)) w
  else
    some (0, w)
theorem s_Pl_lay_0 {g : Gp} {l : Launch} {D : Nat} (hD : 4 ≤ D) (a0 : Nat) (a1 : Nat) (a2 : Nat) (x3 : Int) (x4 : Int) (w : Wd) (r : Int × Wd) (h : Pl_lay_0 a0 a1 a2 x3 x4 w = some r) : Rn g l D 50 0 [(0, .inr (.inr a0)), (1, .inr (.inr a1)), (2, .inr (.inr a2)), (3, .inl x3), (4, .inl x4)] [] w (some (.inl r.1)) r.2 := by
  unfold Pl_lay_0 at h
  refine fr_aload_n i50_0 rfl ?_
  obtain ⟨v1, h1, h⟩ := Option.bind_eq_some_iff.mp h
  refine fr_gI (k := 0) i50_1 tf10_0 h1 ?_
  by_cases c4 : (0 : Int) < v1
  · rw [if_pos c4] at h
    refine rn_if_gt_t i50_4 c4 ?_
    refine fr_aload_n i50_9 rfl ?_
    obtain ⟨v10, h10, h⟩ := Option.bind_eq_some_iff.mp h
    refine fr_gI (k := 0) i50_10 tf10_0 h10 ?_
    refine rn_iconst i50_13 ?_
    refine rn_isub i50_14 ?_
    refine rn_istore (ls1 := [(5, .inl (w32 (v10 - 1))), (0, .inr (.inr a0)), (1, .inr (.inr a1)), (2, .inr (.inr a2)), (3, .inl x3), (4, .inl x4)]) i50_15 rfl ?_
    exact rn_sub [1, 2, 3, 4, 5, 0] rfl (s_Pl_lay_17 hD FU a0 a1 a2 x3 x4 (w32 (v10 - 1)) w r h)
  · rw [if_neg c4] at h
    refine rn_if_gt_f i50_4 c4 ?_
    refine rn_iconst i50_7 ?_
    obtain rfl := Option.some.inj h
    exact rn_retI i50_8 mr50
/-- HandHeirs$Planner.lay(LHandHeirs$Will;LHandHeirs$State;II)I -/
def Pl_lay (a0 : Nat) (a1 : Nat) (a2 : Nat) (x3 : Int) (x4 : Int) (w : Wd) : Option (Int × Wd) := gd 5 w a0 (Pl_lay_0 a0 a1 a2 x3 x4 w)
theorem S_Pl_lay {g : Gp} {l : Launch} (a0 : Nat) (a1 : Nat) (a2 : Nat) (x3 : Int) (x4 : Int) (w : Wd) (r : Int × Wd) (h : Pl_lay a0 a1 a2 x3 x4 w = some r) : (wsh w a0).1 = 5 ∧ ∀ D, 4 ≤ D → Rn g l D 50 0 [(0, .inr (.inr a0)), (1, .inr (.inr a1)), (2, .inr (.inr a2)), (3, .inl x3), (4, .inl x4)] [] w (some (.inl r.1)) r.2 := by
  obtain ⟨hg, h⟩ := gd_some h
  exact ⟨hg, fun D hD => rn_sub [0, 1, 2, 3, 4] rfl (s_Pl_lay_0 hD a0 a1 a2 x3 x4 w r h)⟩
def Sc_joined_0 (x0 : Int) (x2 : Int) (w : Wd) : Option (Int × Wd) :=
  some ((w64 ((w64 (x0 * 27)) + (w32 ((w32 (x2 - 97)) + 1)))), w)
theorem s_Sc_joined_0 {g : Gp} {l : Launch} {D : Nat} (hD : 0 ≤ D) (x0 : Int) (x2 : Int) (w : Wd) (r : Int × Wd) (h : Sc_joined_0 x0 x2 w = some r) : Rn g l D 77 0 [(0, .inr (.inl x0)), (2, .inl x2)] [] w (some (.inr (.inl r.1))) r.2 := by
  unfold Sc_joined_0 at h
  refine rn_lload_n i77_0 rfl ?_
  refine rn_ldc2 i77_1 lw77_1 ⟨by decide, by decide⟩ ?_
  refine rn_lmul i77_4 ?_
  refine rn_iload_n i77_5 rfl ?_
  refine rn_bipush i77_6 ?_
  refine rn_isub i77_8 ?_
  refine rn_iconst i77_9 ?_
  refine rn_iadd i77_10 ?_
  refine rn_i2l i77_11 ?_
  refine rn_ladd i77_12 ?_
  obtain rfl := Option.some.inj h
  exact rn_retL i77_13 mr77
/-- HandHeirs$Scanner.joined(JI)J -/
def Sc_joined (x0 : Int) (x2 : Int) (w : Wd) : Option (Int × Wd) := Sc_joined_0 x0 x2 w
theorem S_Sc_joined {g : Gp} {l : Launch} (x0 : Int) (x2 : Int) (w : Wd) (r : Int × Wd) (h : Sc_joined x0 x2 w = some r) : ∀ D, 0 ≤ D → Rn g l D 77 0 [(0, .inr (.inl x0)), (2, .inl x2)] [] w (some (.inr (.inl r.1))) r.2 := fun D hD => rn_sub [0, 1] rfl (s_Sc_joined_0 hD x0 x2 w r h)
def Sc_init_113 (k60 : Nat → Int → Int → Wd → Option (Wd)) (a0 : Nat) (x1 : Int) (x2 : Int) (w : Wd) : Option (Wd) :=
  k60 a0 x1 (w32 (x2 + 1)) w
theorem s_Sc_init_113 {g : Gp} {l : Launch} {D : Nat} (hD : 4 ≤ D) (k60 : Nat → Int → Int → Wd → Option (Wd)) (hk60 : ∀ (a0 : Nat) (x1 : Int) (x2 : Int) (w : Wd) (r : Wd), k60 a0 x1 x2 w = some r → Rn g l D 76 60 [(0, .inr (.inr a0)), (1, .inl x1), (2, .inl x2)] [] w none r) (a0 : Nat) (x1 : Int) (x2 : Int) (w : Wd) (r : Wd) (h : Sc_init_113 k60 a0 x1 x2 w = some r) : Rn g l D 76 113 [(0, .inr (.inr a0)), (1, .inl x1), (2, .inl x2)] [] w none r := by
  unfold Sc_init_113 at h
  refine rn_iinc (ls1 := [(2, .inl (w32 (x2 + 1))), (0, .inr (.inr a0)), (1, .inl x1)]) i76_113 rfl rfl ?_
  refine rn_goto i76_116 ?_
  exact rn_sub [1, 2, 0] rfl (hk60 a0 x1 (w32 (x2 + 1)) w r h)
def Sc_init_119 (w : Wd) : Option (Wd) :=
  some w
theorem s_Sc_init_119 {g : Gp} {l : Launch} {D : Nat} (hD : 4 ≤ D) (w : Wd) (r : Wd) (h : Sc_init_119 w = some r) : Rn g l D 76 119 [] [] w none r := by
  unfold Sc_init_119 at h
  obtain rfl := Option.some.inj h
  exact rn_ret i76_119 mr76
def Sc_init_60 : Nat → Nat → Int → Int → Wd → Option (Wd)
  | 0, _, _, _, _ => none
  | n + 1, a0, x1, x2, w =>
    (Js_length 2 w).bind fun r63 =>
    if (r63.1 : Int) ≤ x2 then
      Sc_init_119 r63.2
    else
      if (17 : Int) ≤ x1 then
        Sc_init_119 r63.2
      else
        (Js_charAt 2 x2 r63.2).bind fun r78 =>
        if (r78.1 : Int) = 32 then
          Sc_init_113 (Sc_init_60 n) a0 (w32 (x1 + 1)) x2 r78.2
        else
          (fgR r78.2 a0 7 3).bind fun v93 =>
          (fgR r78.2 a0 7 3).bind fun v98 =>
          (rdL r78.2 v98 x1).bind fun v102 =>
          (Js_charAt 2 x2 r78.2).bind fun r106 =>
          (Sc_joined v102 (r106.1) r106.2).bind fun r109 =>
          (wrL r109.2 v93 x1 r109.1).bind fun w112 =>
          Sc_init_113 (Sc_init_60 n) a0 x1 x2 w112
theorem s_Sc_init_60 {g : Gp} {l : Launch} {D : Nat} (hD : 4 ≤ D) : ∀ (n : Nat) (a0 : Nat) (x1 : Int) (x2 : Int) (w : Wd) (r : Wd), Sc_init_60 n a0 x1 x2 w = some r → Rn g l D 76 60 [(0, .inr (.inr a0)), (1, .inl x1), (2, .inl x2)] [] w none r := by
  obtain ⟨D, rfl⟩ : ∃ D1, D = D1 + 1 := ⟨D - 1, by omega⟩
  intro n
  induction n with
  | zero => intro a0 x1 x2 w r h; cases (show (none : Option (Wd)) = some r from h)
  | succ n ih =>
    intro a0 x1 x2 w r h
    unfold Sc_init_60 at h
    refine rn_iload_n i76_60 rfl ?_
    refine rn_ldcS (a := 2) i76_61 (by decide +kernel) (by decide) ?_
    obtain ⟨r63, h63, h⟩ := Option.bind_eq_some_iff.mp h
    obtain ⟨g63, c63⟩ := S_Js_length 2 w r63 h63
    refine fr_callV (a := 2) (As := []) (st := [.inl x2]) i76_63 (cq9 2) rfl (Nat.le_of_ble_eq_true rfl) g63 (c63 _ (by omega)) ?_
    show Rn _ _ _ _ _ _ [.inl r63.1, .inl x2] _ _ _
    by_cases c66 : (r63.1 : Int) ≤ x2
    · rw [if_pos c66] at h
      refine rn_icmp_ge_t i76_66 c66 ?_
      exact rn_sub [] rfl (s_Sc_init_119 hD r63.2 r h)
    · rw [if_neg c66] at h
      refine rn_icmp_ge_f i76_66 c66 ?_
      refine rn_iload_n i76_69 rfl ?_
      refine rn_bipush i76_70 ?_
      by_cases c72 : (17 : Int) ≤ x1
      · rw [if_pos c72] at h
        refine rn_icmp_ge_t i76_72 c72 ?_
        exact rn_sub [] rfl (s_Sc_init_119 hD r63.2 r h)
      · rw [if_neg c72] at h
        refine rn_icmp_ge_f i76_72 c72 ?_
        refine rn_ldcS (a := 2) i76_75 (by decide +kernel) (by decide) ?_
        refine rn_iload_n i76_77 rfl ?_
        obtain ⟨r78, h78, h⟩ := Option.bind_eq_some_iff.mp h
        obtain ⟨g78, c78⟩ := S_Js_charAt 2 x2 r63.2 r78 h78
        refine fr_callV (a := 2) (As := [.inl x2]) (st := []) i76_78 (cq3 2 x2) rfl (Nat.le_of_ble_eq_true rfl) g78 (c78 _ (by omega)) ?_
        show Rn _ _ _ _ _ _ [.inl r78.1] _ _ _
        refine rn_bipush i76_81 ?_
        by_cases c83 : (r78.1 : Int) = 32
        · rw [if_pos c83] at h
          refine rn_icmp_ne_f i76_83 c83 ?_
          refine rn_iinc (ls1 := [(1, .inl (w32 (x1 + 1))), (0, .inr (.inr a0)), (2, .inl x2)]) i76_86 rfl rfl ?_
          refine rn_goto i76_89 ?_
          exact rn_sub [1, 0, 2] rfl (s_Sc_init_113 hD (Sc_init_60 n) ih a0 (w32 (x1 + 1)) x2 r78.2 r h)
        · rw [if_neg c83] at h
          refine rn_icmp_ne_t i76_83 c83 ?_
          refine fr_aload_n i76_92 rfl ?_
          obtain ⟨v93, h93, h⟩ := Option.bind_eq_some_iff.mp h
          refine fr_gR (k := 3) i76_93 tf7_3 h93 ?_
          refine rn_iload_n i76_96 rfl ?_
          refine fr_aload_n i76_97 rfl ?_
          obtain ⟨v98, h98, h⟩ := Option.bind_eq_some_iff.mp h
          refine fr_gR (k := 3) i76_98 tf7_3 h98 ?_
          refine rn_iload_n i76_101 rfl ?_
          obtain ⟨v102, h102, h⟩ := Option.bind_eq_some_iff.mp h
          refine rn_lald i76_102 h102 ?_
          refine rn_ldcS (a := 2) i76_103 (by decide +kernel) (by decide) ?_
          refine rn_iload_n i76_105 rfl ?_
          obtain ⟨r106, h106, h⟩ := Option.bind_eq_some_iff.mp h
          obtain ⟨g106, c106⟩ := S_Js_charAt 2 x2 r78.2 r106 h106
          refine fr_callV (a := 2) (As := [.inl x2]) (st := [.inr (.inl v102), .inl x1, .inr (.inr v93)]) i76_106 (cq3 2 x2) rfl (Nat.le_of_ble_eq_true rfl) g106 (c106 _ (by omega)) ?_
          show Rn _ _ _ _ _ _ [.inl r106.1, .inr (.inl v102), .inl x1, .inr (.inr v93)] _ _ _
          obtain ⟨r109, h109, h⟩ := Option.bind_eq_some_iff.mp h
          refine fr_callS (nst := 0) (As := [.inr (.inl v102), .inl r106.1]) (st := [.inl x1, .inr (.inr v93)]) i76_109 (cq77 v102 (r106.1)) rfl (Nat.le_of_ble_eq_true rfl) (S_Sc_joined v102 (r106.1) r106.2 r109 h109 _ (by omega)) ?_
          show Rn _ _ _ _ _ _ [.inr (.inl r109.1), .inl x1, .inr (.inr v93)] _ _ _
          obtain ⟨w112, h112, h⟩ := Option.bind_eq_some_iff.mp h
          refine rn_last i76_112 h112 ?_
          exact rn_sub [0, 1, 2] rfl (s_Sc_init_113 hD (Sc_init_60 n) ih a0 x1 x2 w112 r h)
def Sc_init_0 (a0 : Nat) (w : Wd) : Option (Wd) :=
  (tgd w a0 7).bind fun _ =>
  (nwA w 20 401).bind fun w8 =>
  (fpR w8 a0 7 0 (wn w)).bind fun w10 =>
  (nwA w10 20 401).bind fun w17 =>
  (fpR w17 a0 7 1 (wn w10)).bind fun w19 =>
  (nwA w19 22 401).bind fun w26 =>
  (fpR w26 a0 7 2 (wn w19)).bind fun w28 =>
  (nwA w28 22 17).bind fun w34 =>
  (fpR w34 a0 7 3 (wn w28)).bind fun w36 =>
  (nwA w36 21 0).bind fun w41 =>
  (fpR w41 a0 7 4 (wn w36)).bind fun w43 =>
  (fpI w43 a0 7 5 0).bind fun w48 =>
  (fpI w48 a0 7 6 0).bind fun w53 =>
  Sc_init_60 FU a0 0 0 w53
theorem s_Sc_init_0 {g : Gp} {l : Launch} {D : Nat} (hD : 4 ≤ D) (a0 : Nat) (w : Wd) (r : Wd) (h : Sc_init_0 a0 w = some r) : Rn g l D 76 0 [(0, .inr (.inr a0))] [] w none r := by
  obtain ⟨D, rfl⟩ : ∃ D1, D = D1 + 1 := ⟨D - 1, by omega⟩
  unfold Sc_init_0 at h
  refine fr_aload_n i76_0 rfl ?_
  obtain ⟨_, h1, h⟩ := Option.bind_eq_some_iff.mp h
  refine fr_objI i76_1 h1 (by decide) (Nat.le_of_ble_eq_true rfl) ?_
  refine fr_aload_n i76_4 rfl ?_
  refine rn_sipush i76_5 ?_
  obtain ⟨w8, h8, h⟩ := Option.bind_eq_some_iff.mp h
  refine rn_newa (t := 20) i76_8 (by decide) rfl h8 ?_
  obtain ⟨w10, h10, h⟩ := Option.bind_eq_some_iff.mp h
  refine fr_pR (k := 0) i76_10 pf76_7_0 h10 ?_
  refine fr_aload_n i76_13 rfl ?_
  refine rn_sipush i76_14 ?_
  obtain ⟨w17, h17, h⟩ := Option.bind_eq_some_iff.mp h
  refine rn_newa (t := 20) i76_17 (by decide) rfl h17 ?_
  obtain ⟨w19, h19, h⟩ := Option.bind_eq_some_iff.mp h
  refine fr_pR (k := 1) i76_19 pf76_7_1 h19 ?_
  refine fr_aload_n i76_22 rfl ?_
  refine rn_sipush i76_23 ?_
  obtain ⟨w26, h26, h⟩ := Option.bind_eq_some_iff.mp h
  refine rn_newa (t := 22) i76_26 (by decide) rfl h26 ?_
  obtain ⟨w28, h28, h⟩ := Option.bind_eq_some_iff.mp h
  refine fr_pR (k := 2) i76_28 pf76_7_2 h28 ?_
  refine fr_aload_n i76_31 rfl ?_
  refine rn_bipush i76_32 ?_
  obtain ⟨w34, h34, h⟩ := Option.bind_eq_some_iff.mp h
  refine rn_newa (t := 22) i76_34 (by decide) rfl h34 ?_
  obtain ⟨w36, h36, h⟩ := Option.bind_eq_some_iff.mp h
  refine fr_pR (k := 3) i76_36 pf76_7_3 h36 ?_
  refine fr_aload_n i76_39 rfl ?_
  refine rn_iconst i76_40 ?_
  obtain ⟨w41, h41, h⟩ := Option.bind_eq_some_iff.mp h
  refine rn_newa (t := 21) i76_41 (by decide) rfl h41 ?_
  obtain ⟨w43, h43, h⟩ := Option.bind_eq_some_iff.mp h
  refine fr_pR (k := 4) i76_43 (pf7_4 76) h43 ?_
  refine fr_aload_n i76_46 rfl ?_
  refine rn_iconst i76_47 ?_
  obtain ⟨w48, h48, h⟩ := Option.bind_eq_some_iff.mp h
  refine fr_pI (k := 5) i76_48 (pf7_5 76) h48 ?_
  refine fr_aload_n i76_51 rfl ?_
  refine rn_iconst i76_52 ?_
  obtain ⟨w53, h53, h⟩ := Option.bind_eq_some_iff.mp h
  refine fr_pI (k := 6) i76_53 (pf7_6 76) h53 ?_
  refine rn_iconst i76_56 ?_
  refine rn_istore_n (ls1 := [(1, .inl 0), (0, .inr (.inr a0))]) i76_57 rfl ?_
  refine rn_iconst i76_58 ?_
  refine rn_istore_n (ls1 := [(2, .inl 0), (1, .inl 0), (0, .inr (.inr a0))]) i76_59 rfl ?_
  exact rn_sub [2, 1, 0] rfl (s_Sc_init_60 hD FU a0 0 0 w53 r h)
/-- HandHeirs$Scanner.<init>()V -/
def Sc_init (a0 : Nat) (w : Wd) : Option (Wd) := gd 7 w a0 (Sc_init_0 a0 w)
theorem S_Sc_init {g : Gp} {l : Launch} (a0 : Nat) (w : Wd) (r : Wd) (h : Sc_init a0 w = some r) : (wsh w a0).1 = 7 ∧ ∀ D, 4 ≤ D → Rn g l D 76 0 [(0, .inr (.inr a0))] [] w none r := by
  obtain ⟨hg, h⟩ := gd_some h
  exact ⟨hg, fun D hD => rn_sub [0] rfl (s_Sc_init_0 hD a0 w r h)⟩
def Wi_clear_89 : Nat → Nat → Int → Wd → Option (Wd)
  | 0, _, _, _ => none
  | n + 1, a0, x1, w =>
    (fgR w a0 10 10).bind fun v91 =>
    (aln w v91).bind fun v94 =>
    if (v94 : Int) ≤ x1 then
      some w
    else
      (fgR w a0 10 10).bind fun v99 =>
      (wrI w v99 x1 50).bind fun w105 =>
      Wi_clear_89 n a0 (w32 (x1 + 1)) w105
theorem s_Wi_clear_89 {g : Gp} {l : Launch} {D : Nat} (hD : 0 ≤ D) : ∀ (n : Nat) (a0 : Nat) (x1 : Int) (w : Wd) (r : Wd), Wi_clear_89 n a0 x1 w = some r → Rn g l D 96 89 [(0, .inr (.inr a0)), (1, .inl x1)] [] w none r := by
  intro n
  induction n with
  | zero => intro a0 x1 w r h; cases (show (none : Option (Wd)) = some r from h)
  | succ n ih =>
    intro a0 x1 w r h
    unfold Wi_clear_89 at h
    refine rn_iload_n i96_89 rfl ?_
    refine fr_aload_n i96_90 rfl ?_
    obtain ⟨v91, h91, h⟩ := Option.bind_eq_some_iff.mp h
    refine fr_gR (k := 10) i96_91 tf10_10 h91 ?_
    obtain ⟨v94, h94, h⟩ := Option.bind_eq_some_iff.mp h
    refine rn_alen i96_94 h94 ?_
    by_cases c95 : (v94 : Int) ≤ x1
    · rw [if_pos c95] at h
      refine rn_icmp_ge_t i96_95 c95 ?_
      obtain rfl := Option.some.inj h
      exact rn_ret i96_112 mr96
    · rw [if_neg c95] at h
      refine rn_icmp_ge_f i96_95 c95 ?_
      refine fr_aload_n i96_98 rfl ?_
      obtain ⟨v99, h99, h⟩ := Option.bind_eq_some_iff.mp h
      refine fr_gR (k := 10) i96_99 tf10_10 h99 ?_
      refine rn_iload_n i96_102 rfl ?_
      refine rn_bipush i96_103 ?_
      obtain ⟨w105, h105, h⟩ := Option.bind_eq_some_iff.mp h
      refine rn_iast i96_105 h105 ?_
      refine rn_iinc (ls1 := [(1, .inl (w32 (x1 + 1))), (0, .inr (.inr a0))]) i96_106 rfl rfl ?_
      refine rn_goto i96_109 ?_
      exact rn_sub [1, 0] rfl (ih a0 (w32 (x1 + 1)) w105 r h)
def Wi_clear_87 (a0 : Nat) (w : Wd) : Option (Wd) :=
  Wi_clear_89 FU a0 0 w
theorem s_Wi_clear_87 {g : Gp} {l : Launch} {D : Nat} (hD : 0 ≤ D) (a0 : Nat) (w : Wd) (r : Wd) (h : Wi_clear_87 a0 w = some r) : Rn g l D 96 87 [(0, .inr (.inr a0))] [] w none r := by
  unfold Wi_clear_87 at h
  refine rn_iconst i96_87 ?_
  refine rn_istore_n (ls1 := [(1, .inl 0), (0, .inr (.inr a0))]) i96_88 rfl ?_
  exact rn_sub [1, 0] rfl (s_Wi_clear_89 hD FU a0 0 w r h)
def Wi_clear_68 : Nat → Nat → Int → Wd → Option (Wd)
  | 0, _, _, _ => none
  | n + 1, a0, x1, w =>
    if (6 : Int) ≤ x1 then
      Wi_clear_87 a0 w
    else
      (fgR w a0 10 12).bind fun v75 =>
      (wrI w v75 x1 (-1)).bind fun w80 =>
      Wi_clear_68 n a0 (w32 (x1 + 1)) w80
theorem s_Wi_clear_68 {g : Gp} {l : Launch} {D : Nat} (hD : 0 ≤ D) : ∀ (n : Nat) (a0 : Nat) (x1 : Int) (w : Wd) (r : Wd), Wi_clear_68 n a0 x1 w = some r → Rn g l D 96 68 [(0, .inr (.inr a0)), (1, .inl x1)] [] w none r := by
  intro n
  induction n with
  | zero => intro a0 x1 w r h; cases (show (none : Option (Wd)) = some r from h)
  | succ n ih =>
    intro a0 x1 w r h
    unfold Wi_clear_68 at h
    refine rn_iload_n i96_68 rfl ?_
    refine rn_bipush i96_69 ?_
    by_cases c71 : (6 : Int) ≤ x1
    · rw [if_pos c71] at h
      refine rn_icmp_ge_t i96_71 c71 ?_
      exact rn_sub [0] rfl (s_Wi_clear_87 hD a0 w r h)
    · rw [if_neg c71] at h
      refine rn_icmp_ge_f i96_71 c71 ?_
      refine fr_aload_n i96_74 rfl ?_
      obtain ⟨v75, h75, h⟩ := Option.bind_eq_some_iff.mp h
      refine fr_gR (k := 12) i96_75 tf10_12 h75 ?_
      refine rn_iload_n i96_78 rfl ?_
      refine rn_iconst i96_79 ?_
      obtain ⟨w80, h80, h⟩ := Option.bind_eq_some_iff.mp h
      refine rn_iast i96_80 h80 ?_
      refine rn_iinc (ls1 := [(1, .inl (w32 (x1 + 1))), (0, .inr (.inr a0))]) i96_81 rfl rfl ?_
      refine rn_goto i96_84 ?_
      exact rn_sub [1, 0] rfl (ih a0 (w32 (x1 + 1)) w80 r h)
def Wi_clear_66 (a0 : Nat) (w : Wd) : Option (Wd) :=
  Wi_clear_68 FU a0 0 w
theorem s_Wi_clear_66 {g : Gp} {l : Launch} {D : Nat} (hD : 0 ≤ D) (a0 : Nat) (w : Wd) (r : Wd) (h : Wi_clear_66 a0 w = some r) : Rn g l D 96 66 [(0, .inr (.inr a0))] [] w none r := by
  unfold Wi_clear_66 at h
  refine rn_iconst i96_66 ?_
  refine rn_istore_n (ls1 := [(1, .inl 0), (0, .inr (.inr a0))]) i96_67 rfl ?_
  exact rn_sub [1, 0] rfl (s_Wi_clear_68 hD FU a0 0 w r h)
def Wi_clear_47 : Nat → Nat → Int → Wd → Option (Wd)
  | 0, _, _, _ => none
  | n + 1, a0, x1, w =>
    if (6 : Int) ≤ x1 then
      Wi_clear_66 a0 w
    else
      (fgR w a0 10 7).bind fun v54 =>
      (wrI w v54 x1 0).bind fun w59 =>
      Wi_clear_47 n a0 (w32 (x1 + 1)) w59
theorem s_Wi_clear_47 {g : Gp} {l : Launch} {D : Nat} (hD : 0 ≤ D) : ∀ (n : Nat) (a0 : Nat) (x1 : Int) (w : Wd) (r : Wd), Wi_clear_47 n a0 x1 w = some r → Rn g l D 96 47 [(0, .inr (.inr a0)), (1, .inl x1)] [] w none r := by
  intro n
  induction n with
  | zero => intro a0 x1 w r h; cases (show (none : Option (Wd)) = some r from h)
  | succ n ih =>
    intro a0 x1 w r h
    unfold Wi_clear_47 at h
    refine rn_iload_n i96_47 rfl ?_
    refine rn_bipush i96_48 ?_
    by_cases c50 : (6 : Int) ≤ x1
    · rw [if_pos c50] at h
      refine rn_icmp_ge_t i96_50 c50 ?_
      exact rn_sub [0] rfl (s_Wi_clear_66 hD a0 w r h)
    · rw [if_neg c50] at h
      refine rn_icmp_ge_f i96_50 c50 ?_
      refine fr_aload_n i96_53 rfl ?_
      obtain ⟨v54, h54, h⟩ := Option.bind_eq_some_iff.mp h
      refine fr_gR (k := 7) i96_54 tf10_7 h54 ?_
      refine rn_iload_n i96_57 rfl ?_
      refine rn_iconst i96_58 ?_
      obtain ⟨w59, h59, h⟩ := Option.bind_eq_some_iff.mp h
      refine rn_iast i96_59 h59 ?_
      refine rn_iinc (ls1 := [(1, .inl (w32 (x1 + 1))), (0, .inr (.inr a0))]) i96_60 rfl rfl ?_
      refine rn_goto i96_63 ?_
      exact rn_sub [1, 0] rfl (ih a0 (w32 (x1 + 1)) w59 r h)
def Wi_clear_0 (a0 : Nat) (w : Wd) : Option (Wd) :=
  (fpI w a0 10 0 0).bind fun w2 =>
  (fpI w2 a0 10 1 0).bind fun w7 =>
  (fpI w7 a0 10 2 0).bind fun w12 =>
  (fpI w12 a0 10 3 3).bind fun w17 =>
  (fpI w17 a0 10 4 9999).bind fun w24 =>
  (fpI w24 a0 10 5 0).bind fun w29 =>
  (fpI w29 a0 10 6 (-1)).bind fun w34 =>
  (fgR w34 a0 10 13).bind fun v38 =>
  (fpI w34 v38 2 0 0).bind fun w42 =>
  Wi_clear_47 FU a0 0 w42
theorem s_Wi_clear_0 {g : Gp} {l : Launch} {D : Nat} (hD : 0 ≤ D) (a0 : Nat) (w : Wd) (r : Wd) (h : Wi_clear_0 a0 w = some r) : Rn g l D 96 0 [(0, .inr (.inr a0))] [] w none r := by
  unfold Wi_clear_0 at h
  refine fr_aload_n i96_0 rfl ?_
  refine rn_iconst i96_1 ?_
  obtain ⟨w2, h2, h⟩ := Option.bind_eq_some_iff.mp h
  refine fr_pI (k := 0) i96_2 (pf10_0 96) h2 ?_
  refine fr_aload_n i96_5 rfl ?_
  refine rn_iconst i96_6 ?_
  obtain ⟨w7, h7, h⟩ := Option.bind_eq_some_iff.mp h
  refine fr_pI (k := 1) i96_7 (pf10_1 96) h7 ?_
  refine fr_aload_n i96_10 rfl ?_
  refine rn_iconst i96_11 ?_
  obtain ⟨w12, h12, h⟩ := Option.bind_eq_some_iff.mp h
  refine fr_pI (k := 2) i96_12 (pf10_2 96) h12 ?_
  refine fr_aload_n i96_15 rfl ?_
  refine rn_iconst i96_16 ?_
  obtain ⟨w17, h17, h⟩ := Option.bind_eq_some_iff.mp h
  refine fr_pI (k := 3) i96_17 (pf10_3 96) h17 ?_
  refine fr_aload_n i96_20 rfl ?_
  refine rn_sipush i96_21 ?_
  obtain ⟨w24, h24, h⟩ := Option.bind_eq_some_iff.mp h
  refine fr_pI (k := 4) i96_24 (pf10_4 96) h24 ?_
  refine fr_aload_n i96_27 rfl ?_
  refine rn_iconst i96_28 ?_
  obtain ⟨w29, h29, h⟩ := Option.bind_eq_some_iff.mp h
  refine fr_pI (k := 5) i96_29 (pf10_5 96) h29 ?_
  refine fr_aload_n i96_32 rfl ?_
  refine rn_iconst i96_33 ?_
  obtain ⟨w34, h34, h⟩ := Option.bind_eq_some_iff.mp h
  refine fr_pI (k := 6) i96_34 (pf10_6 96) h34 ?_
  refine fr_aload_n i96_37 rfl ?_
  obtain ⟨v38, h38, h⟩ := Option.bind_eq_some_iff.mp h
  refine fr_gR (k := 13) i96_38 tf10_13 h38 ?_
  refine rn_iconst i96_41 ?_
  obtain ⟨w42, h42, h⟩ := Option.bind_eq_some_iff.mp h
  refine fr_pI (k := 0) i96_42 (pf2_0 96) h42 ?_
  refine rn_iconst i96_45 ?_
  refine rn_istore_n (ls1 := [(1, .inl 0), (0, .inr (.inr a0))]) i96_46 rfl ?_
  exact rn_sub [1, 0] rfl (s_Wi_clear_47 hD FU a0 0 w42 r h)
/-- HandHeirs$Will.clear()V -/
def Wi_clear (a0 : Nat) (w : Wd) : Option (Wd) := gd 10 w a0 (Wi_clear_0 a0 w)
theorem S_Wi_clear {g : Gp} {l : Launch} (a0 : Nat) (w : Wd) (r : Wd) (h : Wi_clear a0 w = some r) : (wsh w a0).1 = 10 ∧ ∀ D, 0 ≤ D → Rn g l D 96 0 [(0, .inr (.inr a0))] [] w none r := by
  obtain ⟨hg, h⟩ := gd_some h
  exact ⟨hg, fun D hD => rn_sub [0] rfl (s_Wi_clear_0 hD a0 w r h)⟩
def Wi_init_0 (a0 : Nat) (w : Wd) : Option (Wd) :=
  (tgd w a0 10).bind fun _ =>
  (fpI w a0 10 0 0).bind fun w6 =>
  (fpI w6 a0 10 1 0).bind fun w11 =>
  (fpI w11 a0 10 2 0).bind fun w16 =>
  (fpI w16 a0 10 3 3).bind fun w21 =>
  (fpI w21 a0 10 4 9999).bind fun w28 =>
  (fpI w28 a0 10 5 0).bind fun w33 =>
  (fpI w33 a0 10 6 (-1)).bind fun w38 =>
  (nwA w38 20 6).bind fun w44 =>
  (fpR w44 a0 10 7 (wn w38)).bind fun w46 =>
  (nwA w46 20 6).bind fun w52 =>
  (fpR w52 a0 10 8 (wn w46)).bind fun w54 =>
  (nwA w54 20 6).bind fun w60 =>
  (fpR w60 a0 10 9 (wn w54)).bind fun w62 =>
  (nwA w62 20 36).bind fun w68 =>
  (fpR w68 a0 10 10 (wn w62)).bind fun w70 =>
  (nwA w70 20 3).bind fun w75 =>
  (fpR w75 a0 10 11 (wn w70)).bind fun w77 =>
  (nwA w77 20 6).bind fun w83 =>
  (fpR w83 a0 10 12 (wn w77)).bind fun w85 =>
  (Lw_init (wn w85) (nw w85 2 5)).bind fun r93 =>
  (fpR r93 a0 10 13 (wn w85)).bind fun w96 =>
  (Wi_clear a0 w96).bind fun r100 =>
  some r100
theorem s_Wi_init_0 {g : Gp} {l : Launch} {D : Nat} (hD : 2 ≤ D) (a0 : Nat) (w : Wd) (r : Wd) (h : Wi_init_0 a0 w = some r) : Rn g l D 95 0 [(0, .inr (.inr a0))] [] w none r := by
  obtain ⟨D, rfl⟩ : ∃ D1, D = D1 + 1 := ⟨D - 1, by omega⟩
  unfold Wi_init_0 at h
  refine fr_aload_n i95_0 rfl ?_
  obtain ⟨_, h1, h⟩ := Option.bind_eq_some_iff.mp h
  refine fr_objI i95_1 h1 (by decide) (Nat.le_of_ble_eq_true rfl) ?_
  refine fr_aload_n i95_4 rfl ?_
  refine rn_iconst i95_5 ?_
  obtain ⟨w6, h6, h⟩ := Option.bind_eq_some_iff.mp h
  refine fr_pI (k := 0) i95_6 (pf10_0 95) h6 ?_
  refine fr_aload_n i95_9 rfl ?_
  refine rn_iconst i95_10 ?_
  obtain ⟨w11, h11, h⟩ := Option.bind_eq_some_iff.mp h
  refine fr_pI (k := 1) i95_11 (pf10_1 95) h11 ?_
  refine fr_aload_n i95_14 rfl ?_
  refine rn_iconst i95_15 ?_
  obtain ⟨w16, h16, h⟩ := Option.bind_eq_some_iff.mp h
  refine fr_pI (k := 2) i95_16 (pf10_2 95) h16 ?_
  refine fr_aload_n i95_19 rfl ?_
  refine rn_iconst i95_20 ?_
  obtain ⟨w21, h21, h⟩ := Option.bind_eq_some_iff.mp h
  refine fr_pI (k := 3) i95_21 (pf10_3 95) h21 ?_
  refine fr_aload_n i95_24 rfl ?_
  refine rn_sipush i95_25 ?_
  obtain ⟨w28, h28, h⟩ := Option.bind_eq_some_iff.mp h
  refine fr_pI (k := 4) i95_28 (pf10_4 95) h28 ?_
  refine fr_aload_n i95_31 rfl ?_
  refine rn_iconst i95_32 ?_
  obtain ⟨w33, h33, h⟩ := Option.bind_eq_some_iff.mp h
  refine fr_pI (k := 5) i95_33 (pf10_5 95) h33 ?_
  refine fr_aload_n i95_36 rfl ?_
  refine rn_iconst i95_37 ?_
  obtain ⟨w38, h38, h⟩ := Option.bind_eq_some_iff.mp h
  refine fr_pI (k := 6) i95_38 (pf10_6 95) h38 ?_
  refine fr_aload_n i95_41 rfl ?_
  refine rn_bipush i95_42 ?_
  obtain ⟨w44, h44, h⟩ := Option.bind_eq_some_iff.mp h
  refine rn_newa (t := 20) i95_44 (by decide) rfl h44 ?_
  obtain ⟨w46, h46, h⟩ := Option.bind_eq_some_iff.mp h
  refine fr_pR (k := 7) i95_46 pf95_10_7 h46 ?_
  refine fr_aload_n i95_49 rfl ?_
  refine rn_bipush i95_50 ?_
  obtain ⟨w52, h52, h⟩ := Option.bind_eq_some_iff.mp h
  refine rn_newa (t := 20) i95_52 (by decide) rfl h52 ?_
  obtain ⟨w54, h54, h⟩ := Option.bind_eq_some_iff.mp h
  refine fr_pR (k := 8) i95_54 pf95_10_8 h54 ?_
  refine fr_aload_n i95_57 rfl ?_
  refine rn_bipush i95_58 ?_
  obtain ⟨w60, h60, h⟩ := Option.bind_eq_some_iff.mp h
  refine rn_newa (t := 20) i95_60 (by decide) rfl h60 ?_
  obtain ⟨w62, h62, h⟩ := Option.bind_eq_some_iff.mp h
  refine fr_pR (k := 9) i95_62 pf95_10_9 h62 ?_
  refine fr_aload_n i95_65 rfl ?_
  refine rn_bipush i95_66 ?_
  obtain ⟨w68, h68, h⟩ := Option.bind_eq_some_iff.mp h
  refine rn_newa (t := 20) i95_68 (by decide) rfl h68 ?_
  obtain ⟨w70, h70, h⟩ := Option.bind_eq_some_iff.mp h
  refine fr_pR (k := 10) i95_70 pf95_10_10 h70 ?_
  refine fr_aload_n i95_73 rfl ?_
  refine rn_iconst i95_74 ?_
  obtain ⟨w75, h75, h⟩ := Option.bind_eq_some_iff.mp h
  refine rn_newa (t := 20) i95_75 (by decide) rfl h75 ?_
  obtain ⟨w77, h77, h⟩ := Option.bind_eq_some_iff.mp h
  refine fr_pR (k := 11) i95_77 pf95_10_11 h77 ?_
  refine fr_aload_n i95_80 rfl ?_
  refine rn_bipush i95_81 ?_
  obtain ⟨w83, h83, h⟩ := Option.bind_eq_some_iff.mp h
  refine rn_newa (t := 20) i95_83 (by decide) rfl h83 ?_
  obtain ⟨w85, h85, h⟩ := Option.bind_eq_some_iff.mp h
  refine fr_pR (k := 12) i95_85 pf95_10_12 h85 ?_
  refine fr_aload_n i95_88 rfl ?_
  refine rn_new i95_89 (by decide) ?_
  refine rn_dup i95_92 rfl ?_
  obtain ⟨r93, h93, h⟩ := Option.bind_eq_some_iff.mp h
  obtain ⟨g93, c93⟩ := S_Lw_init (wn w85) (nw w85 2 5) r93 h93
  refine fr_callI (nst := 1) (a := (wn w85)) (As := []) (st := [.inr (.inr (wn w85)), .inr (.inr a0)]) i95_93 (cq36 (wn w85)) rfl (Nat.le_of_ble_eq_true rfl) g93 (c93 _ (by omega)) ?_
  obtain ⟨w96, h96, h⟩ := Option.bind_eq_some_iff.mp h
  refine fr_pR (k := 13) i95_96 pf95_10_13 h96 ?_
  refine fr_aload_n i95_99 rfl ?_
  obtain ⟨r100, h100, h⟩ := Option.bind_eq_some_iff.mp h
  obtain ⟨g100, c100⟩ := S_Wi_clear a0 w96 r100 h100
  refine fr_callV (a := a0) (As := []) (st := []) i95_100 (cq96 a0) rfl (Nat.le_of_ble_eq_true rfl) g100 (c100 _ (by omega)) ?_
  obtain rfl := Option.some.inj h
  exact rn_ret i95_103 mr95
/-- HandHeirs$Will.<init>()V -/
def Wi_init (a0 : Nat) (w : Wd) : Option (Wd) := gd 10 w a0 (Wi_init_0 a0 w)
theorem S_Wi_init {g : Gp} {l : Launch} (a0 : Nat) (w : Wd) (r : Wd) (h : Wi_init a0 w = some r) : (wsh w a0).1 = 10 ∧ ∀ D, 2 ≤ D → Rn g l D 95 0 [(0, .inr (.inr a0))] [] w none r := by
  obtain ⟨hg, h⟩ := gd_some h
  exact ⟨hg, fun D hD => rn_sub [0] rfl (s_Wi_init_0 hD a0 w r h)⟩
def Rd_init_0 (a0 : Nat) (w : Wd) : Option (Wd) :=
  (tgd w a0 6).bind fun _ =>
  (fpI w a0 6 0 (-1)).bind fun w6 =>
  (Wi_init (wn w6) (nw w6 10 14)).bind fun r14 =>
  (fpR r14 a0 6 1 (wn w6)).bind fun w17 =>
  (fpI w17 a0 6 2 0).bind fun w22 =>
  (Sc_init (wn w22) (nw w22 7 7)).bind fun r30 =>
  (fpR r30 a0 6 3 (wn w22)).bind fun w33 =>
  (nwA w33 22 15).bind fun w39 =>
  (fpR w39 a0 6 4 (wn w33)).bind fun w41 =>
  (fpI w41 a0 6 5 0).bind fun w46 =>
  (fpI w46 a0 6 6 0).bind fun w51 =>
  (fpL w51 a0 6 7 0).bind fun w56 =>
  (fpI w56 a0 6 8 0).bind fun w61 =>
  (fpI w61 a0 6 9 0).bind fun w66 =>
  some w66
theorem s_Rd_init_0 {g : Gp} {l : Launch} {D : Nat} (hD : 5 ≤ D) (a0 : Nat) (w : Wd) (r : Wd) (h : Rd_init_0 a0 w = some r) : Rn g l D 54 0 [(0, .inr (.inr a0))] [] w none r := by
  obtain ⟨D, rfl⟩ : ∃ D1, D = D1 + 1 := ⟨D - 1, by omega⟩
  unfold Rd_init_0 at h
  refine fr_aload_n i54_0 rfl ?_
  obtain ⟨_, h1, h⟩ := Option.bind_eq_some_iff.mp h
  refine fr_objI i54_1 h1 (by decide) (Nat.le_of_ble_eq_true rfl) ?_
  refine fr_aload_n i54_4 rfl ?_
  refine rn_iconst i54_5 ?_
  obtain ⟨w6, h6, h⟩ := Option.bind_eq_some_iff.mp h
  refine fr_pI (k := 0) i54_6 (pf6_0 54) h6 ?_
  refine fr_aload_n i54_9 rfl ?_
  refine rn_new i54_10 (by decide) ?_
  refine rn_dup i54_13 rfl ?_
  obtain ⟨r14, h14, h⟩ := Option.bind_eq_some_iff.mp h
  obtain ⟨g14, c14⟩ := S_Wi_init (wn w6) (nw w6 10 14) r14 h14
  refine fr_callI (nst := 0) (a := (wn w6)) (As := []) (st := [.inr (.inr (wn w6)), .inr (.inr a0)]) i54_14 (cq95 (wn w6)) rfl (Nat.le_of_ble_eq_true rfl) g14 (c14 _ (by omega)) ?_
  obtain ⟨w17, h17, h⟩ := Option.bind_eq_some_iff.mp h
  refine fr_pR (k := 1) i54_17 (pf6_1 54) h17 ?_
  refine fr_aload_n i54_20 rfl ?_
  refine rn_iconst i54_21 ?_
  obtain ⟨w22, h22, h⟩ := Option.bind_eq_some_iff.mp h
  refine fr_pI (k := 2) i54_22 (pf6_2 54) h22 ?_
  refine fr_aload_n i54_25 rfl ?_
  refine rn_new i54_26 (by decide) ?_
  refine rn_dup i54_29 rfl ?_
  obtain ⟨r30, h30, h⟩ := Option.bind_eq_some_iff.mp h
  obtain ⟨g30, c30⟩ := S_Sc_init (wn w22) (nw w22 7 7) r30 h30
  refine fr_callI (nst := 0) (a := (wn w22)) (As := []) (st := [.inr (.inr (wn w22)), .inr (.inr a0)]) i54_30 (cq76 (wn w22)) rfl (Nat.le_of_ble_eq_true rfl) g30 (c30 _ (by omega)) ?_
  obtain ⟨w33, h33, h⟩ := Option.bind_eq_some_iff.mp h
  refine fr_pR (k := 3) i54_33 pf54_6_3 h33 ?_
  refine fr_aload_n i54_36 rfl ?_
  refine rn_bipush i54_37 ?_
  obtain ⟨w39, h39, h⟩ := Option.bind_eq_some_iff.mp h
  refine rn_newa (t := 22) i54_39 (by decide) rfl h39 ?_
  obtain ⟨w41, h41, h⟩ := Option.bind_eq_some_iff.mp h
  refine fr_pR (k := 4) i54_41 pf54_6_4 h41 ?_
  refine fr_aload_n i54_44 rfl ?_
  refine rn_iconst i54_45 ?_
  obtain ⟨w46, h46, h⟩ := Option.bind_eq_some_iff.mp h
  refine fr_pI (k := 5) i54_46 (pf6_5 54) h46 ?_
  refine fr_aload_n i54_49 rfl ?_
  refine rn_iconst i54_50 ?_
  obtain ⟨w51, h51, h⟩ := Option.bind_eq_some_iff.mp h
  refine fr_pI (k := 6) i54_51 (pf6_6 54) h51 ?_
  refine fr_aload_n i54_54 rfl ?_
  refine fr_lconst0 i54_55 ?_
  obtain ⟨w56, h56, h⟩ := Option.bind_eq_some_iff.mp h
  refine fr_pL (k := 7) i54_56 (pf6_7 54) h56 ?_
  refine fr_aload_n i54_59 rfl ?_
  refine rn_iconst i54_60 ?_
  obtain ⟨w61, h61, h⟩ := Option.bind_eq_some_iff.mp h
  refine fr_pI (k := 8) i54_61 (pf6_8 54) h61 ?_
  refine fr_aload_n i54_64 rfl ?_
  refine rn_iconst i54_65 ?_
  obtain ⟨w66, h66, h⟩ := Option.bind_eq_some_iff.mp h
  refine fr_pI (k := 9) i54_66 (pf6_9 54) h66 ?_
  obtain rfl := Option.some.inj h
  exact rn_ret i54_69 mr54
/-- HandHeirs$Reader.<init>()V -/
def Rd_init (a0 : Nat) (w : Wd) : Option (Wd) := gd 6 w a0 (Rd_init_0 a0 w)
theorem S_Rd_init {g : Gp} {l : Launch} (a0 : Nat) (w : Wd) (r : Wd) (h : Rd_init a0 w = some r) : (wsh w a0).1 = 6 ∧ ∀ D, 5 ≤ D → Rn g l D 54 0 [(0, .inr (.inr a0))] [] w none r := by
  obtain ⟨hg, h⟩ := gd_some h
  exact ⟨hg, fun D hD => rn_sub [0] rfl (s_Rd_init_0 hD a0 w r h)⟩
def Rd_refuse_0 (a0 : Nat) (x1 : Int) (w : Wd) : Option (Int × Wd) :=
  (fpI w a0 6 2 x1).bind fun w2 =>
  (fgR w2 a0 6 3).bind fun v7 =>
  (fgR w2 v7 7 1).bind fun v10 =>
  (fgI w2 a0 6 5).bind fun v14 =>
  (rdI w2 v10 v14).bind fun v17 =>
  (fpI w2 a0 6 0 v17).bind fun w18 =>
  some (0, w18)
theorem s_Rd_refuse_0 {g : Gp} {l : Launch} {D : Nat} (hD : 0 ≤ D) (a0 : Nat) (x1 : Int) (w : Wd) (r : Int × Wd) (h : Rd_refuse_0 a0 x1 w = some r) : Rn g l D 57 0 [(0, .inr (.inr a0)), (1, .inl x1)] [] w (some (.inl r.1)) r.2 := by
  unfold Rd_refuse_0 at h
  refine fr_aload_n i57_0 rfl ?_
  refine rn_iload_n i57_1 rfl ?_
  obtain ⟨w2, h2, h⟩ := Option.bind_eq_some_iff.mp h
  refine fr_pI (k := 2) i57_2 (pf6_2 57) h2 ?_
  refine fr_aload_n i57_5 rfl ?_
  refine fr_aload_n i57_6 rfl ?_
  obtain ⟨v7, h7, h⟩ := Option.bind_eq_some_iff.mp h
  refine fr_gR (k := 3) i57_7 tf6_3 h7 ?_
  obtain ⟨v10, h10, h⟩ := Option.bind_eq_some_iff.mp h
  refine fr_gR (k := 1) i57_10 tf7_1 h10 ?_
  refine fr_aload_n i57_13 rfl ?_
  obtain ⟨v14, h14, h⟩ := Option.bind_eq_some_iff.mp h
  refine fr_gI (k := 5) i57_14 tf6_5 h14 ?_
  obtain ⟨v17, h17, h⟩ := Option.bind_eq_some_iff.mp h
  refine rn_iald i57_17 h17 ?_
  obtain ⟨w18, h18, h⟩ := Option.bind_eq_some_iff.mp h
  refine fr_pI (k := 0) i57_18 (pf6_0 57) h18 ?_
  refine rn_iconst i57_21 ?_
  obtain rfl := Option.some.inj h
  exact rn_retZ i57_22 mr57 (by decide)
/-- HandHeirs$Reader.refuse(I)Z -/
def Rd_refuse (a0 : Nat) (x1 : Int) (w : Wd) : Option (Int × Wd) := gd 6 w a0 (Rd_refuse_0 a0 x1 w)
theorem S_Rd_refuse {g : Gp} {l : Launch} (a0 : Nat) (x1 : Int) (w : Wd) (r : Int × Wd) (h : Rd_refuse a0 x1 w = some r) : (wsh w a0).1 = 6 ∧ ∀ D, 0 ≤ D → Rn g l D 57 0 [(0, .inr (.inr a0)), (1, .inl x1)] [] w (some (.inl r.1)) r.2 := by
  obtain ⟨hg, h⟩ := gd_some h
  exact ⟨hg, fun D hD => rn_sub [0, 1] rfl (s_Rd_refuse_0 hD a0 x1 w r h)⟩
def Rd_pass_0 (a0 : Nat) (w : Wd) : Option (Int × Wd) :=
  (fgI w a0 6 5).bind fun v1 =>
  if (v1 : Int) < 400 then
    (fgI w a0 6 5).bind fun v18 =>
    (fpI w a0 6 5 (w32 (v18 + 1))).bind fun w23 =>
    (fgR w23 a0 6 3).bind fun v28 =>
    (fgR w23 v28 7 0).bind fun v31 =>
    (fgI w23 a0 6 5).bind fun v35 =>
    (rdI w23 v31 v35).bind fun v38 =>
    (fpI w23 a0 6 6 v38).bind fun w39 =>
    (fgR w39 a0 6 3).bind fun v44 =>
    (fgR w39 v44 7 2).bind fun v47 =>
    (fgI w39 a0 6 5).bind fun v51 =>
    (rdL w39 v47 v51).bind fun v54 =>
    (fpL w39 a0 6 7 v54).bind fun w55 =>
    some (1, w55)
  else
    (Rd_refuse a0 2 w).bind fun r12 =>
    rZ r12.1 r12.2
theorem s_Rd_pass_0 {g : Gp} {l : Launch} {D : Nat} (hD : 1 ≤ D) (a0 : Nat) (w : Wd) (r : Int × Wd) (h : Rd_pass_0 a0 w = some r) : Rn g l D 59 0 [(0, .inr (.inr a0))] [] w (some (.inl r.1)) r.2 := by
  obtain ⟨D, rfl⟩ : ∃ D1, D = D1 + 1 := ⟨D - 1, by omega⟩
  unfold Rd_pass_0 at h
  refine fr_aload_n i59_0 rfl ?_
  obtain ⟨v1, h1, h⟩ := Option.bind_eq_some_iff.mp h
  refine fr_gI (k := 5) i59_1 tf6_5 h1 ?_
  refine rn_sipush i59_4 ?_
  by_cases c7 : (v1 : Int) < 400
  · rw [if_pos c7] at h
    refine rn_icmp_lt_t i59_7 c7 ?_
    refine fr_aload_n i59_16 rfl ?_
    refine rn_dup i59_17 rfl ?_
    obtain ⟨v18, h18, h⟩ := Option.bind_eq_some_iff.mp h
    refine fr_gI (k := 5) i59_18 tf6_5 h18 ?_
    refine rn_iconst i59_21 ?_
    refine rn_iadd i59_22 ?_
    obtain ⟨w23, h23, h⟩ := Option.bind_eq_some_iff.mp h
    refine fr_pI (k := 5) i59_23 (pf6_5 59) h23 ?_
    refine fr_aload_n i59_26 rfl ?_
    refine fr_aload_n i59_27 rfl ?_
    obtain ⟨v28, h28, h⟩ := Option.bind_eq_some_iff.mp h
    refine fr_gR (k := 3) i59_28 tf6_3 h28 ?_
    obtain ⟨v31, h31, h⟩ := Option.bind_eq_some_iff.mp h
    refine fr_gR (k := 0) i59_31 tf7_0 h31 ?_
    refine fr_aload_n i59_34 rfl ?_
    obtain ⟨v35, h35, h⟩ := Option.bind_eq_some_iff.mp h
    refine fr_gI (k := 5) i59_35 tf6_5 h35 ?_
    obtain ⟨v38, h38, h⟩ := Option.bind_eq_some_iff.mp h
    refine rn_iald i59_38 h38 ?_
    obtain ⟨w39, h39, h⟩ := Option.bind_eq_some_iff.mp h
    refine fr_pI (k := 6) i59_39 (pf6_6 59) h39 ?_
    refine fr_aload_n i59_42 rfl ?_
    refine fr_aload_n i59_43 rfl ?_
    obtain ⟨v44, h44, h⟩ := Option.bind_eq_some_iff.mp h
    refine fr_gR (k := 3) i59_44 tf6_3 h44 ?_
    obtain ⟨v47, h47, h⟩ := Option.bind_eq_some_iff.mp h
    refine fr_gR (k := 2) i59_47 tf7_2 h47 ?_
    refine fr_aload_n i59_50 rfl ?_
    obtain ⟨v51, h51, h⟩ := Option.bind_eq_some_iff.mp h
    refine fr_gI (k := 5) i59_51 tf6_5 h51 ?_
    obtain ⟨v54, h54, h⟩ := Option.bind_eq_some_iff.mp h
    refine rn_lald i59_54 h54 ?_
    obtain ⟨w55, h55, h⟩ := Option.bind_eq_some_iff.mp h
    refine fr_pL (k := 7) i59_55 (pf6_7 59) h55 ?_
    refine rn_iconst i59_58 ?_
    obtain rfl := Option.some.inj h
    exact rn_retZ i59_59 mr59 (by decide)
  · rw [if_neg c7] at h
    refine rn_icmp_lt_f i59_7 c7 ?_
    refine fr_aload_n i59_10 rfl ?_
    refine rn_iconst i59_11 ?_
    obtain ⟨r12, h12, h⟩ := Option.bind_eq_some_iff.mp h
    obtain ⟨g12, c12⟩ := S_Rd_refuse a0 2 w r12 h12
    refine fr_callV (a := a0) (As := [.inl 2]) (st := []) i59_12 (cq57 a0 2) rfl (Nat.le_of_ble_eq_true rfl) g12 (c12 _ (by omega)) ?_
    show Rn _ _ _ _ _ _ [.inl r12.1] _ _ _
    exact fr_retZ i59_15 mr59 h
/-- HandHeirs$Reader.pass()Z -/
def Rd_pass (a0 : Nat) (w : Wd) : Option (Int × Wd) := gd 6 w a0 (Rd_pass_0 a0 w)
theorem S_Rd_pass {g : Gp} {l : Launch} (a0 : Nat) (w : Wd) (r : Int × Wd) (h : Rd_pass a0 w = some r) : (wsh w a0).1 = 6 ∧ ∀ D, 1 ≤ D → Rn g l D 59 0 [(0, .inr (.inr a0))] [] w (some (.inl r.1)) r.2 := by
  obtain ⟨hg, h⟩ := gd_some h
  exact ⟨hg, fun D hD => rn_sub [0] rfl (s_Rd_pass_0 hD a0 w r h)⟩
def Sc_kindOf_19 (x3 : Int) (w : Wd) : Option (Int × Wd) :=
  some ((w32 (256 + x3)), w)
theorem s_Sc_kindOf_19 {g : Gp} {l : Launch} {D : Nat} (hD : 0 ≤ D) (x3 : Int) (w : Wd) (r : Int × Wd) (h : Sc_kindOf_19 x3 w = some r) : Rn g l D 81 19 [(3, .inl x3)] [] w (some (.inl r.1)) r.2 := by
  unfold Sc_kindOf_19 at h
  refine rn_sipush i81_19 ?_
  refine rn_iload_n i81_22 rfl ?_
  refine rn_iadd i81_23 ?_
  obtain rfl := Option.some.inj h
  exact rn_retI i81_24 mr81
def Sc_kindOf_2 : Nat → Nat → Int → Int → Wd → Option (Int × Wd)
  | 0, _, _, _, _ => none
  | n + 1, a0, x1, x3, w =>
    if (17 : Int) ≤ x3 then
      some (2, w)
    else
      (fgR w a0 7 3).bind fun v9 =>
      (rdL w v9 x3).bind fun v13 =>
      if ((ocmp v13 x1) : Int) = 0 then
        Sc_kindOf_19 x3 w
      else
        Sc_kindOf_2 n a0 x1 (w32 (x3 + 1)) w
theorem s_Sc_kindOf_2 {g : Gp} {l : Launch} {D : Nat} (hD : 0 ≤ D) : ∀ (n : Nat) (a0 : Nat) (x1 : Int) (x3 : Int) (w : Wd) (r : Int × Wd), Sc_kindOf_2 n a0 x1 x3 w = some r → Rn g l D 81 2 [(0, .inr (.inr a0)), (1, .inr (.inl x1)), (3, .inl x3)] [] w (some (.inl r.1)) r.2 := by
  intro n
  induction n with
  | zero => intro a0 x1 x3 w r h; cases (show (none : Option (Int × Wd)) = some r from h)
  | succ n ih =>
    intro a0 x1 x3 w r h
    unfold Sc_kindOf_2 at h
    refine rn_iload_n i81_2 rfl ?_
    refine rn_bipush i81_3 ?_
    by_cases c5 : (17 : Int) ≤ x3
    · rw [if_pos c5] at h
      refine rn_icmp_ge_t i81_5 c5 ?_
      refine rn_iconst i81_31 ?_
      obtain rfl := Option.some.inj h
      exact rn_retI i81_32 mr81
    · rw [if_neg c5] at h
      refine rn_icmp_ge_f i81_5 c5 ?_
      refine fr_aload_n i81_8 rfl ?_
      obtain ⟨v9, h9, h⟩ := Option.bind_eq_some_iff.mp h
      refine fr_gR (k := 3) i81_9 tf7_3 h9 ?_
      refine rn_iload_n i81_12 rfl ?_
      obtain ⟨v13, h13, h⟩ := Option.bind_eq_some_iff.mp h
      refine rn_lald i81_13 h13 ?_
      refine rn_lload_n i81_14 rfl ?_
      refine rn_lcmp i81_15 ?_
      by_cases c16 : ((ocmp v13 x1) : Int) = 0
      · rw [if_pos c16] at h
        refine rn_if_ne_f i81_16 c16 ?_
        exact rn_sub [2] rfl (s_Sc_kindOf_19 hD x3 w r h)
      · rw [if_neg c16] at h
        refine rn_if_ne_t i81_16 c16 ?_
        refine rn_iinc (ls1 := [(3, .inl (w32 (x3 + 1))), (0, .inr (.inr a0)), (1, .inr (.inl x1))]) i81_25 rfl rfl ?_
        refine rn_goto i81_28 ?_
        exact rn_sub [1, 2, 0] rfl (ih a0 x1 (w32 (x3 + 1)) w r h)
def Sc_kindOf_0 (a0 : Nat) (x1 : Int) (w : Wd) : Option (Int × Wd) :=
  Sc_kindOf_2 FU a0 x1 0 w
theorem s_Sc_kindOf_0 {g : Gp} {l : Launch} {D : Nat} (hD : 0 ≤ D) (a0 : Nat) (x1 : Int) (w : Wd) (r : Int × Wd) (h : Sc_kindOf_0 a0 x1 w = some r) : Rn g l D 81 0 [(0, .inr (.inr a0)), (1, .inr (.inl x1))] [] w (some (.inl r.1)) r.2 := by
  unfold Sc_kindOf_0 at h
  refine rn_iconst i81_0 ?_
  refine rn_istore_n (ls1 := [(3, .inl 0), (0, .inr (.inr a0)), (1, .inr (.inl x1))]) i81_1 rfl ?_
  exact rn_sub [1, 2, 0] rfl (s_Sc_kindOf_2 hD FU a0 x1 0 w r h)
/-- HandHeirs$Scanner.kindOf(J)I -/
def Sc_kindOf (a0 : Nat) (x1 : Int) (w : Wd) : Option (Int × Wd) := gd 7 w a0 (Sc_kindOf_0 a0 x1 w)
theorem S_Sc_kindOf {g : Gp} {l : Launch} (a0 : Nat) (x1 : Int) (w : Wd) (r : Int × Wd) (h : Sc_kindOf a0 x1 w = some r) : (wsh w a0).1 = 7 ∧ ∀ D, 0 ≤ D → Rn g l D 81 0 [(0, .inr (.inr a0)), (1, .inr (.inl x1))] [] w (some (.inl r.1)) r.2 := by
  obtain ⟨hg, h⟩ := gd_some h
  exact ⟨hg, fun D hD => rn_sub [0, 1] rfl (s_Sc_kindOf_0 hD a0 x1 w r h)⟩
def Sc_isSmall_17 (s0 : Int) (w : Wd) : Option (Int × Wd) :=
  rZ s0 w
theorem s_Sc_isSmall_17 {g : Gp} {l : Launch} {D : Nat} (hD : 0 ≤ D) (s0 : Int) (w : Wd) (r : Int × Wd) (h : Sc_isSmall_17 s0 w = some r) : Rn g l D 84 17 [] [.inl s0] w (some (.inl r.1)) r.2 := by
  unfold Sc_isSmall_17 at h
  exact fr_retZ i84_17 mr84 h
def Sc_isSmall_16 (w : Wd) : Option (Int × Wd) :=
  Sc_isSmall_17 0 w
theorem s_Sc_isSmall_16 {g : Gp} {l : Launch} {D : Nat} (hD : 0 ≤ D) (w : Wd) (r : Int × Wd) (h : Sc_isSmall_16 w = some r) : Rn g l D 84 16 [] [] w (some (.inl r.1)) r.2 := by
  unfold Sc_isSmall_16 at h
  refine rn_iconst i84_16 ?_
  exact rn_sub [] rfl (s_Sc_isSmall_17 hD 0 w r h)
def Sc_isSmall_0 (x0 : Int) (w : Wd) : Option (Int × Wd) :=
  if (x0 : Int) < 97 then
    Sc_isSmall_16 w
  else
    if (122 : Int) < x0 then
      Sc_isSmall_16 w
    else
      Sc_isSmall_17 1 w
theorem s_Sc_isSmall_0 {g : Gp} {l : Launch} {D : Nat} (hD : 0 ≤ D) (x0 : Int) (w : Wd) (r : Int × Wd) (h : Sc_isSmall_0 x0 w = some r) : Rn g l D 84 0 [(0, .inl x0)] [] w (some (.inl r.1)) r.2 := by
  unfold Sc_isSmall_0 at h
  refine rn_iload_n i84_0 rfl ?_
  refine rn_bipush i84_1 ?_
  by_cases c3 : (x0 : Int) < 97
  · rw [if_pos c3] at h
    refine rn_icmp_lt_t i84_3 c3 ?_
    exact rn_sub [] rfl (s_Sc_isSmall_16 hD w r h)
  · rw [if_neg c3] at h
    refine rn_icmp_lt_f i84_3 c3 ?_
    refine rn_iload_n i84_6 rfl ?_
    refine rn_bipush i84_7 ?_
    by_cases c9 : (122 : Int) < x0
    · rw [if_pos c9] at h
      refine rn_icmp_gt_t i84_9 c9 ?_
      exact rn_sub [] rfl (s_Sc_isSmall_16 hD w r h)
    · rw [if_neg c9] at h
      refine rn_icmp_gt_f i84_9 c9 ?_
      refine rn_iconst i84_12 ?_
      refine rn_goto i84_13 ?_
      exact rn_sub [] rfl (s_Sc_isSmall_17 hD 1 w r h)
/-- HandHeirs$Scanner.isSmall(I)Z -/
def Sc_isSmall (x0 : Int) (w : Wd) : Option (Int × Wd) := Sc_isSmall_0 x0 w
theorem S_Sc_isSmall {g : Gp} {l : Launch} (x0 : Int) (w : Wd) (r : Int × Wd) (h : Sc_isSmall x0 w = some r) : ∀ D, 0 ≤ D → Rn g l D 84 0 [(0, .inl x0)] [] w (some (.inl r.1)) r.2 := fun D hD => rn_sub [0] rfl (s_Sc_isSmall_0 hD x0 w r h)
def Sc_cutName_92 (s0 : Int) (s1 : Int) (s2 : Nat) (w : Wd) : Option (Wd) :=
  (wrI w s2 s1 s0).bind fun w92 =>
  some w92
theorem s_Sc_cutName_92 {g : Gp} {l : Launch} {D : Nat} (hD : 1 ≤ D) (s0 : Int) (s1 : Int) (s2 : Nat) (w : Wd) (r : Wd) (h : Sc_cutName_92 s0 s1 s2 w = some r) : Rn g l D 80 92 [] [.inl s0, .inl s1, .inr (.inr s2)] w none r := by
  unfold Sc_cutName_92 at h
  obtain ⟨w92, h92, h⟩ := Option.bind_eq_some_iff.mp h
  refine rn_iast i80_92 h92 ?_
  obtain rfl := Option.some.inj h
  exact rn_ret i80_93 mr80
def Sc_cutName_55 (a0 : Nat) (x1 : Int) (x2 : Int) (w : Wd) : Option (Wd) :=
  (fgR w a0 7 2).bind fun v56 =>
  (wrL w v56 x1 x2).bind fun w61 =>
  (fgR w61 a0 7 0).bind fun v63 =>
  (fgI w61 a0 7 6).bind fun v68 =>
  (fgR w61 a0 7 1).bind fun v72 =>
  (rdI w61 v72 x1).bind fun v76 =>
  if ((w32 (v68 - v76)) : Int) ≤ 8 then
    (Sc_kindOf a0 x2 w61).bind fun r89 =>
    Sc_cutName_92 r89.1 x1 v63 r89.2
  else
    Sc_cutName_92 1 x1 v63 w61
theorem s_Sc_cutName_55 {g : Gp} {l : Launch} {D : Nat} (hD : 1 ≤ D) (a0 : Nat) (x1 : Int) (x2 : Int) (w : Wd) (r : Wd) (h : Sc_cutName_55 a0 x1 x2 w = some r) : Rn g l D 80 55 [(0, .inr (.inr a0)), (1, .inl x1), (2, .inr (.inl x2))] [] w none r := by
  obtain ⟨D, rfl⟩ : ∃ D1, D = D1 + 1 := ⟨D - 1, by omega⟩
  unfold Sc_cutName_55 at h
  refine fr_aload_n i80_55 rfl ?_
  obtain ⟨v56, h56, h⟩ := Option.bind_eq_some_iff.mp h
  refine fr_gR (k := 2) i80_56 tf7_2 h56 ?_
  refine rn_iload_n i80_59 rfl ?_
  refine rn_lload_n i80_60 rfl ?_
  obtain ⟨w61, h61, h⟩ := Option.bind_eq_some_iff.mp h
  refine rn_last i80_61 h61 ?_
  refine fr_aload_n i80_62 rfl ?_
  obtain ⟨v63, h63, h⟩ := Option.bind_eq_some_iff.mp h
  refine fr_gR (k := 0) i80_63 tf7_0 h63 ?_
  refine rn_iload_n i80_66 rfl ?_
  refine fr_aload_n i80_67 rfl ?_
  obtain ⟨v68, h68, h⟩ := Option.bind_eq_some_iff.mp h
  refine fr_gI (k := 6) i80_68 tf7_6 h68 ?_
  refine fr_aload_n i80_71 rfl ?_
  obtain ⟨v72, h72, h⟩ := Option.bind_eq_some_iff.mp h
  refine fr_gR (k := 1) i80_72 tf7_1 h72 ?_
  refine rn_iload_n i80_75 rfl ?_
  obtain ⟨v76, h76, h⟩ := Option.bind_eq_some_iff.mp h
  refine rn_iald i80_76 h76 ?_
  refine rn_isub i80_77 ?_
  refine rn_bipush i80_78 ?_
  by_cases c80 : ((w32 (v68 - v76)) : Int) ≤ 8
  · rw [if_pos c80] at h
    refine rn_icmp_le_t i80_80 c80 ?_
    refine fr_aload_n i80_87 rfl ?_
    refine rn_lload_n i80_88 rfl ?_
    obtain ⟨r89, h89, h⟩ := Option.bind_eq_some_iff.mp h
    obtain ⟨g89, c89⟩ := S_Sc_kindOf a0 x2 w61 r89 h89
    refine fr_callV (a := a0) (As := [.inr (.inl x2)]) (st := [.inl x1, .inr (.inr v63)]) i80_89 (cq81 a0 x2) rfl (Nat.le_of_ble_eq_true rfl) g89 (c89 _ (by omega)) ?_
    show Rn _ _ _ _ _ _ [.inl r89.1, .inl x1, .inr (.inr v63)] _ _ _
    exact rn_sub [] rfl (s_Sc_cutName_92 hD r89.1 x1 v63 r89.2 r h)
  · rw [if_neg c80] at h
    refine rn_icmp_le_f i80_80 c80 ?_
    refine rn_iconst i80_83 ?_
    refine rn_goto i80_84 ?_
    exact rn_sub [] rfl (s_Sc_cutName_92 hD 1 x1 v63 w61 r h)
def Sc_cutName_2 : Nat → Nat → Int → Int → Wd → Option (Wd)
  | 0, _, _, _, _ => none
  | n + 1, a0, x1, x2, w =>
    (fgI w a0 7 6).bind fun v3 =>
    (fgI w a0 7 5).bind fun v7 =>
    if (v7 : Int) ≤ v3 then
      Sc_cutName_55 a0 x1 x2 w
    else
      (fgR w a0 7 4).bind fun v14 =>
      (fgI w a0 7 6).bind fun v18 =>
      (rdB w v14 v18).bind fun v21 =>
      (Sc_isSmall v21 w).bind fun r22 =>
      if (r22.1 : Int) = 0 then
        Sc_cutName_55 a0 x1 x2 r22.2
      else
        (fgR r22.2 a0 7 4).bind fun v30 =>
        (fgI r22.2 a0 7 6).bind fun v34 =>
        (rdB r22.2 v30 v34).bind fun v37 =>
        (Sc_joined x2 v37 r22.2).bind fun r38 =>
        (fgI r38.2 a0 7 6).bind fun v44 =>
        (fpI r38.2 a0 7 6 (w32 (v44 + 1))).bind fun w49 =>
        Sc_cutName_2 n a0 x1 r38.1 w49
theorem s_Sc_cutName_2 {g : Gp} {l : Launch} {D : Nat} (hD : 1 ≤ D) : ∀ (n : Nat) (a0 : Nat) (x1 : Int) (x2 : Int) (w : Wd) (r : Wd), Sc_cutName_2 n a0 x1 x2 w = some r → Rn g l D 80 2 [(0, .inr (.inr a0)), (1, .inl x1), (2, .inr (.inl x2))] [] w none r := by
  obtain ⟨D, rfl⟩ : ∃ D1, D = D1 + 1 := ⟨D - 1, by omega⟩
  intro n
  induction n with
  | zero => intro a0 x1 x2 w r h; cases (show (none : Option (Wd)) = some r from h)
  | succ n ih =>
    intro a0 x1 x2 w r h
    unfold Sc_cutName_2 at h
    refine fr_aload_n i80_2 rfl ?_
    obtain ⟨v3, h3, h⟩ := Option.bind_eq_some_iff.mp h
    refine fr_gI (k := 6) i80_3 tf7_6 h3 ?_
    refine fr_aload_n i80_6 rfl ?_
    obtain ⟨v7, h7, h⟩ := Option.bind_eq_some_iff.mp h
    refine fr_gI (k := 5) i80_7 tf7_5 h7 ?_
    by_cases c10 : (v7 : Int) ≤ v3
    · rw [if_pos c10] at h
      refine rn_icmp_ge_t i80_10 c10 ?_
      exact rn_sub [0, 1, 2] rfl (s_Sc_cutName_55 hD a0 x1 x2 w r h)
    · rw [if_neg c10] at h
      refine rn_icmp_ge_f i80_10 c10 ?_
      refine fr_aload_n i80_13 rfl ?_
      obtain ⟨v14, h14, h⟩ := Option.bind_eq_some_iff.mp h
      refine fr_gR (k := 4) i80_14 tf7_4 h14 ?_
      refine fr_aload_n i80_17 rfl ?_
      obtain ⟨v18, h18, h⟩ := Option.bind_eq_some_iff.mp h
      refine fr_gI (k := 6) i80_18 tf7_6 h18 ?_
      obtain ⟨v21, h21, h⟩ := Option.bind_eq_some_iff.mp h
      refine rn_bald i80_21 h21 ?_
      obtain ⟨r22, h22, h⟩ := Option.bind_eq_some_iff.mp h
      refine fr_callS (nst := 0) (As := [.inl v21]) (st := []) i80_22 (cq84 v21) rfl (Nat.le_of_ble_eq_true rfl) (S_Sc_isSmall v21 w r22 h22 _ (by omega)) ?_
      show Rn _ _ _ _ _ _ [.inl r22.1] _ _ _
      by_cases c25 : (r22.1 : Int) = 0
      · rw [if_pos c25] at h
        refine rn_if_eq_t i80_25 c25 ?_
        exact rn_sub [0, 1, 2] rfl (s_Sc_cutName_55 hD a0 x1 x2 r22.2 r h)
      · rw [if_neg c25] at h
        refine rn_if_eq_f i80_25 c25 ?_
        refine rn_lload_n i80_28 rfl ?_
        refine fr_aload_n i80_29 rfl ?_
        obtain ⟨v30, h30, h⟩ := Option.bind_eq_some_iff.mp h
        refine fr_gR (k := 4) i80_30 tf7_4 h30 ?_
        refine fr_aload_n i80_33 rfl ?_
        obtain ⟨v34, h34, h⟩ := Option.bind_eq_some_iff.mp h
        refine fr_gI (k := 6) i80_34 tf7_6 h34 ?_
        obtain ⟨v37, h37, h⟩ := Option.bind_eq_some_iff.mp h
        refine rn_bald i80_37 h37 ?_
        obtain ⟨r38, h38, h⟩ := Option.bind_eq_some_iff.mp h
        refine fr_callS (nst := 0) (As := [.inr (.inl x2), .inl v37]) (st := []) i80_38 (cq77 x2 v37) rfl (Nat.le_of_ble_eq_true rfl) (S_Sc_joined x2 v37 r22.2 r38 h38 _ (by omega)) ?_
        show Rn _ _ _ _ _ _ [.inr (.inl r38.1)] _ _ _
        refine rn_lstore_n (ls1 := [(2, .inr (.inl r38.1)), (0, .inr (.inr a0)), (1, .inl x1)]) i80_41 rfl ?_
        refine fr_aload_n i80_42 rfl ?_
        refine rn_dup i80_43 rfl ?_
        obtain ⟨v44, h44, h⟩ := Option.bind_eq_some_iff.mp h
        refine fr_gI (k := 6) i80_44 tf7_6 h44 ?_
        refine rn_iconst i80_47 ?_
        refine rn_iadd i80_48 ?_
        obtain ⟨w49, h49, h⟩ := Option.bind_eq_some_iff.mp h
        refine fr_pI (k := 6) i80_49 (pf7_6 80) h49 ?_
        refine rn_goto i80_52 ?_
        exact rn_sub [1, 2, 0] rfl (ih a0 x1 r38.1 w49 r h)
def Sc_cutName_0 (a0 : Nat) (x1 : Int) (w : Wd) : Option (Wd) :=
  Sc_cutName_2 FU a0 x1 0 w
theorem s_Sc_cutName_0 {g : Gp} {l : Launch} {D : Nat} (hD : 1 ≤ D) (a0 : Nat) (x1 : Int) (w : Wd) (r : Wd) (h : Sc_cutName_0 a0 x1 w = some r) : Rn g l D 80 0 [(0, .inr (.inr a0)), (1, .inl x1)] [] w none r := by
  unfold Sc_cutName_0 at h
  refine fr_lconst0 i80_0 ?_
  refine rn_lstore_n (ls1 := [(2, .inr (.inl 0)), (0, .inr (.inr a0)), (1, .inl x1)]) i80_1 rfl ?_
  exact rn_sub [1, 2, 0] rfl (s_Sc_cutName_2 hD FU a0 x1 0 w r h)
/-- HandHeirs$Scanner.cutName(I)V -/
def Sc_cutName (a0 : Nat) (x1 : Int) (w : Wd) : Option (Wd) := gd 7 w a0 (Sc_cutName_0 a0 x1 w)
theorem S_Sc_cutName {g : Gp} {l : Launch} (a0 : Nat) (x1 : Int) (w : Wd) (r : Wd) (h : Sc_cutName a0 x1 w = some r) : (wsh w a0).1 = 7 ∧ ∀ D, 1 ≤ D → Rn g l D 80 0 [(0, .inr (.inr a0)), (1, .inl x1)] [] w none r := by
  obtain ⟨hg, h⟩ := gd_some h
  exact ⟨hg, fun D hD => rn_sub [0, 1] rfl (s_Sc_cutName_0 hD a0 x1 w r h)⟩
def Sc_isDigit_17 (s0 : Int) (w : Wd) : Option (Int × Wd) :=
  rZ s0 w
theorem s_Sc_isDigit_17 {g : Gp} {l : Launch} {D : Nat} (hD : 0 ≤ D) (s0 : Int) (w : Wd) (r : Int × Wd) (h : Sc_isDigit_17 s0 w = some r) : Rn g l D 85 17 [] [.inl s0] w (some (.inl r.1)) r.2 := by
  unfold Sc_isDigit_17 at h
  exact fr_retZ i85_17 mr85 h
def Sc_isDigit_16 (w : Wd) : Option (Int × Wd) :=
  Sc_isDigit_17 0 w
theorem s_Sc_isDigit_16 {g : Gp} {l : Launch} {D : Nat} (hD : 0 ≤ D) (w : Wd) (r : Int × Wd) (h : Sc_isDigit_16 w = some r) : Rn g l D 85 16 [] [] w (some (.inl r.1)) r.2 := by
  unfold Sc_isDigit_16 at h
  refine rn_iconst i85_16 ?_
  exact rn_sub [] rfl (s_Sc_isDigit_17 hD 0 w r h)
def Sc_isDigit_0 (x0 : Int) (w : Wd) : Option (Int × Wd) :=
  if (x0 : Int) < 48 then
    Sc_isDigit_16 w
  else
    if (57 : Int) < x0 then
      Sc_isDigit_16 w
    else
      Sc_isDigit_17 1 w
theorem s_Sc_isDigit_0 {g : Gp} {l : Launch} {D : Nat} (hD : 0 ≤ D) (x0 : Int) (w : Wd) (r : Int × Wd) (h : Sc_isDigit_0 x0 w = some r) : Rn g l D 85 0 [(0, .inl x0)] [] w (some (.inl r.1)) r.2 := by
  unfold Sc_isDigit_0 at h
  refine rn_iload_n i85_0 rfl ?_
  refine rn_bipush i85_1 ?_
  by_cases c3 : (x0 : Int) < 48
  · rw [if_pos c3] at h
    refine rn_icmp_lt_t i85_3 c3 ?_
    exact rn_sub [] rfl (s_Sc_isDigit_16 hD w r h)
  · rw [if_neg c3] at h
    refine rn_icmp_lt_f i85_3 c3 ?_
    refine rn_iload_n i85_6 rfl ?_
    refine rn_bipush i85_7 ?_
    by_cases c9 : (57 : Int) < x0
    · rw [if_pos c9] at h
      refine rn_icmp_gt_t i85_9 c9 ?_
      exact rn_sub [] rfl (s_Sc_isDigit_16 hD w r h)
    · rw [if_neg c9] at h
      refine rn_icmp_gt_f i85_9 c9 ?_
      refine rn_iconst i85_12 ?_
      refine rn_goto i85_13 ?_
      exact rn_sub [] rfl (s_Sc_isDigit_17 hD 1 w r h)
/-- HandHeirs$Scanner.isDigit(I)Z -/
def Sc_isDigit (x0 : Int) (w : Wd) : Option (Int × Wd) := Sc_isDigit_0 x0 w
theorem S_Sc_isDigit {g : Gp} {l : Launch} (x0 : Int) (w : Wd) (r : Int × Wd) (h : Sc_isDigit x0 w = some r) : ∀ D, 0 ≤ D → Rn g l D 85 0 [(0, .inl x0)] [] w (some (.inl r.1)) r.2 := fun D hD => rn_sub [0] rfl (s_Sc_isDigit_0 hD x0 w r h)
def Sc_cutInt_92 (s0 : Int) (s1 : Int) (s2 : Nat) (w : Wd) : Option (Wd) :=
  (wrI w s2 s1 s0).bind fun w92 =>
  some w92
theorem s_Sc_cutInt_92 {g : Gp} {l : Launch} {D : Nat} (hD : 1 ≤ D) (s0 : Int) (s1 : Int) (s2 : Nat) (w : Wd) (r : Wd) (h : Sc_cutInt_92 s0 s1 s2 w = some r) : Rn g l D 82 92 [] [.inl s0, .inl s1, .inr (.inr s2)] w none r := by
  unfold Sc_cutInt_92 at h
  obtain ⟨w92, h92, h⟩ := Option.bind_eq_some_iff.mp h
  refine rn_iast i82_92 h92 ?_
  obtain rfl := Option.some.inj h
  exact rn_ret i82_93 mr82
def Sc_cutInt_59 (a0 : Nat) (x1 : Int) (x2 : Int) (w : Wd) : Option (Wd) :=
  (fgR w a0 7 2).bind fun v60 =>
  (wrL w v60 x1 x2).bind fun w66 =>
  (fgR w66 a0 7 0).bind fun v68 =>
  (fgI w66 a0 7 6).bind fun v73 =>
  (fgR w66 a0 7 1).bind fun v77 =>
  (rdI w66 v77 x1).bind fun v81 =>
  if ((w32 (v73 - v81)) : Int) ≤ 4 then
    Sc_cutInt_92 3 x1 v68 w66
  else
    Sc_cutInt_92 1 x1 v68 w66
theorem s_Sc_cutInt_59 {g : Gp} {l : Launch} {D : Nat} (hD : 1 ≤ D) (a0 : Nat) (x1 : Int) (x2 : Int) (w : Wd) (r : Wd) (h : Sc_cutInt_59 a0 x1 x2 w = some r) : Rn g l D 82 59 [(0, .inr (.inr a0)), (1, .inl x1), (2, .inl x2)] [] w none r := by
  unfold Sc_cutInt_59 at h
  refine fr_aload_n i82_59 rfl ?_
  obtain ⟨v60, h60, h⟩ := Option.bind_eq_some_iff.mp h
  refine fr_gR (k := 2) i82_60 tf7_2 h60 ?_
  refine rn_iload_n i82_63 rfl ?_
  refine rn_iload_n i82_64 rfl ?_
  refine rn_i2l i82_65 ?_
  obtain ⟨w66, h66, h⟩ := Option.bind_eq_some_iff.mp h
  refine rn_last i82_66 h66 ?_
  refine fr_aload_n i82_67 rfl ?_
  obtain ⟨v68, h68, h⟩ := Option.bind_eq_some_iff.mp h
  refine fr_gR (k := 0) i82_68 tf7_0 h68 ?_
  refine rn_iload_n i82_71 rfl ?_
  refine fr_aload_n i82_72 rfl ?_
  obtain ⟨v73, h73, h⟩ := Option.bind_eq_some_iff.mp h
  refine fr_gI (k := 6) i82_73 tf7_6 h73 ?_
  refine fr_aload_n i82_76 rfl ?_
  obtain ⟨v77, h77, h⟩ := Option.bind_eq_some_iff.mp h
  refine fr_gR (k := 1) i82_77 tf7_1 h77 ?_
  refine rn_iload_n i82_80 rfl ?_
  obtain ⟨v81, h81, h⟩ := Option.bind_eq_some_iff.mp h
  refine rn_iald i82_81 h81 ?_
  refine rn_isub i82_82 ?_
  refine rn_iconst i82_83 ?_
  by_cases c84 : ((w32 (v73 - v81)) : Int) ≤ 4
  · rw [if_pos c84] at h
    refine rn_icmp_le_t i82_84 c84 ?_
    refine rn_iconst i82_91 ?_
    exact rn_sub [] rfl (s_Sc_cutInt_92 hD 3 x1 v68 w66 r h)
  · rw [if_neg c84] at h
    refine rn_icmp_le_f i82_84 c84 ?_
    refine rn_iconst i82_87 ?_
    refine rn_goto i82_88 ?_
    exact rn_sub [] rfl (s_Sc_cutInt_92 hD 1 x1 v68 w66 r h)
def Sc_cutInt_2 : Nat → Nat → Int → Int → Wd → Option (Wd)
  | 0, _, _, _, _ => none
  | n + 1, a0, x1, x2, w =>
    (fgI w a0 7 6).bind fun v3 =>
    (fgI w a0 7 5).bind fun v7 =>
    if (v7 : Int) ≤ v3 then
      Sc_cutInt_59 a0 x1 x2 w
    else
      (fgR w a0 7 4).bind fun v14 =>
      (fgI w a0 7 6).bind fun v18 =>
      (rdB w v14 v18).bind fun v21 =>
      (Sc_isDigit v21 w).bind fun r22 =>
      if (r22.1 : Int) = 0 then
        Sc_cutInt_59 a0 x1 x2 r22.2
      else
        (fgR r22.2 a0 7 4).bind fun v33 =>
        (fgI r22.2 a0 7 6).bind fun v37 =>
        (rdB r22.2 v33 v37).bind fun v40 =>
        (fgI r22.2 a0 7 6).bind fun v48 =>
        (fpI r22.2 a0 7 6 (w32 (v48 + 1))).bind fun w53 =>
        Sc_cutInt_2 n a0 x1 (w32 ((w32 (x2 * 10)) + (w32 (v40 - 48)))) w53
theorem s_Sc_cutInt_2 {g : Gp} {l : Launch} {D : Nat} (hD : 1 ≤ D) : ∀ (n : Nat) (a0 : Nat) (x1 : Int) (x2 : Int) (w : Wd) (r : Wd), Sc_cutInt_2 n a0 x1 x2 w = some r → Rn g l D 82 2 [(0, .inr (.inr a0)), (1, .inl x1), (2, .inl x2)] [] w none r := by
  obtain ⟨D, rfl⟩ : ∃ D1, D = D1 + 1 := ⟨D - 1, by omega⟩
  intro n
  induction n with
  | zero => intro a0 x1 x2 w r h; cases (show (none : Option (Wd)) = some r from h)
  | succ n ih =>
    intro a0 x1 x2 w r h
    unfold Sc_cutInt_2 at h
    refine fr_aload_n i82_2 rfl ?_
    obtain ⟨v3, h3, h⟩ := Option.bind_eq_some_iff.mp h
    refine fr_gI (k := 6) i82_3 tf7_6 h3 ?_
    refine fr_aload_n i82_6 rfl ?_
    obtain ⟨v7, h7, h⟩ := Option.bind_eq_some_iff.mp h
    refine fr_gI (k := 5) i82_7 tf7_5 h7 ?_
    by_cases c10 : (v7 : Int) ≤ v3
    · rw [if_pos c10] at h
      refine rn_icmp_ge_t i82_10 c10 ?_
      exact rn_sub [0, 1, 2] rfl (s_Sc_cutInt_59 hD a0 x1 x2 w r h)
    · rw [if_neg c10] at h
      refine rn_icmp_ge_f i82_10 c10 ?_
      refine fr_aload_n i82_13 rfl ?_
      obtain ⟨v14, h14, h⟩ := Option.bind_eq_some_iff.mp h
      refine fr_gR (k := 4) i82_14 tf7_4 h14 ?_
      refine fr_aload_n i82_17 rfl ?_
      obtain ⟨v18, h18, h⟩ := Option.bind_eq_some_iff.mp h
      refine fr_gI (k := 6) i82_18 tf7_6 h18 ?_
      obtain ⟨v21, h21, h⟩ := Option.bind_eq_some_iff.mp h
      refine rn_bald i82_21 h21 ?_
      obtain ⟨r22, h22, h⟩ := Option.bind_eq_some_iff.mp h
      refine fr_callS (nst := 0) (As := [.inl v21]) (st := []) i82_22 (cq85 v21) rfl (Nat.le_of_ble_eq_true rfl) (S_Sc_isDigit v21 w r22 h22 _ (by omega)) ?_
      show Rn _ _ _ _ _ _ [.inl r22.1] _ _ _
      by_cases c25 : (r22.1 : Int) = 0
      · rw [if_pos c25] at h
        refine rn_if_eq_t i82_25 c25 ?_
        exact rn_sub [0, 1, 2] rfl (s_Sc_cutInt_59 hD a0 x1 x2 r22.2 r h)
      · rw [if_neg c25] at h
        refine rn_if_eq_f i82_25 c25 ?_
        refine rn_iload_n i82_28 rfl ?_
        refine rn_bipush i82_29 ?_
        refine rn_imul i82_31 ?_
        refine fr_aload_n i82_32 rfl ?_
        obtain ⟨v33, h33, h⟩ := Option.bind_eq_some_iff.mp h
        refine fr_gR (k := 4) i82_33 tf7_4 h33 ?_
        refine fr_aload_n i82_36 rfl ?_
        obtain ⟨v37, h37, h⟩ := Option.bind_eq_some_iff.mp h
        refine fr_gI (k := 6) i82_37 tf7_6 h37 ?_
        obtain ⟨v40, h40, h⟩ := Option.bind_eq_some_iff.mp h
        refine rn_bald i82_40 h40 ?_
        refine rn_bipush i82_41 ?_
        refine rn_isub i82_43 ?_
        refine rn_iadd i82_44 ?_
        refine rn_istore_n (ls1 := [(2, .inl (w32 ((w32 (x2 * 10)) + (w32 (v40 - 48))))), (0, .inr (.inr a0)), (1, .inl x1)]) i82_45 rfl ?_
        refine fr_aload_n i82_46 rfl ?_
        refine rn_dup i82_47 rfl ?_
        obtain ⟨v48, h48, h⟩ := Option.bind_eq_some_iff.mp h
        refine fr_gI (k := 6) i82_48 tf7_6 h48 ?_
        refine rn_iconst i82_51 ?_
        refine rn_iadd i82_52 ?_
        obtain ⟨w53, h53, h⟩ := Option.bind_eq_some_iff.mp h
        refine fr_pI (k := 6) i82_53 (pf7_6 82) h53 ?_
        refine rn_goto i82_56 ?_
        exact rn_sub [1, 2, 0] rfl (ih a0 x1 (w32 ((w32 (x2 * 10)) + (w32 (v40 - 48)))) w53 r h)
def Sc_cutInt_0 (a0 : Nat) (x1 : Int) (w : Wd) : Option (Wd) :=
  Sc_cutInt_2 FU a0 x1 0 w
theorem s_Sc_cutInt_0 {g : Gp} {l : Launch} {D : Nat} (hD : 1 ≤ D) (a0 : Nat) (x1 : Int) (w : Wd) (r : Wd) (h : Sc_cutInt_0 a0 x1 w = some r) : Rn g l D 82 0 [(0, .inr (.inr a0)), (1, .inl x1)] [] w none r := by
  unfold Sc_cutInt_0 at h
  refine rn_iconst i82_0 ?_
  refine rn_istore_n (ls1 := [(2, .inl 0), (0, .inr (.inr a0)), (1, .inl x1)]) i82_1 rfl ?_
  exact rn_sub [1, 2, 0] rfl (s_Sc_cutInt_2 hD FU a0 x1 0 w r h)
/-- HandHeirs$Scanner.cutInt(I)V -/
def Sc_cutInt (a0 : Nat) (x1 : Int) (w : Wd) : Option (Wd) := gd 7 w a0 (Sc_cutInt_0 a0 x1 w)
theorem S_Sc_cutInt {g : Gp} {l : Launch} (a0 : Nat) (x1 : Int) (w : Wd) (r : Wd) (h : Sc_cutInt a0 x1 w = some r) : (wsh w a0).1 = 7 ∧ ∀ D, 1 ≤ D → Rn g l D 82 0 [(0, .inr (.inr a0)), (1, .inl x1)] [] w none r := by
  obtain ⟨hg, h⟩ := gd_some h
  exact ⟨hg, fun D hD => rn_sub [0, 1] rfl (s_Sc_cutInt_0 hD a0 x1 w r h)⟩
def Sc_isBlank_29 (s0 : Int) (w : Wd) : Option (Int × Wd) :=
  rZ s0 w
theorem s_Sc_isBlank_29 {g : Gp} {l : Launch} {D : Nat} (hD : 0 ≤ D) (s0 : Int) (w : Wd) (r : Int × Wd) (h : Sc_isBlank_29 s0 w = some r) : Rn g l D 83 29 [] [.inl s0] w (some (.inl r.1)) r.2 := by
  unfold Sc_isBlank_29 at h
  exact fr_retZ i83_29 mr83 h
def Sc_isBlank_24 (w : Wd) : Option (Int × Wd) :=
  Sc_isBlank_29 1 w
theorem s_Sc_isBlank_24 {g : Gp} {l : Launch} {D : Nat} (hD : 0 ≤ D) (w : Wd) (r : Int × Wd) (h : Sc_isBlank_24 w = some r) : Rn g l D 83 24 [] [] w (some (.inl r.1)) r.2 := by
  unfold Sc_isBlank_24 at h
  refine rn_iconst i83_24 ?_
  refine rn_goto i83_25 ?_
  exact rn_sub [] rfl (s_Sc_isBlank_29 hD 1 w r h)
def Sc_isBlank_0 (x0 : Int) (w : Wd) : Option (Int × Wd) :=
  if (x0 : Int) = 9 then
    Sc_isBlank_24 w
  else
    if (x0 : Int) = 10 then
      Sc_isBlank_24 w
    else
      if (x0 : Int) = 13 then
        Sc_isBlank_24 w
      else
        if (x0 : Int) = 32 then
          Sc_isBlank_24 w
        else
          Sc_isBlank_29 0 w
theorem s_Sc_isBlank_0 {g : Gp} {l : Launch} {D : Nat} (hD : 0 ≤ D) (x0 : Int) (w : Wd) (r : Int × Wd) (h : Sc_isBlank_0 x0 w = some r) : Rn g l D 83 0 [(0, .inl x0)] [] w (some (.inl r.1)) r.2 := by
  unfold Sc_isBlank_0 at h
  refine rn_iload_n i83_0 rfl ?_
  refine rn_bipush i83_1 ?_
  by_cases c3 : (x0 : Int) = 9
  · rw [if_pos c3] at h
    refine rn_icmp_eq_t i83_3 c3 ?_
    exact rn_sub [] rfl (s_Sc_isBlank_24 hD w r h)
  · rw [if_neg c3] at h
    refine rn_icmp_eq_f i83_3 c3 ?_
    refine rn_iload_n i83_6 rfl ?_
    refine rn_bipush i83_7 ?_
    by_cases c9 : (x0 : Int) = 10
    · rw [if_pos c9] at h
      refine rn_icmp_eq_t i83_9 c9 ?_
      exact rn_sub [] rfl (s_Sc_isBlank_24 hD w r h)
    · rw [if_neg c9] at h
      refine rn_icmp_eq_f i83_9 c9 ?_
      refine rn_iload_n i83_12 rfl ?_
      refine rn_bipush i83_13 ?_
      by_cases c15 : (x0 : Int) = 13
      · rw [if_pos c15] at h
        refine rn_icmp_eq_t i83_15 c15 ?_
        exact rn_sub [] rfl (s_Sc_isBlank_24 hD w r h)
      · rw [if_neg c15] at h
        refine rn_icmp_eq_f i83_15 c15 ?_
        refine rn_iload_n i83_18 rfl ?_
        refine rn_bipush i83_19 ?_
        by_cases c21 : (x0 : Int) = 32
        · rw [if_pos c21] at h
          refine rn_icmp_ne_f i83_21 c21 ?_
          exact rn_sub [] rfl (s_Sc_isBlank_24 hD w r h)
        · rw [if_neg c21] at h
          refine rn_icmp_ne_t i83_21 c21 ?_
          refine rn_iconst i83_28 ?_
          exact rn_sub [] rfl (s_Sc_isBlank_29 hD 0 w r h)
/-- HandHeirs$Scanner.isBlank(I)Z -/
def Sc_isBlank (x0 : Int) (w : Wd) : Option (Int × Wd) := Sc_isBlank_0 x0 w
theorem S_Sc_isBlank {g : Gp} {l : Launch} (x0 : Int) (w : Wd) (r : Int × Wd) (h : Sc_isBlank x0 w = some r) : ∀ D, 0 ≤ D → Rn g l D 83 0 [(0, .inl x0)] [] w (some (.inl r.1)) r.2 := fun D hD => rn_sub [0] rfl (s_Sc_isBlank_0 hD x0 w r h)
def Sc_cutOne_161 (w : Wd) : Option (Wd) :=
  some w
theorem s_Sc_cutOne_161 {g : Gp} {l : Launch} {D : Nat} (hD : 4 ≤ D) (w : Wd) (r : Wd) (h : Sc_cutOne_161 w = some r) : Rn g l D 79 161 [] [] w none r := by
  unfold Sc_cutOne_161 at h
  obtain rfl := Option.some.inj h
  exact rn_ret i79_161 mr79
def Sc_cutOne_150 (a0 : Nat) (s0 : Int) (s1 : Int) (s2 : Nat) (w : Wd) : Option (Wd) :=
  (wrI w s2 s1 s0).bind fun w150 =>
  (fgI w150 a0 7 6).bind fun v153 =>
  (fpI w150 a0 7 6 (w32 (v153 + 1))).bind fun w158 =>
  Sc_cutOne_161 w158
theorem s_Sc_cutOne_150 {g : Gp} {l : Launch} {D : Nat} (hD : 4 ≤ D) (a0 : Nat) (s0 : Int) (s1 : Int) (s2 : Nat) (w : Wd) (r : Wd) (h : Sc_cutOne_150 a0 s0 s1 s2 w = some r) : Rn g l D 79 150 [(0, .inr (.inr a0))] [.inl s0, .inl s1, .inr (.inr s2)] w none r := by
  unfold Sc_cutOne_150 at h
  obtain ⟨w150, h150, h⟩ := Option.bind_eq_some_iff.mp h
  refine rn_iast i79_150 h150 ?_
  refine fr_aload_n i79_151 rfl ?_
  refine rn_dup i79_152 rfl ?_
  obtain ⟨v153, h153, h⟩ := Option.bind_eq_some_iff.mp h
  refine fr_gI (k := 6) i79_153 tf7_6 h153 ?_
  refine rn_iconst i79_156 ?_
  refine rn_iadd i79_157 ?_
  obtain ⟨w158, h158, h⟩ := Option.bind_eq_some_iff.mp h
  refine fr_pI (k := 6) i79_158 (pf7_6 79) h158 ?_
  exact rn_sub [] rfl (s_Sc_cutOne_161 hD w158 r h)
def Sc_cutOne_39 (a0 : Nat) (x1 : Int) (w : Wd) : Option (Wd) :=
  (fgR w a0 7 1).bind fun v40 =>
  (fgI w a0 7 6).bind fun v45 =>
  (wrI w v40 x1 v45).bind fun w48 =>
  (fgI w48 a0 7 6).bind fun v50 =>
  (fgI w48 a0 7 5).bind fun v54 =>
  if (v50 : Int) < v54 then
    (fgR w48 a0 7 4).bind fun v71 =>
    (fgI w48 a0 7 6).bind fun v75 =>
    (rdB w48 v71 v75).bind fun v78 =>
    (Sc_isSmall v78 w48).bind fun r79 =>
    if (r79.1 : Int) = 0 then
      (fgR r79.2 a0 7 4).bind fun v94 =>
      (fgI r79.2 a0 7 6).bind fun v98 =>
      (rdB r79.2 v94 v98).bind fun v101 =>
      (Sc_isDigit v101 r79.2).bind fun r102 =>
      if (r102.1 : Int) = 0 then
        (fgR r102.2 a0 7 4).bind fun v117 =>
        (fgI r102.2 a0 7 6).bind fun v121 =>
        (rdB r102.2 v117 v121).bind fun v124 =>
        (fgR r102.2 a0 7 0).bind fun v131 =>
        (Js_indexOf 4 (o2c (oand v124 255)) r102.2).bind fun r139 =>
        if (r139.1 : Int) < 0 then
          Sc_cutOne_150 a0 1 x1 v131 r139.2
        else
          Sc_cutOne_150 a0 (oand v124 255) x1 v131 r139.2
      else
        (Sc_cutInt a0 x1 r102.2).bind fun r110 =>
        Sc_cutOne_161 r110
    else
      (Sc_cutName a0 x1 r79.2).bind fun r87 =>
      Sc_cutOne_161 r87
  else
    (fgR w48 a0 7 0).bind fun v61 =>
    (wrI w48 v61 x1 0).bind fun w66 =>
    Sc_cutOne_161 w66
theorem s_Sc_cutOne_39 {g : Gp} {l : Launch} {D : Nat} (hD : 4 ≤ D) (a0 : Nat) (x1 : Int) (w : Wd) (r : Wd) (h : Sc_cutOne_39 a0 x1 w = some r) : Rn g l D 79 39 [(0, .inr (.inr a0)), (1, .inl x1)] [] w none r := by
  obtain ⟨D, rfl⟩ : ∃ D1, D = D1 + 1 := ⟨D - 1, by omega⟩
  unfold Sc_cutOne_39 at h
  refine fr_aload_n i79_39 rfl ?_
  obtain ⟨v40, h40, h⟩ := Option.bind_eq_some_iff.mp h
  refine fr_gR (k := 1) i79_40 tf7_1 h40 ?_
  refine rn_iload_n i79_43 rfl ?_
  refine fr_aload_n i79_44 rfl ?_
  obtain ⟨v45, h45, h⟩ := Option.bind_eq_some_iff.mp h
  refine fr_gI (k := 6) i79_45 tf7_6 h45 ?_
  obtain ⟨w48, h48, h⟩ := Option.bind_eq_some_iff.mp h
  refine rn_iast i79_48 h48 ?_
  refine fr_aload_n i79_49 rfl ?_
  obtain ⟨v50, h50, h⟩ := Option.bind_eq_some_iff.mp h
  refine fr_gI (k := 6) i79_50 tf7_6 h50 ?_
  refine fr_aload_n i79_53 rfl ?_
  obtain ⟨v54, h54, h⟩ := Option.bind_eq_some_iff.mp h
  refine fr_gI (k := 5) i79_54 tf7_5 h54 ?_
  by_cases c57 : (v50 : Int) < v54
  · rw [if_pos c57] at h
    refine rn_icmp_lt_t i79_57 c57 ?_
    refine fr_aload_n i79_70 rfl ?_
    obtain ⟨v71, h71, h⟩ := Option.bind_eq_some_iff.mp h
    refine fr_gR (k := 4) i79_71 tf7_4 h71 ?_
    refine fr_aload_n i79_74 rfl ?_
    obtain ⟨v75, h75, h⟩ := Option.bind_eq_some_iff.mp h
    refine fr_gI (k := 6) i79_75 tf7_6 h75 ?_
    obtain ⟨v78, h78, h⟩ := Option.bind_eq_some_iff.mp h
    refine rn_bald i79_78 h78 ?_
    obtain ⟨r79, h79, h⟩ := Option.bind_eq_some_iff.mp h
    refine fr_callS (nst := 0) (As := [.inl v78]) (st := []) i79_79 (cq84 v78) rfl (Nat.le_of_ble_eq_true rfl) (S_Sc_isSmall v78 w48 r79 h79 _ (by omega)) ?_
    show Rn _ _ _ _ _ _ [.inl r79.1] _ _ _
    by_cases c82 : (r79.1 : Int) = 0
    · rw [if_pos c82] at h
      refine rn_if_eq_t i79_82 c82 ?_
      refine fr_aload_n i79_93 rfl ?_
      obtain ⟨v94, h94, h⟩ := Option.bind_eq_some_iff.mp h
      refine fr_gR (k := 4) i79_94 tf7_4 h94 ?_
      refine fr_aload_n i79_97 rfl ?_
      obtain ⟨v98, h98, h⟩ := Option.bind_eq_some_iff.mp h
      refine fr_gI (k := 6) i79_98 tf7_6 h98 ?_
      obtain ⟨v101, h101, h⟩ := Option.bind_eq_some_iff.mp h
      refine rn_bald i79_101 h101 ?_
      obtain ⟨r102, h102, h⟩ := Option.bind_eq_some_iff.mp h
      refine fr_callS (nst := 0) (As := [.inl v101]) (st := []) i79_102 (cq85 v101) rfl (Nat.le_of_ble_eq_true rfl) (S_Sc_isDigit v101 r79.2 r102 h102 _ (by omega)) ?_
      show Rn _ _ _ _ _ _ [.inl r102.1] _ _ _
      by_cases c105 : (r102.1 : Int) = 0
      · rw [if_pos c105] at h
        refine rn_if_eq_t i79_105 c105 ?_
        refine fr_aload_n i79_116 rfl ?_
        obtain ⟨v117, h117, h⟩ := Option.bind_eq_some_iff.mp h
        refine fr_gR (k := 4) i79_117 tf7_4 h117 ?_
        refine fr_aload_n i79_120 rfl ?_
        obtain ⟨v121, h121, h⟩ := Option.bind_eq_some_iff.mp h
        refine fr_gI (k := 6) i79_121 tf7_6 h121 ?_
        obtain ⟨v124, h124, h⟩ := Option.bind_eq_some_iff.mp h
        refine rn_bald i79_124 h124 ?_
        refine rn_sipush i79_125 ?_
        refine rn_iand i79_128 ?_
        refine rn_istore_n (ls1 := [(2, .inl (oand v124 255)), (0, .inr (.inr a0)), (1, .inl x1)]) i79_129 rfl ?_
        refine fr_aload_n i79_130 rfl ?_
        obtain ⟨v131, h131, h⟩ := Option.bind_eq_some_iff.mp h
        refine fr_gR (k := 0) i79_131 tf7_0 h131 ?_
        refine rn_iload_n i79_134 rfl ?_
        refine rn_ldcS (a := 4) i79_135 (by decide +kernel) (by decide) ?_
        refine rn_iload_n i79_137 rfl ?_
        refine rn_i2c i79_138 ?_
        obtain ⟨r139, h139, h⟩ := Option.bind_eq_some_iff.mp h
        obtain ⟨g139, c139⟩ := S_Js_indexOf 4 (o2c (oand v124 255)) r102.2 r139 h139
        refine fr_callV (a := 4) (As := [.inl (o2c (oand v124 255))]) (st := [.inl x1, .inr (.inr v131)]) i79_139 (cq6 4 (o2c (oand v124 255))) rfl (Nat.le_of_ble_eq_true rfl) g139 (c139 _ (by omega)) ?_
        show Rn _ _ _ _ _ _ [.inl r139.1, .inl x1, .inr (.inr v131)] _ _ _
        by_cases c142 : (r139.1 : Int) < 0
        · rw [if_pos c142] at h
          refine rn_if_lt_t i79_142 c142 ?_
          refine rn_iconst i79_149 ?_
          exact rn_sub [1] rfl (s_Sc_cutOne_150 hD a0 1 x1 v131 r139.2 r h)
        · rw [if_neg c142] at h
          refine rn_if_lt_f i79_142 c142 ?_
          refine rn_iload_n i79_145 rfl ?_
          refine rn_goto i79_146 ?_
          exact rn_sub [1] rfl (s_Sc_cutOne_150 hD a0 (oand v124 255) x1 v131 r139.2 r h)
      · rw [if_neg c105] at h
        refine rn_if_eq_f i79_105 c105 ?_
        refine fr_aload_n i79_108 rfl ?_
        refine rn_iload_n i79_109 rfl ?_
        obtain ⟨r110, h110, h⟩ := Option.bind_eq_some_iff.mp h
        obtain ⟨g110, c110⟩ := S_Sc_cutInt a0 x1 r102.2 r110 h110
        refine fr_callV (a := a0) (As := [.inl x1]) (st := []) i79_110 (cq82 a0 x1) rfl (Nat.le_of_ble_eq_true rfl) g110 (c110 _ (by omega)) ?_
        refine rn_goto i79_113 ?_
        exact rn_sub [] rfl (s_Sc_cutOne_161 hD r110 r h)
    · rw [if_neg c82] at h
      refine rn_if_eq_f i79_82 c82 ?_
      refine fr_aload_n i79_85 rfl ?_
      refine rn_iload_n i79_86 rfl ?_
      obtain ⟨r87, h87, h⟩ := Option.bind_eq_some_iff.mp h
      obtain ⟨g87, c87⟩ := S_Sc_cutName a0 x1 r79.2 r87 h87
      refine fr_callV (a := a0) (As := [.inl x1]) (st := []) i79_87 (cq80 a0 x1) rfl (Nat.le_of_ble_eq_true rfl) g87 (c87 _ (by omega)) ?_
      refine rn_goto i79_90 ?_
      exact rn_sub [] rfl (s_Sc_cutOne_161 hD r87 r h)
  · rw [if_neg c57] at h
    refine rn_icmp_lt_f i79_57 c57 ?_
    refine fr_aload_n i79_60 rfl ?_
    obtain ⟨v61, h61, h⟩ := Option.bind_eq_some_iff.mp h
    refine fr_gR (k := 0) i79_61 tf7_0 h61 ?_
    refine rn_iload_n i79_64 rfl ?_
    refine rn_iconst i79_65 ?_
    obtain ⟨w66, h66, h⟩ := Option.bind_eq_some_iff.mp h
    refine rn_iast i79_66 h66 ?_
    refine rn_goto i79_67 ?_
    exact rn_sub [] rfl (s_Sc_cutOne_161 hD w66 r h)
def Sc_cutOne_0 : Nat → Nat → Int → Wd → Option (Wd)
  | 0, _, _, _ => none
  | n + 1, a0, x1, w =>
    (fgI w a0 7 6).bind fun v1 =>
    (fgI w a0 7 5).bind fun v5 =>
    if (v5 : Int) ≤ v1 then
      Sc_cutOne_39 a0 x1 w
    else
      (fgR w a0 7 4).bind fun v12 =>
      (fgI w a0 7 6).bind fun v16 =>
      (rdB w v12 v16).bind fun v19 =>
      (Sc_isBlank v19 w).bind fun r20 =>
      if (r20.1 : Int) = 0 then
        Sc_cutOne_39 a0 x1 r20.2
      else
        (fgI r20.2 a0 7 6).bind fun v28 =>
        (fpI r20.2 a0 7 6 (w32 (v28 + 1))).bind fun w33 =>
        Sc_cutOne_0 n a0 x1 w33
theorem s_Sc_cutOne_0 {g : Gp} {l : Launch} {D : Nat} (hD : 4 ≤ D) : ∀ (n : Nat) (a0 : Nat) (x1 : Int) (w : Wd) (r : Wd), Sc_cutOne_0 n a0 x1 w = some r → Rn g l D 79 0 [(0, .inr (.inr a0)), (1, .inl x1)] [] w none r := by
  obtain ⟨D, rfl⟩ : ∃ D1, D = D1 + 1 := ⟨D - 1, by omega⟩
  intro n
  induction n with
  | zero => intro a0 x1 w r h; cases (show (none : Option (Wd)) = some r from h)
  | succ n ih =>
    intro a0 x1 w r h
    unfold Sc_cutOne_0 at h
    refine fr_aload_n i79_0 rfl ?_
    obtain ⟨v1, h1, h⟩ := Option.bind_eq_some_iff.mp h
    refine fr_gI (k := 6) i79_1 tf7_6 h1 ?_
    refine fr_aload_n i79_4 rfl ?_
    obtain ⟨v5, h5, h⟩ := Option.bind_eq_some_iff.mp h
    refine fr_gI (k := 5) i79_5 tf7_5 h5 ?_
    by_cases c8 : (v5 : Int) ≤ v1
    · rw [if_pos c8] at h
      refine rn_icmp_ge_t i79_8 c8 ?_
      exact rn_sub [0, 1] rfl (s_Sc_cutOne_39 hD a0 x1 w r h)
    · rw [if_neg c8] at h
      refine rn_icmp_ge_f i79_8 c8 ?_
      refine fr_aload_n i79_11 rfl ?_
      obtain ⟨v12, h12, h⟩ := Option.bind_eq_some_iff.mp h
      refine fr_gR (k := 4) i79_12 tf7_4 h12 ?_
      refine fr_aload_n i79_15 rfl ?_
      obtain ⟨v16, h16, h⟩ := Option.bind_eq_some_iff.mp h
      refine fr_gI (k := 6) i79_16 tf7_6 h16 ?_
      obtain ⟨v19, h19, h⟩ := Option.bind_eq_some_iff.mp h
      refine rn_bald i79_19 h19 ?_
      obtain ⟨r20, h20, h⟩ := Option.bind_eq_some_iff.mp h
      refine fr_callS (nst := 0) (As := [.inl v19]) (st := []) i79_20 (cq83 v19) rfl (Nat.le_of_ble_eq_true rfl) (S_Sc_isBlank v19 w r20 h20 _ (by omega)) ?_
      show Rn _ _ _ _ _ _ [.inl r20.1] _ _ _
      by_cases c23 : (r20.1 : Int) = 0
      · rw [if_pos c23] at h
        refine rn_if_eq_t i79_23 c23 ?_
        exact rn_sub [0, 1] rfl (s_Sc_cutOne_39 hD a0 x1 r20.2 r h)
      · rw [if_neg c23] at h
        refine rn_if_eq_f i79_23 c23 ?_
        refine fr_aload_n i79_26 rfl ?_
        refine rn_dup i79_27 rfl ?_
        obtain ⟨v28, h28, h⟩ := Option.bind_eq_some_iff.mp h
        refine fr_gI (k := 6) i79_28 tf7_6 h28 ?_
        refine rn_iconst i79_31 ?_
        refine rn_iadd i79_32 ?_
        obtain ⟨w33, h33, h⟩ := Option.bind_eq_some_iff.mp h
        refine fr_pI (k := 6) i79_33 (pf7_6 79) h33 ?_
        refine rn_goto i79_36 ?_
        exact rn_sub [0, 1] rfl (ih a0 x1 w33 r h)
/-- HandHeirs$Scanner.cutOne(I)V -/
def Sc_cutOne (a0 : Nat) (x1 : Int) (w : Wd) : Option (Wd) := gd 7 w a0 (Sc_cutOne_0 FU a0 x1 w)
theorem S_Sc_cutOne {g : Gp} {l : Launch} (a0 : Nat) (x1 : Int) (w : Wd) (r : Wd) (h : Sc_cutOne a0 x1 w = some r) : (wsh w a0).1 = 7 ∧ ∀ D, 4 ≤ D → Rn g l D 79 0 [(0, .inr (.inr a0)), (1, .inl x1)] [] w none r := by
  obtain ⟨hg, h⟩ := gd_some h
  exact ⟨hg, fun D hD => rn_sub [0, 1] rfl (s_Sc_cutOne_0 hD FU a0 x1 w r h)⟩
def Sc_cut_69 (k25 : Nat → Int → Int → Wd → Option (Wd)) (a0 : Nat) (x4 : Int) (s0 : Int) (w : Wd) : Option (Wd) :=
  k25 a0 s0 (w32 (x4 + 1)) w
theorem s_Sc_cut_69 {g : Gp} {l : Launch} {D : Nat} (hD : 5 ≤ D) (k25 : Nat → Int → Int → Wd → Option (Wd)) (hk25 : ∀ (a0 : Nat) (x3 : Int) (x4 : Int) (w : Wd) (r : Wd), k25 a0 x3 x4 w = some r → Rn g l D 78 25 [(0, .inr (.inr a0)), (3, .inl x3), (4, .inl x4)] [] w none r) (a0 : Nat) (x4 : Int) (s0 : Int) (w : Wd) (r : Wd) (h : Sc_cut_69 k25 a0 x4 s0 w = some r) : Rn g l D 78 69 [(0, .inr (.inr a0)), (4, .inl x4)] [.inl s0] w none r := by
  unfold Sc_cut_69 at h
  refine rn_istore_n (ls1 := [(3, .inl s0), (0, .inr (.inr a0)), (4, .inl x4)]) i78_69 rfl ?_
  refine rn_iinc (ls1 := [(4, .inl (w32 (x4 + 1))), (3, .inl s0), (0, .inr (.inr a0))]) i78_70 rfl rfl ?_
  refine rn_goto i78_73 ?_
  exact rn_sub [2, 1, 0] rfl (hk25 a0 s0 (w32 (x4 + 1)) w r h)
def Sc_cut_68 (k25 : Nat → Int → Int → Wd → Option (Wd)) (a0 : Nat) (x4 : Int) (w : Wd) : Option (Wd) :=
  Sc_cut_69 k25 a0 x4 0 w
theorem s_Sc_cut_68 {g : Gp} {l : Launch} {D : Nat} (hD : 5 ≤ D) (k25 : Nat → Int → Int → Wd → Option (Wd)) (hk25 : ∀ (a0 : Nat) (x3 : Int) (x4 : Int) (w : Wd) (r : Wd), k25 a0 x3 x4 w = some r → Rn g l D 78 25 [(0, .inr (.inr a0)), (3, .inl x3), (4, .inl x4)] [] w none r) (a0 : Nat) (x4 : Int) (w : Wd) (r : Wd) (h : Sc_cut_68 k25 a0 x4 w = some r) : Rn g l D 78 68 [(0, .inr (.inr a0)), (4, .inl x4)] [] w none r := by
  unfold Sc_cut_68 at h
  refine rn_iconst i78_68 ?_
  exact rn_sub [0, 1] rfl (s_Sc_cut_69 hD k25 hk25 a0 x4 0 w r h)
def Sc_cut_76 (w : Wd) : Option (Wd) :=
  some w
theorem s_Sc_cut_76 {g : Gp} {l : Launch} {D : Nat} (hD : 5 ≤ D) (w : Wd) (r : Wd) (h : Sc_cut_76 w = some r) : Rn g l D 78 76 [] [] w none r := by
  unfold Sc_cut_76 at h
  obtain rfl := Option.some.inj h
  exact rn_ret i78_76 mr78
def Sc_cut_25 : Nat → Nat → Int → Int → Wd → Option (Wd)
  | 0, _, _, _, _ => none
  | n + 1, a0, x3, x4, w =>
    if (400 : Int) < x4 then
      Sc_cut_76 w
    else
      if (x3 : Int) = 0 then
        Sc_cut_76 w
      else
        (Sc_cutOne a0 x4 w).bind fun r40 =>
        (fgR r40 a0 7 0).bind fun v44 =>
        (rdI r40 v44 x4).bind fun v49 =>
        if (v49 : Int) = 0 then
          Sc_cut_68 (Sc_cut_25 n) a0 x4 r40
        else
          (fgR r40 a0 7 0).bind fun v54 =>
          (rdI r40 v54 x4).bind fun v59 =>
          if (v59 : Int) = 1 then
            Sc_cut_68 (Sc_cut_25 n) a0 x4 r40
          else
            Sc_cut_69 (Sc_cut_25 n) a0 x4 1 r40
theorem s_Sc_cut_25 {g : Gp} {l : Launch} {D : Nat} (hD : 5 ≤ D) : ∀ (n : Nat) (a0 : Nat) (x3 : Int) (x4 : Int) (w : Wd) (r : Wd), Sc_cut_25 n a0 x3 x4 w = some r → Rn g l D 78 25 [(0, .inr (.inr a0)), (3, .inl x3), (4, .inl x4)] [] w none r := by
  obtain ⟨D, rfl⟩ : ∃ D1, D = D1 + 1 := ⟨D - 1, by omega⟩
  intro n
  induction n with
  | zero => intro a0 x3 x4 w r h; cases (show (none : Option (Wd)) = some r from h)
  | succ n ih =>
    intro a0 x3 x4 w r h
    unfold Sc_cut_25 at h
    refine rn_iload i78_25 rfl ?_
    refine rn_sipush i78_27 ?_
    by_cases c30 : (400 : Int) < x4
    · rw [if_pos c30] at h
      refine rn_icmp_gt_t i78_30 c30 ?_
      exact rn_sub [] rfl (s_Sc_cut_76 hD w r h)
    · rw [if_neg c30] at h
      refine rn_icmp_gt_f i78_30 c30 ?_
      refine rn_iload_n i78_33 rfl ?_
      by_cases c34 : (x3 : Int) = 0
      · rw [if_pos c34] at h
        refine rn_if_eq_t i78_34 c34 ?_
        exact rn_sub [] rfl (s_Sc_cut_76 hD w r h)
      · rw [if_neg c34] at h
        refine rn_if_eq_f i78_34 c34 ?_
        refine fr_aload_n i78_37 rfl ?_
        refine rn_iload i78_38 rfl ?_
        obtain ⟨r40, h40, h⟩ := Option.bind_eq_some_iff.mp h
        obtain ⟨g40, c40⟩ := S_Sc_cutOne a0 x4 w r40 h40
        refine fr_callV (a := a0) (As := [.inl x4]) (st := []) i78_40 (cq79 a0 x4) rfl (Nat.le_of_ble_eq_true rfl) g40 (c40 _ (by omega)) ?_
        refine fr_aload_n i78_43 rfl ?_
        obtain ⟨v44, h44, h⟩ := Option.bind_eq_some_iff.mp h
        refine fr_gR (k := 0) i78_44 tf7_0 h44 ?_
        refine rn_iload i78_47 rfl ?_
        obtain ⟨v49, h49, h⟩ := Option.bind_eq_some_iff.mp h
        refine rn_iald i78_49 h49 ?_
        by_cases c50 : (v49 : Int) = 0
        · rw [if_pos c50] at h
          refine rn_if_eq_t i78_50 c50 ?_
          exact rn_sub [0, 2] rfl (s_Sc_cut_68 hD (Sc_cut_25 n) ih a0 x4 r40 r h)
        · rw [if_neg c50] at h
          refine rn_if_eq_f i78_50 c50 ?_
          refine fr_aload_n i78_53 rfl ?_
          obtain ⟨v54, h54, h⟩ := Option.bind_eq_some_iff.mp h
          refine fr_gR (k := 0) i78_54 tf7_0 h54 ?_
          refine rn_iload i78_57 rfl ?_
          obtain ⟨v59, h59, h⟩ := Option.bind_eq_some_iff.mp h
          refine rn_iald i78_59 h59 ?_
          refine rn_iconst i78_60 ?_
          by_cases c61 : (v59 : Int) = 1
          · rw [if_pos c61] at h
            refine rn_icmp_eq_t i78_61 c61 ?_
            exact rn_sub [0, 2] rfl (s_Sc_cut_68 hD (Sc_cut_25 n) ih a0 x4 r40 r h)
          · rw [if_neg c61] at h
            refine rn_icmp_eq_f i78_61 c61 ?_
            refine rn_iconst i78_64 ?_
            refine rn_goto i78_65 ?_
            exact rn_sub [0, 2] rfl (s_Sc_cut_69 hD (Sc_cut_25 n) ih a0 x4 1 r40 r h)
def Sc_cut_0 (a0 : Nat) (a1 : Nat) (x2 : Int) (w : Wd) : Option (Wd) :=
  (fpR w a0 7 4 a1).bind fun w2 =>
  (aln w2 a1).bind fun v8 =>
  (fpI w2 a0 7 5 (min x2 v8)).bind fun w12 =>
  (fpI w12 a0 7 6 0).bind fun w17 =>
  Sc_cut_25 FU a0 1 0 w17
theorem s_Sc_cut_0 {g : Gp} {l : Launch} {D : Nat} (hD : 5 ≤ D) (a0 : Nat) (a1 : Nat) (x2 : Int) (w : Wd) (r : Wd) (h : Sc_cut_0 a0 a1 x2 w = some r) : Rn g l D 78 0 [(0, .inr (.inr a0)), (1, .inr (.inr a1)), (2, .inl x2)] [] w none r := by
  obtain ⟨D, rfl⟩ : ∃ D1, D = D1 + 1 := ⟨D - 1, by omega⟩
  unfold Sc_cut_0 at h
  refine fr_aload_n i78_0 rfl ?_
  refine fr_aload_n i78_1 rfl ?_
  obtain ⟨w2, h2, h⟩ := Option.bind_eq_some_iff.mp h
  refine fr_pR (k := 4) i78_2 (pf7_4 78) h2 ?_
  refine fr_aload_n i78_5 rfl ?_
  refine rn_iload_n i78_6 rfl ?_
  refine fr_aload_n i78_7 rfl ?_
  obtain ⟨v8, h8, h⟩ := Option.bind_eq_some_iff.mp h
  refine rn_alen i78_8 h8 ?_
  refine rn_min i78_9 (Nat.le_of_ble_eq_true rfl) ?_
  obtain ⟨w12, h12, h⟩ := Option.bind_eq_some_iff.mp h
  refine fr_pI (k := 5) i78_12 (pf7_5 78) h12 ?_
  refine fr_aload_n i78_15 rfl ?_
  refine rn_iconst i78_16 ?_
  obtain ⟨w17, h17, h⟩ := Option.bind_eq_some_iff.mp h
  refine fr_pI (k := 6) i78_17 (pf7_6 78) h17 ?_
  refine rn_iconst i78_20 ?_
  refine rn_istore_n (ls1 := [(3, .inl 1), (0, .inr (.inr a0)), (1, .inr (.inr a1)), (2, .inl x2)]) i78_21 rfl ?_
  refine rn_iconst i78_22 ?_
  refine rn_istore (ls1 := [(4, .inl 0), (3, .inl 1), (0, .inr (.inr a0)), (1, .inr (.inr a1)), (2, .inl x2)]) i78_23 rfl ?_
  exact rn_sub [2, 1, 0] rfl (s_Sc_cut_25 hD FU a0 1 0 w17 r h)
/-- HandHeirs$Scanner.cut([BI)V -/
def Sc_cut (a0 : Nat) (a1 : Nat) (x2 : Int) (w : Wd) : Option (Wd) := gd 7 w a0 (Sc_cut_0 a0 a1 x2 w)
theorem S_Sc_cut {g : Gp} {l : Launch} (a0 : Nat) (a1 : Nat) (x2 : Int) (w : Wd) (r : Wd) (h : Sc_cut a0 a1 x2 w = some r) : (wsh w a0).1 = 7 ∧ ∀ D, 5 ≤ D → Rn g l D 78 0 [(0, .inr (.inr a0)), (1, .inr (.inr a1)), (2, .inl x2)] [] w none r := by
  obtain ⟨hg, h⟩ := gd_some h
  exact ⟨hg, fun D hD => rn_sub [0, 1, 2] rfl (s_Sc_cut_0 hD a0 a1 x2 w r h)⟩
def Rd_open_40 (a0 : Nat) (w : Wd) : Option (Wd) :=
  (fpI w a0 6 2 0).bind fun w42 =>
  (fpI w42 a0 6 0 (-1)).bind fun w47 =>
  (fpI w47 a0 6 5 (-1)).bind fun w52 =>
  (Rd_pass a0 w52).bind fun r56 =>
  some r56.2
theorem s_Rd_open_40 {g : Gp} {l : Launch} {D : Nat} (hD : 6 ≤ D) (a0 : Nat) (w : Wd) (r : Wd) (h : Rd_open_40 a0 w = some r) : Rn g l D 56 40 [(0, .inr (.inr a0))] [] w none r := by
  obtain ⟨D, rfl⟩ : ∃ D1, D = D1 + 1 := ⟨D - 1, by omega⟩
  unfold Rd_open_40 at h
  refine fr_aload_n i56_40 rfl ?_
  refine rn_iconst i56_41 ?_
  obtain ⟨w42, h42, h⟩ := Option.bind_eq_some_iff.mp h
  refine fr_pI (k := 2) i56_42 (pf6_2 56) h42 ?_
  refine fr_aload_n i56_45 rfl ?_
  refine rn_iconst i56_46 ?_
  obtain ⟨w47, h47, h⟩ := Option.bind_eq_some_iff.mp h
  refine fr_pI (k := 0) i56_47 (pf6_0 56) h47 ?_
  refine fr_aload_n i56_50 rfl ?_
  refine rn_iconst i56_51 ?_
  obtain ⟨w52, h52, h⟩ := Option.bind_eq_some_iff.mp h
  refine fr_pI (k := 5) i56_52 (pf6_5 56) h52 ?_
  refine fr_aload_n i56_55 rfl ?_
  obtain ⟨r56, h56, h⟩ := Option.bind_eq_some_iff.mp h
  obtain ⟨g56, c56⟩ := S_Rd_pass a0 w52 r56 h56
  refine fr_callV (a := a0) (As := []) (st := []) i56_56 (cq59 a0) rfl (Nat.le_of_ble_eq_true rfl) g56 (c56 _ (by omega)) ?_
  show Rn _ _ _ _ _ _ [.inl r56.1] _ _ _
  refine rn_pop i56_59 rfl ?_
  obtain rfl := Option.some.inj h
  exact rn_ret i56_60 mr56
def Rd_open_18 : Nat → Nat → Int → Wd → Option (Wd)
  | 0, _, _, _ => none
  | n + 1, a0, x3, w =>
    (fgR w a0 6 4).bind fun v20 =>
    (aln w v20).bind fun v23 =>
    if (v23 : Int) ≤ x3 then
      Rd_open_40 a0 w
    else
      (fgR w a0 6 4).bind fun v28 =>
      (wrL w v28 x3 0).bind fun w33 =>
      Rd_open_18 n a0 (w32 (x3 + 1)) w33
theorem s_Rd_open_18 {g : Gp} {l : Launch} {D : Nat} (hD : 6 ≤ D) : ∀ (n : Nat) (a0 : Nat) (x3 : Int) (w : Wd) (r : Wd), Rd_open_18 n a0 x3 w = some r → Rn g l D 56 18 [(0, .inr (.inr a0)), (3, .inl x3)] [] w none r := by
  intro n
  induction n with
  | zero => intro a0 x3 w r h; cases (show (none : Option (Wd)) = some r from h)
  | succ n ih =>
    intro a0 x3 w r h
    unfold Rd_open_18 at h
    refine rn_iload_n i56_18 rfl ?_
    refine fr_aload_n i56_19 rfl ?_
    obtain ⟨v20, h20, h⟩ := Option.bind_eq_some_iff.mp h
    refine fr_gR (k := 4) i56_20 tf6_4 h20 ?_
    obtain ⟨v23, h23, h⟩ := Option.bind_eq_some_iff.mp h
    refine rn_alen i56_23 h23 ?_
    by_cases c24 : (v23 : Int) ≤ x3
    · rw [if_pos c24] at h
      refine rn_icmp_ge_t i56_24 c24 ?_
      exact rn_sub [0] rfl (s_Rd_open_40 hD a0 w r h)
    · rw [if_neg c24] at h
      refine rn_icmp_ge_f i56_24 c24 ?_
      refine fr_aload_n i56_27 rfl ?_
      obtain ⟨v28, h28, h⟩ := Option.bind_eq_some_iff.mp h
      refine fr_gR (k := 4) i56_28 tf6_4 h28 ?_
      refine rn_iload_n i56_31 rfl ?_
      refine fr_lconst0 i56_32 ?_
      obtain ⟨w33, h33, h⟩ := Option.bind_eq_some_iff.mp h
      refine rn_last i56_33 h33 ?_
      refine rn_iinc (ls1 := [(3, .inl (w32 (x3 + 1))), (0, .inr (.inr a0))]) i56_34 rfl rfl ?_
      refine rn_goto i56_37 ?_
      exact rn_sub [1, 0] rfl (ih a0 (w32 (x3 + 1)) w33 r h)
def Rd_open_0 (a0 : Nat) (a1 : Nat) (x2 : Int) (w : Wd) : Option (Wd) :=
  (fgR w a0 6 3).bind fun v1 =>
  (Sc_cut v1 a1 x2 w).bind fun r6 =>
  (fgR r6 a0 6 1).bind fun v10 =>
  (Wi_clear v10 r6).bind fun r13 =>
  Rd_open_18 FU a0 0 r13
theorem s_Rd_open_0 {g : Gp} {l : Launch} {D : Nat} (hD : 6 ≤ D) (a0 : Nat) (a1 : Nat) (x2 : Int) (w : Wd) (r : Wd) (h : Rd_open_0 a0 a1 x2 w = some r) : Rn g l D 56 0 [(0, .inr (.inr a0)), (1, .inr (.inr a1)), (2, .inl x2)] [] w none r := by
  obtain ⟨D, rfl⟩ : ∃ D1, D = D1 + 1 := ⟨D - 1, by omega⟩
  unfold Rd_open_0 at h
  refine fr_aload_n i56_0 rfl ?_
  obtain ⟨v1, h1, h⟩ := Option.bind_eq_some_iff.mp h
  refine fr_gR (k := 3) i56_1 tf6_3 h1 ?_
  refine fr_aload_n i56_4 rfl ?_
  refine rn_iload_n i56_5 rfl ?_
  obtain ⟨r6, h6, h⟩ := Option.bind_eq_some_iff.mp h
  obtain ⟨g6, c6⟩ := S_Sc_cut v1 a1 x2 w r6 h6
  refine fr_callV (a := v1) (As := [.inr (.inr a1), .inl x2]) (st := []) i56_6 (cq78 v1 a1 x2) rfl (Nat.le_of_ble_eq_true rfl) g6 (c6 _ (by omega)) ?_
  refine fr_aload_n i56_9 rfl ?_
  obtain ⟨v10, h10, h⟩ := Option.bind_eq_some_iff.mp h
  refine fr_gR (k := 1) i56_10 tf6_1 h10 ?_
  obtain ⟨r13, h13, h⟩ := Option.bind_eq_some_iff.mp h
  obtain ⟨g13, c13⟩ := S_Wi_clear v10 r6 r13 h13
  refine fr_callV (a := v10) (As := []) (st := []) i56_13 (cq96 v10) rfl (Nat.le_of_ble_eq_true rfl) g13 (c13 _ (by omega)) ?_
  refine rn_iconst i56_16 ?_
  refine rn_istore_n (ls1 := [(3, .inl 0), (0, .inr (.inr a0)), (1, .inr (.inr a1)), (2, .inl x2)]) i56_17 rfl ?_
  exact rn_sub [1, 0] rfl (s_Rd_open_18 hD FU a0 0 r13 r h)
/-- HandHeirs$Reader.open([BI)V -/
def Rd_open (a0 : Nat) (a1 : Nat) (x2 : Int) (w : Wd) : Option (Wd) := gd 6 w a0 (Rd_open_0 a0 a1 x2 w)
theorem S_Rd_open {g : Gp} {l : Launch} (a0 : Nat) (a1 : Nat) (x2 : Int) (w : Wd) (r : Wd) (h : Rd_open a0 a1 x2 w = some r) : (wsh w a0).1 = 6 ∧ ∀ D, 6 ≤ D → Rn g l D 56 0 [(0, .inr (.inr a0)), (1, .inr (.inr a1)), (2, .inl x2)] [] w none r := by
  obtain ⟨hg, h⟩ := gd_some h
  exact ⟨hg, fun D hD => rn_sub [0, 1, 2] rfl (s_Rd_open_0 hD a0 a1 x2 w r h)⟩
def Rd_take_20 (s0 : Int) (w : Wd) : Option (Int × Wd) :=
  rZ s0 w
theorem s_Rd_take_20 {g : Gp} {l : Launch} {D : Nat} (hD : 2 ≤ D) (s0 : Int) (w : Wd) (r : Int × Wd) (h : Rd_take_20 s0 w = some r) : Rn g l D 60 20 [] [.inl s0] w (some (.inl r.1)) r.2 := by
  unfold Rd_take_20 at h
  exact fr_retZ i60_20 mr60 h
def Rd_take_0 (a0 : Nat) (x1 : Int) (w : Wd) : Option (Int × Wd) :=
  (fgI w a0 6 6).bind fun v1 =>
  if (v1 : Int) = x1 then
    (Rd_pass a0 w).bind fun r9 =>
    Rd_take_20 r9.1 r9.2
  else
    (Rd_refuse a0 1 w).bind fun r17 =>
    Rd_take_20 r17.1 r17.2
theorem s_Rd_take_0 {g : Gp} {l : Launch} {D : Nat} (hD : 2 ≤ D) (a0 : Nat) (x1 : Int) (w : Wd) (r : Int × Wd) (h : Rd_take_0 a0 x1 w = some r) : Rn g l D 60 0 [(0, .inr (.inr a0)), (1, .inl x1)] [] w (some (.inl r.1)) r.2 := by
  obtain ⟨D, rfl⟩ : ∃ D1, D = D1 + 1 := ⟨D - 1, by omega⟩
  unfold Rd_take_0 at h
  refine fr_aload_n i60_0 rfl ?_
  obtain ⟨v1, h1, h⟩ := Option.bind_eq_some_iff.mp h
  refine fr_gI (k := 6) i60_1 tf6_6 h1 ?_
  refine rn_iload_n i60_4 rfl ?_
  by_cases c5 : (v1 : Int) = x1
  · rw [if_pos c5] at h
    refine rn_icmp_ne_f i60_5 c5 ?_
    refine fr_aload_n i60_8 rfl ?_
    obtain ⟨r9, h9, h⟩ := Option.bind_eq_some_iff.mp h
    obtain ⟨g9, c9⟩ := S_Rd_pass a0 w r9 h9
    refine fr_callV (a := a0) (As := []) (st := []) i60_9 (cq59 a0) rfl (Nat.le_of_ble_eq_true rfl) g9 (c9 _ (by omega)) ?_
    show Rn _ _ _ _ _ _ [.inl r9.1] _ _ _
    refine rn_goto i60_12 ?_
    exact rn_sub [] rfl (s_Rd_take_20 hD r9.1 r9.2 r h)
  · rw [if_neg c5] at h
    refine rn_icmp_ne_t i60_5 c5 ?_
    refine fr_aload_n i60_15 rfl ?_
    refine rn_iconst i60_16 ?_
    obtain ⟨r17, h17, h⟩ := Option.bind_eq_some_iff.mp h
    obtain ⟨g17, c17⟩ := S_Rd_refuse a0 1 w r17 h17
    refine fr_callV (a := a0) (As := [.inl 1]) (st := []) i60_17 (cq57 a0 1) rfl (Nat.le_of_ble_eq_true rfl) g17 (c17 _ (by omega)) ?_
    show Rn _ _ _ _ _ _ [.inl r17.1] _ _ _
    exact rn_sub [] rfl (s_Rd_take_20 hD r17.1 r17.2 r h)
/-- HandHeirs$Reader.take(I)Z -/
def Rd_take (a0 : Nat) (x1 : Int) (w : Wd) : Option (Int × Wd) := gd 6 w a0 (Rd_take_0 a0 x1 w)
theorem S_Rd_take {g : Gp} {l : Launch} (a0 : Nat) (x1 : Int) (w : Wd) (r : Int × Wd) (h : Rd_take a0 x1 w = some r) : (wsh w a0).1 = 6 ∧ ∀ D, 2 ≤ D → Rn g l D 60 0 [(0, .inr (.inr a0)), (1, .inl x1)] [] w (some (.inl r.1)) r.2 := by
  obtain ⟨hg, h⟩ := gd_some h
  exact ⟨hg, fun D hD => rn_sub [0, 1] rfl (s_Rd_take_0 hD a0 x1 w r h)⟩
def Rd_note_28 (w : Wd) : Option (Wd) :=
  some w
theorem s_Rd_note_28 {g : Gp} {l : Launch} {D : Nat} (hD : 0 ≤ D) (w : Wd) (r : Wd) (h : Rd_note_28 w = some r) : Rn g l D 58 28 [] [] w none r := by
  unfold Rd_note_28 at h
  obtain rfl := Option.some.inj h
  exact rn_ret i58_28 mr58
def Rd_note_0 (a0 : Nat) (x1 : Int) (w : Wd) : Option (Wd) :=
  (fgI w a0 6 2).bind fun v1 =>
  if (v1 : Int) = 0 then
    (fpI w a0 6 2 x1).bind fun w9 =>
    (fgR w9 a0 6 3).bind fun v14 =>
    (fgR w9 v14 7 1).bind fun v17 =>
    (fgI w9 a0 6 5).bind fun v21 =>
    (rdI w9 v17 v21).bind fun v24 =>
    (fpI w9 a0 6 0 v24).bind fun w25 =>
    Rd_note_28 w25
  else
    Rd_note_28 w
theorem s_Rd_note_0 {g : Gp} {l : Launch} {D : Nat} (hD : 0 ≤ D) (a0 : Nat) (x1 : Int) (w : Wd) (r : Wd) (h : Rd_note_0 a0 x1 w = some r) : Rn g l D 58 0 [(0, .inr (.inr a0)), (1, .inl x1)] [] w none r := by
  unfold Rd_note_0 at h
  refine fr_aload_n i58_0 rfl ?_
  obtain ⟨v1, h1, h⟩ := Option.bind_eq_some_iff.mp h
  refine fr_gI (k := 2) i58_1 tf6_2 h1 ?_
  by_cases c4 : (v1 : Int) = 0
  · rw [if_pos c4] at h
    refine rn_if_ne_f i58_4 c4 ?_
    refine fr_aload_n i58_7 rfl ?_
    refine rn_iload_n i58_8 rfl ?_
    obtain ⟨w9, h9, h⟩ := Option.bind_eq_some_iff.mp h
    refine fr_pI (k := 2) i58_9 (pf6_2 58) h9 ?_
    refine fr_aload_n i58_12 rfl ?_
    refine fr_aload_n i58_13 rfl ?_
    obtain ⟨v14, h14, h⟩ := Option.bind_eq_some_iff.mp h
    refine fr_gR (k := 3) i58_14 tf6_3 h14 ?_
    obtain ⟨v17, h17, h⟩ := Option.bind_eq_some_iff.mp h
    refine fr_gR (k := 1) i58_17 tf7_1 h17 ?_
    refine fr_aload_n i58_20 rfl ?_
    obtain ⟨v21, h21, h⟩ := Option.bind_eq_some_iff.mp h
    refine fr_gI (k := 5) i58_21 tf6_5 h21 ?_
    obtain ⟨v24, h24, h⟩ := Option.bind_eq_some_iff.mp h
    refine rn_iald i58_24 h24 ?_
    obtain ⟨w25, h25, h⟩ := Option.bind_eq_some_iff.mp h
    refine fr_pI (k := 0) i58_25 (pf6_0 58) h25 ?_
    exact rn_sub [] rfl (s_Rd_note_28 hD w25 r h)
  · rw [if_neg c4] at h
    refine rn_if_ne_t i58_4 c4 ?_
    exact rn_sub [] rfl (s_Rd_note_28 hD w r h)
/-- HandHeirs$Reader.note(I)V -/
def Rd_note (a0 : Nat) (x1 : Int) (w : Wd) : Option (Wd) := gd 6 w a0 (Rd_note_0 a0 x1 w)
theorem S_Rd_note {g : Gp} {l : Launch} (a0 : Nat) (x1 : Int) (w : Wd) (r : Wd) (h : Rd_note a0 x1 w = some r) : (wsh w a0).1 = 6 ∧ ∀ D, 0 ≤ D → Rn g l D 58 0 [(0, .inr (.inr a0)), (1, .inl x1)] [] w none r := by
  obtain ⟨hg, h⟩ := gd_some h
  exact ⟨hg, fun D hD => rn_sub [0, 1] rfl (s_Rd_note_0 hD a0 x1 w r h)⟩
def Rd_takeNewName_38 (k10 : Nat → Int → Int → Wd → Option (Int × Wd)) (a0 : Nat) (x1 : Int) (x2 : Int) (w : Wd) : Option (Int × Wd) :=
  k10 a0 x1 (w32 (x2 + 1)) w
theorem s_Rd_takeNewName_38 {g : Gp} {l : Launch} {D : Nat} (hD : 3 ≤ D) (k10 : Nat → Int → Int → Wd → Option (Int × Wd)) (hk10 : ∀ (a0 : Nat) (x1 : Int) (x2 : Int) (w : Wd) (r : Int × Wd), k10 a0 x1 x2 w = some r → Rn g l D 70 10 [(0, .inr (.inr a0)), (1, .inl x1), (2, .inl x2)] [] w (some (.inl r.1)) r.2) (a0 : Nat) (x1 : Int) (x2 : Int) (w : Wd) (r : Int × Wd) (h : Rd_takeNewName_38 k10 a0 x1 x2 w = some r) : Rn g l D 70 38 [(0, .inr (.inr a0)), (1, .inl x1), (2, .inl x2)] [] w (some (.inl r.1)) r.2 := by
  unfold Rd_takeNewName_38 at h
  refine rn_iinc (ls1 := [(2, .inl (w32 (x2 + 1))), (0, .inr (.inr a0)), (1, .inl x1)]) i70_38 rfl rfl ?_
  refine rn_goto i70_41 ?_
  exact rn_sub [1, 2, 0] rfl (hk10 a0 x1 (w32 (x2 + 1)) w r h)
def Rd_takeNewName_54 (a0 : Nat) (w : Wd) : Option (Int × Wd) :=
  (Rd_take a0 2 w).bind fun r56 =>
  rZ r56.1 r56.2
theorem s_Rd_takeNewName_54 {g : Gp} {l : Launch} {D : Nat} (hD : 3 ≤ D) (a0 : Nat) (w : Wd) (r : Int × Wd) (h : Rd_takeNewName_54 a0 w = some r) : Rn g l D 70 54 [(0, .inr (.inr a0))] [] w (some (.inl r.1)) r.2 := by
  obtain ⟨D, rfl⟩ : ∃ D1, D = D1 + 1 := ⟨D - 1, by omega⟩
  unfold Rd_takeNewName_54 at h
  refine fr_aload_n i70_54 rfl ?_
  refine rn_iconst i70_55 ?_
  obtain ⟨r56, h56, h⟩ := Option.bind_eq_some_iff.mp h
  obtain ⟨g56, c56⟩ := S_Rd_take a0 2 w r56 h56
  refine fr_callV (a := a0) (As := [.inl 2]) (st := []) i70_56 (cq60 a0 2) rfl (Nat.le_of_ble_eq_true rfl) g56 (c56 _ (by omega)) ?_
  show Rn _ _ _ _ _ _ [.inl r56.1] _ _ _
  exact fr_retZ i70_59 mr70 h
def Rd_takeNewName_44 (a0 : Nat) (x1 : Int) (w : Wd) : Option (Int × Wd) :=
  (fgR w a0 6 4).bind fun v45 =>
  (fgL w a0 6 7).bind fun v50 =>
  (wrL w v45 x1 v50).bind fun w53 =>
  Rd_takeNewName_54 a0 w53
theorem s_Rd_takeNewName_44 {g : Gp} {l : Launch} {D : Nat} (hD : 3 ≤ D) (a0 : Nat) (x1 : Int) (w : Wd) (r : Int × Wd) (h : Rd_takeNewName_44 a0 x1 w = some r) : Rn g l D 70 44 [(0, .inr (.inr a0)), (1, .inl x1)] [] w (some (.inl r.1)) r.2 := by
  unfold Rd_takeNewName_44 at h
  refine fr_aload_n i70_44 rfl ?_
  obtain ⟨v45, h45, h⟩ := Option.bind_eq_some_iff.mp h
  refine fr_gR (k := 4) i70_45 tf6_4 h45 ?_
  refine rn_iload_n i70_48 rfl ?_
  refine fr_aload_n i70_49 rfl ?_
  obtain ⟨v50, h50, h⟩ := Option.bind_eq_some_iff.mp h
  refine fr_gL (k := 7) i70_50 tf6_7 h50 ?_
  obtain ⟨w53, h53, h⟩ := Option.bind_eq_some_iff.mp h
  refine rn_last i70_53 h53 ?_
  exact rn_sub [0] rfl (s_Rd_takeNewName_54 hD a0 w53 r h)
def Rd_takeNewName_10 : Nat → Nat → Int → Int → Wd → Option (Int × Wd)
  | 0, _, _, _, _ => none
  | n + 1, a0, x1, x2, w =>
    (fgR w a0 6 4).bind fun v12 =>
    (aln w v12).bind fun v15 =>
    if (v15 : Int) ≤ x2 then
      Rd_takeNewName_44 a0 x1 w
    else
      (fgR w a0 6 4).bind fun v20 =>
      (rdL w v20 x2).bind fun v24 =>
      (fgL w a0 6 7).bind fun v26 =>
      if ((ocmp v24 v26) : Int) = 0 then
        (Rd_note a0 3 w).bind fun r35 =>
        Rd_takeNewName_38 (Rd_takeNewName_10 n) a0 x1 x2 r35
      else
        Rd_takeNewName_38 (Rd_takeNewName_10 n) a0 x1 x2 w
theorem s_Rd_takeNewName_10 {g : Gp} {l : Launch} {D : Nat} (hD : 3 ≤ D) : ∀ (n : Nat) (a0 : Nat) (x1 : Int) (x2 : Int) (w : Wd) (r : Int × Wd), Rd_takeNewName_10 n a0 x1 x2 w = some r → Rn g l D 70 10 [(0, .inr (.inr a0)), (1, .inl x1), (2, .inl x2)] [] w (some (.inl r.1)) r.2 := by
  obtain ⟨D, rfl⟩ : ∃ D1, D = D1 + 1 := ⟨D - 1, by omega⟩
  intro n
  induction n with
  | zero => intro a0 x1 x2 w r h; cases (show (none : Option (Int × Wd)) = some r from h)
  | succ n ih =>
    intro a0 x1 x2 w r h
    unfold Rd_takeNewName_10 at h
    refine rn_iload_n i70_10 rfl ?_
    refine fr_aload_n i70_11 rfl ?_
    obtain ⟨v12, h12, h⟩ := Option.bind_eq_some_iff.mp h
    refine fr_gR (k := 4) i70_12 tf6_4 h12 ?_
    obtain ⟨v15, h15, h⟩ := Option.bind_eq_some_iff.mp h
    refine rn_alen i70_15 h15 ?_
    by_cases c16 : (v15 : Int) ≤ x2
    · rw [if_pos c16] at h
      refine rn_icmp_ge_t i70_16 c16 ?_
      exact rn_sub [0, 1] rfl (s_Rd_takeNewName_44 hD a0 x1 w r h)
    · rw [if_neg c16] at h
      refine rn_icmp_ge_f i70_16 c16 ?_
      refine fr_aload_n i70_19 rfl ?_
      obtain ⟨v20, h20, h⟩ := Option.bind_eq_some_iff.mp h
      refine fr_gR (k := 4) i70_20 tf6_4 h20 ?_
      refine rn_iload_n i70_23 rfl ?_
      obtain ⟨v24, h24, h⟩ := Option.bind_eq_some_iff.mp h
      refine rn_lald i70_24 h24 ?_
      refine fr_aload_n i70_25 rfl ?_
      obtain ⟨v26, h26, h⟩ := Option.bind_eq_some_iff.mp h
      refine fr_gL (k := 7) i70_26 tf6_7 h26 ?_
      refine rn_lcmp i70_29 ?_
      by_cases c30 : ((ocmp v24 v26) : Int) = 0
      · rw [if_pos c30] at h
        refine rn_if_ne_f i70_30 c30 ?_
        refine fr_aload_n i70_33 rfl ?_
        refine rn_iconst i70_34 ?_
        obtain ⟨r35, h35, h⟩ := Option.bind_eq_some_iff.mp h
        obtain ⟨g35, c35⟩ := S_Rd_note a0 3 w r35 h35
        refine fr_callV (a := a0) (As := [.inl 3]) (st := []) i70_35 (cq58 a0 3) rfl (Nat.le_of_ble_eq_true rfl) g35 (c35 _ (by omega)) ?_
        exact rn_sub [0, 1, 2] rfl (s_Rd_takeNewName_38 hD (Rd_takeNewName_10 n) ih a0 x1 x2 r35 r h)
      · rw [if_neg c30] at h
        refine rn_if_ne_t i70_30 c30 ?_
        exact rn_sub [0, 1, 2] rfl (s_Rd_takeNewName_38 hD (Rd_takeNewName_10 n) ih a0 x1 x2 w r h)
def Rd_takeNewName_0 (a0 : Nat) (x1 : Int) (w : Wd) : Option (Int × Wd) :=
  (fgI w a0 6 6).bind fun v1 =>
  if (v1 : Int) = 2 then
    Rd_takeNewName_10 FU a0 x1 0 w
  else
    Rd_takeNewName_54 a0 w
theorem s_Rd_takeNewName_0 {g : Gp} {l : Launch} {D : Nat} (hD : 3 ≤ D) (a0 : Nat) (x1 : Int) (w : Wd) (r : Int × Wd) (h : Rd_takeNewName_0 a0 x1 w = some r) : Rn g l D 70 0 [(0, .inr (.inr a0)), (1, .inl x1)] [] w (some (.inl r.1)) r.2 := by
  unfold Rd_takeNewName_0 at h
  refine fr_aload_n i70_0 rfl ?_
  obtain ⟨v1, h1, h⟩ := Option.bind_eq_some_iff.mp h
  refine fr_gI (k := 6) i70_1 tf6_6 h1 ?_
  refine rn_iconst i70_4 ?_
  by_cases c5 : (v1 : Int) = 2
  · rw [if_pos c5] at h
    refine rn_icmp_ne_f i70_5 c5 ?_
    refine rn_iconst i70_8 ?_
    refine rn_istore_n (ls1 := [(2, .inl 0), (0, .inr (.inr a0)), (1, .inl x1)]) i70_9 rfl ?_
    exact rn_sub [1, 2, 0] rfl (s_Rd_takeNewName_10 hD FU a0 x1 0 w r h)
  · rw [if_neg c5] at h
    refine rn_icmp_ne_t i70_5 c5 ?_
    exact rn_sub [0] rfl (s_Rd_takeNewName_54 hD a0 w r h)
/-- HandHeirs$Reader.takeNewName(I)Z -/
def Rd_takeNewName (a0 : Nat) (x1 : Int) (w : Wd) : Option (Int × Wd) := gd 6 w a0 (Rd_takeNewName_0 a0 x1 w)
theorem S_Rd_takeNewName {g : Gp} {l : Launch} (a0 : Nat) (x1 : Int) (w : Wd) (r : Int × Wd) (h : Rd_takeNewName a0 x1 w = some r) : (wsh w a0).1 = 6 ∧ ∀ D, 3 ≤ D → Rn g l D 70 0 [(0, .inr (.inr a0)), (1, .inl x1)] [] w (some (.inl r.1)) r.2 := by
  obtain ⟨hg, h⟩ := gd_some h
  exact ⟨hg, fun D hD => rn_sub [0, 1] rfl (s_Rd_takeNewName_0 hD a0 x1 w r h)⟩
def Rd_takeInt_23 (a0 : Nat) (w : Wd) : Option (Int × Wd) :=
  (fgL w a0 6 7).bind fun v25 =>
  (fpI w a0 6 8 (w32 v25)).bind fun w29 =>
  (Rd_take a0 3 w29).bind fun r34 =>
  rZ r34.1 r34.2
theorem s_Rd_takeInt_23 {g : Gp} {l : Launch} {D : Nat} (hD : 3 ≤ D) (a0 : Nat) (w : Wd) (r : Int × Wd) (h : Rd_takeInt_23 a0 w = some r) : Rn g l D 71 23 [(0, .inr (.inr a0))] [] w (some (.inl r.1)) r.2 := by
  obtain ⟨D, rfl⟩ : ∃ D1, D = D1 + 1 := ⟨D - 1, by omega⟩
  unfold Rd_takeInt_23 at h
  refine fr_aload_n i71_23 rfl ?_
  refine fr_aload_n i71_24 rfl ?_
  obtain ⟨v25, h25, h⟩ := Option.bind_eq_some_iff.mp h
  refine fr_gL (k := 7) i71_25 tf6_7 h25 ?_
  refine rn_l2i i71_28 ?_
  obtain ⟨w29, h29, h⟩ := Option.bind_eq_some_iff.mp h
  refine fr_pI (k := 8) i71_29 (pf6_8 71) h29 ?_
  refine fr_aload_n i71_32 rfl ?_
  refine rn_iconst i71_33 ?_
  obtain ⟨r34, h34, h⟩ := Option.bind_eq_some_iff.mp h
  obtain ⟨g34, c34⟩ := S_Rd_take a0 3 w29 r34 h34
  refine fr_callV (a := a0) (As := [.inl 3]) (st := []) i71_34 (cq60 a0 3) rfl (Nat.le_of_ble_eq_true rfl) g34 (c34 _ (by omega)) ?_
  show Rn _ _ _ _ _ _ [.inl r34.1] _ _ _
  exact fr_retZ i71_37 mr71 h
def Rd_takeInt_0 (a0 : Nat) (x1 : Int) (w : Wd) : Option (Int × Wd) :=
  (fgI w a0 6 6).bind fun v1 =>
  if (v1 : Int) = 3 then
    (fgL w a0 6 7).bind fun v9 =>
    if ((ocmp v9 x1) : Int) ≤ 0 then
      Rd_takeInt_23 a0 w
    else
      (Rd_note a0 5 w).bind fun r20 =>
      Rd_takeInt_23 a0 r20
  else
    Rd_takeInt_23 a0 w
theorem s_Rd_takeInt_0 {g : Gp} {l : Launch} {D : Nat} (hD : 3 ≤ D) (a0 : Nat) (x1 : Int) (w : Wd) (r : Int × Wd) (h : Rd_takeInt_0 a0 x1 w = some r) : Rn g l D 71 0 [(0, .inr (.inr a0)), (1, .inl x1)] [] w (some (.inl r.1)) r.2 := by
  obtain ⟨D, rfl⟩ : ∃ D1, D = D1 + 1 := ⟨D - 1, by omega⟩
  unfold Rd_takeInt_0 at h
  refine fr_aload_n i71_0 rfl ?_
  obtain ⟨v1, h1, h⟩ := Option.bind_eq_some_iff.mp h
  refine fr_gI (k := 6) i71_1 tf6_6 h1 ?_
  refine rn_iconst i71_4 ?_
  by_cases c5 : (v1 : Int) = 3
  · rw [if_pos c5] at h
    refine rn_icmp_ne_f i71_5 c5 ?_
    refine fr_aload_n i71_8 rfl ?_
    obtain ⟨v9, h9, h⟩ := Option.bind_eq_some_iff.mp h
    refine fr_gL (k := 7) i71_9 tf6_7 h9 ?_
    refine rn_iload_n i71_12 rfl ?_
    refine rn_i2l i71_13 ?_
    refine rn_lcmp i71_14 ?_
    by_cases c15 : ((ocmp v9 x1) : Int) ≤ 0
    · rw [if_pos c15] at h
      refine rn_if_le_t i71_15 c15 ?_
      exact rn_sub [0] rfl (s_Rd_takeInt_23 hD a0 w r h)
    · rw [if_neg c15] at h
      refine rn_if_le_f i71_15 c15 ?_
      refine fr_aload_n i71_18 rfl ?_
      refine rn_iconst i71_19 ?_
      obtain ⟨r20, h20, h⟩ := Option.bind_eq_some_iff.mp h
      obtain ⟨g20, c20⟩ := S_Rd_note a0 5 w r20 h20
      refine fr_callV (a := a0) (As := [.inl 5]) (st := []) i71_20 (cq58 a0 5) rfl (Nat.le_of_ble_eq_true rfl) g20 (c20 _ (by omega)) ?_
      exact rn_sub [0] rfl (s_Rd_takeInt_23 hD a0 r20 r h)
  · rw [if_neg c5] at h
    refine rn_icmp_ne_t i71_5 c5 ?_
    exact rn_sub [0] rfl (s_Rd_takeInt_23 hD a0 w r h)
/-- HandHeirs$Reader.takeInt(I)Z -/
def Rd_takeInt (a0 : Nat) (x1 : Int) (w : Wd) : Option (Int × Wd) := gd 6 w a0 (Rd_takeInt_0 a0 x1 w)
theorem S_Rd_takeInt {g : Gp} {l : Launch} (a0 : Nat) (x1 : Int) (w : Wd) (r : Int × Wd) (h : Rd_takeInt a0 x1 w = some r) : (wsh w a0).1 = 6 ∧ ∀ D, 3 ≤ D → Rn g l D 71 0 [(0, .inr (.inr a0)), (1, .inl x1)] [] w (some (.inl r.1)) r.2 := by
  obtain ⟨hg, h⟩ := gd_some h
  exact ⟨hg, fun D hD => rn_sub [0, 1] rfl (s_Rd_takeInt_0 hD a0 x1 w r h)⟩
def Rd_takeLetter_57 (w : Wd) : Option (Int × Wd) :=
  some (0, w)
theorem s_Rd_takeLetter_57 {g : Gp} {l : Launch} {D : Nat} (hD : 4 ≤ D) (w : Wd) (r : Int × Wd) (h : Rd_takeLetter_57 w = some r) : Rn g l D 61 57 [] [] w (some (.inl r.1)) r.2 := by
  unfold Rd_takeLetter_57 at h
  refine rn_iconst i61_57 ?_
  obtain rfl := Option.some.inj h
  exact rn_retZ i61_58 mr61 (by decide)
def Rd_takeLetter_0 (a0 : Nat) (w : Wd) : Option (Int × Wd) :=
  (fgR w a0 6 1).bind fun v1 =>
  (fgI w v1 10 0).bind fun v4 =>
  if (v4 : Int) < 6 then
    (fgR w a0 6 1).bind fun v21 =>
    (fgI w v21 10 0).bind fun v25 =>
    (fpI w v21 10 0 (w32 (v25 + 1))).bind fun w30 =>
    (Rd_pass a0 w30).bind fun r34 =>
    if (r34.1 : Int) = 0 then
      Rd_takeLetter_57 r34.2
    else
      (Rd_takeNewName a0 v4 r34.2).bind fun r42 =>
      if (r42.1 : Int) = 0 then
        Rd_takeLetter_57 r42.2
      else
        (Rd_takeInt a0 99 r42.2).bind fun r51 =>
        if (r51.1 : Int) = 0 then
          Rd_takeLetter_57 r51.2
        else
          (fgR r51.2 a0 6 1).bind fun v60 =>
          (fgR r51.2 v60 10 7).bind fun v63 =>
          (fgI r51.2 a0 6 8).bind fun v68 =>
          (wrI r51.2 v63 v4 v68).bind fun w71 =>
          some (1, w71)
  else
    (Rd_refuse a0 2 w).bind fun r16 =>
    rZ r16.1 r16.2
theorem s_Rd_takeLetter_0 {g : Gp} {l : Launch} {D : Nat} (hD : 4 ≤ D) (a0 : Nat) (w : Wd) (r : Int × Wd) (h : Rd_takeLetter_0 a0 w = some r) : Rn g l D 61 0 [(0, .inr (.inr a0))] [] w (some (.inl r.1)) r.2 := by
  obtain ⟨D, rfl⟩ : ∃ D1, D = D1 + 1 := ⟨D - 1, by omega⟩
  unfold Rd_takeLetter_0 at h
  refine fr_aload_n i61_0 rfl ?_
  obtain ⟨v1, h1, h⟩ := Option.bind_eq_some_iff.mp h
  refine fr_gR (k := 1) i61_1 tf6_1 h1 ?_
  obtain ⟨v4, h4, h⟩ := Option.bind_eq_some_iff.mp h
  refine fr_gI (k := 0) i61_4 tf10_0 h4 ?_
  refine rn_istore_n (ls1 := [(1, .inl v4), (0, .inr (.inr a0))]) i61_7 rfl ?_
  refine rn_iload_n i61_8 rfl ?_
  refine rn_bipush i61_9 ?_
  by_cases c11 : (v4 : Int) < 6
  · rw [if_pos c11] at h
    refine rn_icmp_lt_t i61_11 c11 ?_
    refine fr_aload_n i61_20 rfl ?_
    obtain ⟨v21, h21, h⟩ := Option.bind_eq_some_iff.mp h
    refine fr_gR (k := 1) i61_21 tf6_1 h21 ?_
    refine rn_dup i61_24 rfl ?_
    obtain ⟨v25, h25, h⟩ := Option.bind_eq_some_iff.mp h
    refine fr_gI (k := 0) i61_25 tf10_0 h25 ?_
    refine rn_iconst i61_28 ?_
    refine rn_iadd i61_29 ?_
    obtain ⟨w30, h30, h⟩ := Option.bind_eq_some_iff.mp h
    refine fr_pI (k := 0) i61_30 (pf10_0 61) h30 ?_
    refine fr_aload_n i61_33 rfl ?_
    obtain ⟨r34, h34, h⟩ := Option.bind_eq_some_iff.mp h
    obtain ⟨g34, c34⟩ := S_Rd_pass a0 w30 r34 h34
    refine fr_callV (a := a0) (As := []) (st := []) i61_34 (cq59 a0) rfl (Nat.le_of_ble_eq_true rfl) g34 (c34 _ (by omega)) ?_
    show Rn _ _ _ _ _ _ [.inl r34.1] _ _ _
    by_cases c37 : (r34.1 : Int) = 0
    · rw [if_pos c37] at h
      refine rn_if_eq_t i61_37 c37 ?_
      exact rn_sub [] rfl (s_Rd_takeLetter_57 hD r34.2 r h)
    · rw [if_neg c37] at h
      refine rn_if_eq_f i61_37 c37 ?_
      refine fr_aload_n i61_40 rfl ?_
      refine rn_iload_n i61_41 rfl ?_
      obtain ⟨r42, h42, h⟩ := Option.bind_eq_some_iff.mp h
      obtain ⟨g42, c42⟩ := S_Rd_takeNewName a0 v4 r34.2 r42 h42
      refine fr_callV (a := a0) (As := [.inl v4]) (st := []) i61_42 (cq70 a0 v4) rfl (Nat.le_of_ble_eq_true rfl) g42 (c42 _ (by omega)) ?_
      show Rn _ _ _ _ _ _ [.inl r42.1] _ _ _
      by_cases c45 : (r42.1 : Int) = 0
      · rw [if_pos c45] at h
        refine rn_if_eq_t i61_45 c45 ?_
        exact rn_sub [] rfl (s_Rd_takeLetter_57 hD r42.2 r h)
      · rw [if_neg c45] at h
        refine rn_if_eq_f i61_45 c45 ?_
        refine fr_aload_n i61_48 rfl ?_
        refine rn_bipush i61_49 ?_
        obtain ⟨r51, h51, h⟩ := Option.bind_eq_some_iff.mp h
        obtain ⟨g51, c51⟩ := S_Rd_takeInt a0 99 r42.2 r51 h51
        refine fr_callV (a := a0) (As := [.inl 99]) (st := []) i61_51 (cq71 a0 99) rfl (Nat.le_of_ble_eq_true rfl) g51 (c51 _ (by omega)) ?_
        show Rn _ _ _ _ _ _ [.inl r51.1] _ _ _
        by_cases c54 : (r51.1 : Int) = 0
        · rw [if_pos c54] at h
          refine rn_if_ne_f i61_54 c54 ?_
          exact rn_sub [] rfl (s_Rd_takeLetter_57 hD r51.2 r h)
        · rw [if_neg c54] at h
          refine rn_if_ne_t i61_54 c54 ?_
          refine fr_aload_n i61_59 rfl ?_
          obtain ⟨v60, h60, h⟩ := Option.bind_eq_some_iff.mp h
          refine fr_gR (k := 1) i61_60 tf6_1 h60 ?_
          obtain ⟨v63, h63, h⟩ := Option.bind_eq_some_iff.mp h
          refine fr_gR (k := 7) i61_63 tf10_7 h63 ?_
          refine rn_iload_n i61_66 rfl ?_
          refine fr_aload_n i61_67 rfl ?_
          obtain ⟨v68, h68, h⟩ := Option.bind_eq_some_iff.mp h
          refine fr_gI (k := 8) i61_68 tf6_8 h68 ?_
          obtain ⟨w71, h71, h⟩ := Option.bind_eq_some_iff.mp h
          refine rn_iast i61_71 h71 ?_
          refine rn_iconst i61_72 ?_
          obtain rfl := Option.some.inj h
          exact rn_retZ i61_73 mr61 (by decide)
  · rw [if_neg c11] at h
    refine rn_icmp_lt_f i61_11 c11 ?_
    refine fr_aload_n i61_14 rfl ?_
    refine rn_iconst i61_15 ?_
    obtain ⟨r16, h16, h⟩ := Option.bind_eq_some_iff.mp h
    obtain ⟨g16, c16⟩ := S_Rd_refuse a0 2 w r16 h16
    refine fr_callV (a := a0) (As := [.inl 2]) (st := []) i61_16 (cq57 a0 2) rfl (Nat.le_of_ble_eq_true rfl) g16 (c16 _ (by omega)) ?_
    show Rn _ _ _ _ _ _ [.inl r16.1] _ _ _
    exact fr_retZ i61_19 mr61 h
/-- HandHeirs$Reader.takeLetter()Z -/
def Rd_takeLetter (a0 : Nat) (w : Wd) : Option (Int × Wd) := gd 6 w a0 (Rd_takeLetter_0 a0 w)
theorem S_Rd_takeLetter {g : Gp} {l : Launch} (a0 : Nat) (w : Wd) (r : Int × Wd) (h : Rd_takeLetter a0 w = some r) : (wsh w a0).1 = 6 ∧ ∀ D, 4 ≤ D → Rn g l D 61 0 [(0, .inr (.inr a0))] [] w (some (.inl r.1)) r.2 := by
  obtain ⟨hg, h⟩ := gd_some h
  exact ⟨hg, fun D hD => rn_sub [0] rfl (s_Rd_takeLetter_0 hD a0 w r h)⟩
def Rd_takeHeir_60 (w : Wd) : Option (Int × Wd) :=
  some (0, w)
theorem s_Rd_takeHeir_60 {g : Gp} {l : Launch} {D : Nat} (hD : 4 ≤ D) (w : Wd) (r : Int × Wd) (h : Rd_takeHeir_60 w = some r) : Rn g l D 62 60 [] [] w (some (.inl r.1)) r.2 := by
  unfold Rd_takeHeir_60 at h
  refine rn_iconst i62_60 ?_
  obtain rfl := Option.some.inj h
  exact rn_retZ i62_61 mr62 (by decide)
def Rd_takeHeir_167 (s0 : Int) (w : Wd) : Option (Int × Wd) :=
  rZ s0 w
theorem s_Rd_takeHeir_167 {g : Gp} {l : Launch} {D : Nat} (hD : 4 ≤ D) (s0 : Int) (w : Wd) (r : Int × Wd) (h : Rd_takeHeir_167 s0 w = some r) : Rn g l D 62 167 [] [.inl s0] w (some (.inl r.1)) r.2 := by
  unfold Rd_takeHeir_167 at h
  exact fr_retZ i62_167 mr62 h
def Rd_takeHeir_150 (a0 : Nat) (w : Wd) : Option (Int × Wd) :=
  (fgI w a0 6 6).bind fun v151 =>
  if (v151 : Int) = 3 then
    (Rd_refuse a0 2 w).bind fun r160 =>
    Rd_takeHeir_167 r160.1 r160.2
  else
    Rd_takeHeir_167 1 w
theorem s_Rd_takeHeir_150 {g : Gp} {l : Launch} {D : Nat} (hD : 4 ≤ D) (a0 : Nat) (w : Wd) (r : Int × Wd) (h : Rd_takeHeir_150 a0 w = some r) : Rn g l D 62 150 [(0, .inr (.inr a0))] [] w (some (.inl r.1)) r.2 := by
  obtain ⟨D, rfl⟩ : ∃ D1, D = D1 + 1 := ⟨D - 1, by omega⟩
  unfold Rd_takeHeir_150 at h
  refine fr_aload_n i62_150 rfl ?_
  obtain ⟨v151, h151, h⟩ := Option.bind_eq_some_iff.mp h
  refine fr_gI (k := 6) i62_151 tf6_6 h151 ?_
  refine rn_iconst i62_154 ?_
  by_cases c155 : (v151 : Int) = 3
  · rw [if_pos c155] at h
    refine rn_icmp_ne_f i62_155 c155 ?_
    refine fr_aload_n i62_158 rfl ?_
    refine rn_iconst i62_159 ?_
    obtain ⟨r160, h160, h⟩ := Option.bind_eq_some_iff.mp h
    obtain ⟨g160, c160⟩ := S_Rd_refuse a0 2 w r160 h160
    refine fr_callV (a := a0) (As := [.inl 2]) (st := []) i62_160 (cq57 a0 2) rfl (Nat.le_of_ble_eq_true rfl) g160 (c160 _ (by omega)) ?_
    show Rn _ _ _ _ _ _ [.inl r160.1] _ _ _
    refine rn_goto i62_163 ?_
    exact rn_sub [] rfl (s_Rd_takeHeir_167 hD r160.1 r160.2 r h)
  · rw [if_neg c155] at h
    refine rn_icmp_ne_t i62_155 c155 ?_
    refine rn_iconst i62_166 ?_
    exact rn_sub [] rfl (s_Rd_takeHeir_167 hD 1 w r h)
def Rd_takeHeir_101 : Nat → Nat → Int → Int → Wd → Option (Int × Wd)
  | 0, _, _, _, _ => none
  | n + 1, a0, x1, x2, w =>
    if (6 : Int) ≤ x2 then
      Rd_takeHeir_150 a0 w
    else
      (fgI w a0 6 6).bind fun v108 =>
      if (v108 : Int) = 3 then
        (Rd_takeInt a0 99 w).bind fun r118 =>
        if (r118.1 : Int) = 0 then
          some (0, r118.2)
        else
          (fgR r118.2 a0 6 1).bind fun v127 =>
          (fgR r118.2 v127 10 10).bind fun v130 =>
          (fgI r118.2 a0 6 8).bind fun v140 =>
          (wrI r118.2 v130 (w32 ((w32 (x1 * 6)) + x2)) v140).bind fun w143 =>
          Rd_takeHeir_101 n a0 x1 (w32 (x2 + 1)) w143
      else
        Rd_takeHeir_150 a0 w
theorem s_Rd_takeHeir_101 {g : Gp} {l : Launch} {D : Nat} (hD : 4 ≤ D) : ∀ (n : Nat) (a0 : Nat) (x1 : Int) (x2 : Int) (w : Wd) (r : Int × Wd), Rd_takeHeir_101 n a0 x1 x2 w = some r → Rn g l D 62 101 [(0, .inr (.inr a0)), (1, .inl x1), (2, .inl x2)] [] w (some (.inl r.1)) r.2 := by
  obtain ⟨D, rfl⟩ : ∃ D1, D = D1 + 1 := ⟨D - 1, by omega⟩
  intro n
  induction n with
  | zero => intro a0 x1 x2 w r h; cases (show (none : Option (Int × Wd)) = some r from h)
  | succ n ih =>
    intro a0 x1 x2 w r h
    unfold Rd_takeHeir_101 at h
    refine rn_iload_n i62_101 rfl ?_
    refine rn_bipush i62_102 ?_
    by_cases c104 : (6 : Int) ≤ x2
    · rw [if_pos c104] at h
      refine rn_icmp_ge_t i62_104 c104 ?_
      exact rn_sub [0] rfl (s_Rd_takeHeir_150 hD a0 w r h)
    · rw [if_neg c104] at h
      refine rn_icmp_ge_f i62_104 c104 ?_
      refine fr_aload_n i62_107 rfl ?_
      obtain ⟨v108, h108, h⟩ := Option.bind_eq_some_iff.mp h
      refine fr_gI (k := 6) i62_108 tf6_6 h108 ?_
      refine rn_iconst i62_111 ?_
      by_cases c112 : (v108 : Int) = 3
      · rw [if_pos c112] at h
        refine rn_icmp_ne_f i62_112 c112 ?_
        refine fr_aload_n i62_115 rfl ?_
        refine rn_bipush i62_116 ?_
        obtain ⟨r118, h118, h⟩ := Option.bind_eq_some_iff.mp h
        obtain ⟨g118, c118⟩ := S_Rd_takeInt a0 99 w r118 h118
        refine fr_callV (a := a0) (As := [.inl 99]) (st := []) i62_118 (cq71 a0 99) rfl (Nat.le_of_ble_eq_true rfl) g118 (c118 _ (by omega)) ?_
        show Rn _ _ _ _ _ _ [.inl r118.1] _ _ _
        by_cases c121 : (r118.1 : Int) = 0
        · rw [if_pos c121] at h
          refine rn_if_ne_f i62_121 c121 ?_
          refine rn_iconst i62_124 ?_
          obtain rfl := Option.some.inj h
          exact rn_retZ i62_125 mr62 (by decide)
        · rw [if_neg c121] at h
          refine rn_if_ne_t i62_121 c121 ?_
          refine fr_aload_n i62_126 rfl ?_
          obtain ⟨v127, h127, h⟩ := Option.bind_eq_some_iff.mp h
          refine fr_gR (k := 1) i62_127 tf6_1 h127 ?_
          obtain ⟨v130, h130, h⟩ := Option.bind_eq_some_iff.mp h
          refine fr_gR (k := 10) i62_130 tf10_10 h130 ?_
          refine rn_iload_n i62_133 rfl ?_
          refine rn_bipush i62_134 ?_
          refine rn_imul i62_136 ?_
          refine rn_iload_n i62_137 rfl ?_
          refine rn_iadd i62_138 ?_
          refine fr_aload_n i62_139 rfl ?_
          obtain ⟨v140, h140, h⟩ := Option.bind_eq_some_iff.mp h
          refine fr_gI (k := 8) i62_140 tf6_8 h140 ?_
          obtain ⟨w143, h143, h⟩ := Option.bind_eq_some_iff.mp h
          refine rn_iast i62_143 h143 ?_
          refine rn_iinc (ls1 := [(2, .inl (w32 (x2 + 1))), (0, .inr (.inr a0)), (1, .inl x1)]) i62_144 rfl rfl ?_
          refine rn_goto i62_147 ?_
          exact rn_sub [1, 2, 0] rfl (ih a0 x1 (w32 (x2 + 1)) w143 r h)
      · rw [if_neg c112] at h
        refine rn_icmp_ne_t i62_112 c112 ?_
        exact rn_sub [0] rfl (s_Rd_takeHeir_150 hD a0 w r h)
def Rd_takeHeir_0 (a0 : Nat) (w : Wd) : Option (Int × Wd) :=
  (fgR w a0 6 1).bind fun v1 =>
  (fgI w v1 10 1).bind fun v4 =>
  if (v4 : Int) < 6 then
    (fgR w a0 6 1).bind fun v21 =>
    (fgI w v21 10 1).bind fun v25 =>
    (fpI w v21 10 1 (w32 (v25 + 1))).bind fun w30 =>
    (Rd_pass a0 w30).bind fun r34 =>
    if (r34.1 : Int) = 0 then
      Rd_takeHeir_60 r34.2
    else
      (Rd_takeNewName a0 (w32 (6 + v4)) r34.2).bind fun r45 =>
      if (r45.1 : Int) = 0 then
        Rd_takeHeir_60 r45.2
      else
        (Rd_takeInt a0 99 r45.2).bind fun r54 =>
        if (r54.1 : Int) = 0 then
          Rd_takeHeir_60 r54.2
        else
          (fgR r54.2 a0 6 1).bind fun v63 =>
          (fgR r54.2 v63 10 8).bind fun v66 =>
          (fgI r54.2 a0 6 8).bind fun v71 =>
          (wrI r54.2 v66 v4 v71).bind fun w74 =>
          (Rd_takeInt a0 9 w74).bind fun r78 =>
          if (r78.1 : Int) = 0 then
            some (0, r78.2)
          else
            (fgR r78.2 a0 6 1).bind fun v87 =>
            (fgR r78.2 v87 10 9).bind fun v90 =>
            (fgI r78.2 a0 6 8).bind fun v95 =>
            (wrI r78.2 v90 v4 v95).bind fun w98 =>
            Rd_takeHeir_101 FU a0 v4 0 w98
  else
    (Rd_refuse a0 2 w).bind fun r16 =>
    rZ r16.1 r16.2
theorem s_Rd_takeHeir_0 {g : Gp} {l : Launch} {D : Nat} (hD : 4 ≤ D) (a0 : Nat) (w : Wd) (r : Int × Wd) (h : Rd_takeHeir_0 a0 w = some r) : Rn g l D 62 0 [(0, .inr (.inr a0))] [] w (some (.inl r.1)) r.2 := by
  obtain ⟨D, rfl⟩ : ∃ D1, D = D1 + 1 := ⟨D - 1, by omega⟩
  unfold Rd_takeHeir_0 at h
  refine fr_aload_n i62_0 rfl ?_
  obtain ⟨v1, h1, h⟩ := Option.bind_eq_some_iff.mp h
  refine fr_gR (k := 1) i62_1 tf6_1 h1 ?_
  obtain ⟨v4, h4, h⟩ := Option.bind_eq_some_iff.mp h
  refine fr_gI (k := 1) i62_4 tf10_1 h4 ?_
  refine rn_istore_n (ls1 := [(1, .inl v4), (0, .inr (.inr a0))]) i62_7 rfl ?_
  refine rn_iload_n i62_8 rfl ?_
  refine rn_bipush i62_9 ?_
  by_cases c11 : (v4 : Int) < 6
  · rw [if_pos c11] at h
    refine rn_icmp_lt_t i62_11 c11 ?_
    refine fr_aload_n i62_20 rfl ?_
    obtain ⟨v21, h21, h⟩ := Option.bind_eq_some_iff.mp h
    refine fr_gR (k := 1) i62_21 tf6_1 h21 ?_
    refine rn_dup i62_24 rfl ?_
    obtain ⟨v25, h25, h⟩ := Option.bind_eq_some_iff.mp h
    refine fr_gI (k := 1) i62_25 tf10_1 h25 ?_
    refine rn_iconst i62_28 ?_
    refine rn_iadd i62_29 ?_
    obtain ⟨w30, h30, h⟩ := Option.bind_eq_some_iff.mp h
    refine fr_pI (k := 1) i62_30 (pf10_1 62) h30 ?_
    refine fr_aload_n i62_33 rfl ?_
    obtain ⟨r34, h34, h⟩ := Option.bind_eq_some_iff.mp h
    obtain ⟨g34, c34⟩ := S_Rd_pass a0 w30 r34 h34
    refine fr_callV (a := a0) (As := []) (st := []) i62_34 (cq59 a0) rfl (Nat.le_of_ble_eq_true rfl) g34 (c34 _ (by omega)) ?_
    show Rn _ _ _ _ _ _ [.inl r34.1] _ _ _
    by_cases c37 : (r34.1 : Int) = 0
    · rw [if_pos c37] at h
      refine rn_if_eq_t i62_37 c37 ?_
      exact rn_sub [] rfl (s_Rd_takeHeir_60 hD r34.2 r h)
    · rw [if_neg c37] at h
      refine rn_if_eq_f i62_37 c37 ?_
      refine fr_aload_n i62_40 rfl ?_
      refine rn_bipush i62_41 ?_
      refine rn_iload_n i62_43 rfl ?_
      refine rn_iadd i62_44 ?_
      obtain ⟨r45, h45, h⟩ := Option.bind_eq_some_iff.mp h
      obtain ⟨g45, c45⟩ := S_Rd_takeNewName a0 (w32 (6 + v4)) r34.2 r45 h45
      refine fr_callV (a := a0) (As := [.inl (w32 (6 + v4))]) (st := []) i62_45 (cq70 a0 (w32 (6 + v4))) rfl (Nat.le_of_ble_eq_true rfl) g45 (c45 _ (by omega)) ?_
      show Rn _ _ _ _ _ _ [.inl r45.1] _ _ _
      by_cases c48 : (r45.1 : Int) = 0
      · rw [if_pos c48] at h
        refine rn_if_eq_t i62_48 c48 ?_
        exact rn_sub [] rfl (s_Rd_takeHeir_60 hD r45.2 r h)
      · rw [if_neg c48] at h
        refine rn_if_eq_f i62_48 c48 ?_
        refine fr_aload_n i62_51 rfl ?_
        refine rn_bipush i62_52 ?_
        obtain ⟨r54, h54, h⟩ := Option.bind_eq_some_iff.mp h
        obtain ⟨g54, c54⟩ := S_Rd_takeInt a0 99 r45.2 r54 h54
        refine fr_callV (a := a0) (As := [.inl 99]) (st := []) i62_54 (cq71 a0 99) rfl (Nat.le_of_ble_eq_true rfl) g54 (c54 _ (by omega)) ?_
        show Rn _ _ _ _ _ _ [.inl r54.1] _ _ _
        by_cases c57 : (r54.1 : Int) = 0
        · rw [if_pos c57] at h
          refine rn_if_ne_f i62_57 c57 ?_
          exact rn_sub [] rfl (s_Rd_takeHeir_60 hD r54.2 r h)
        · rw [if_neg c57] at h
          refine rn_if_ne_t i62_57 c57 ?_
          refine fr_aload_n i62_62 rfl ?_
          obtain ⟨v63, h63, h⟩ := Option.bind_eq_some_iff.mp h
          refine fr_gR (k := 1) i62_63 tf6_1 h63 ?_
          obtain ⟨v66, h66, h⟩ := Option.bind_eq_some_iff.mp h
          refine fr_gR (k := 8) i62_66 tf10_8 h66 ?_
          refine rn_iload_n i62_69 rfl ?_
          refine fr_aload_n i62_70 rfl ?_
          obtain ⟨v71, h71, h⟩ := Option.bind_eq_some_iff.mp h
          refine fr_gI (k := 8) i62_71 tf6_8 h71 ?_
          obtain ⟨w74, h74, h⟩ := Option.bind_eq_some_iff.mp h
          refine rn_iast i62_74 h74 ?_
          refine fr_aload_n i62_75 rfl ?_
          refine rn_bipush i62_76 ?_
          obtain ⟨r78, h78, h⟩ := Option.bind_eq_some_iff.mp h
          obtain ⟨g78, c78⟩ := S_Rd_takeInt a0 9 w74 r78 h78
          refine fr_callV (a := a0) (As := [.inl 9]) (st := []) i62_78 (cq71 a0 9) rfl (Nat.le_of_ble_eq_true rfl) g78 (c78 _ (by omega)) ?_
          show Rn _ _ _ _ _ _ [.inl r78.1] _ _ _
          by_cases c81 : (r78.1 : Int) = 0
          · rw [if_pos c81] at h
            refine rn_if_ne_f i62_81 c81 ?_
            refine rn_iconst i62_84 ?_
            obtain rfl := Option.some.inj h
            exact rn_retZ i62_85 mr62 (by decide)
          · rw [if_neg c81] at h
            refine rn_if_ne_t i62_81 c81 ?_
            refine fr_aload_n i62_86 rfl ?_
            obtain ⟨v87, h87, h⟩ := Option.bind_eq_some_iff.mp h
            refine fr_gR (k := 1) i62_87 tf6_1 h87 ?_
            obtain ⟨v90, h90, h⟩ := Option.bind_eq_some_iff.mp h
            refine fr_gR (k := 9) i62_90 tf10_9 h90 ?_
            refine rn_iload_n i62_93 rfl ?_
            refine fr_aload_n i62_94 rfl ?_
            obtain ⟨v95, h95, h⟩ := Option.bind_eq_some_iff.mp h
            refine fr_gI (k := 8) i62_95 tf6_8 h95 ?_
            obtain ⟨w98, h98, h⟩ := Option.bind_eq_some_iff.mp h
            refine rn_iast i62_98 h98 ?_
            refine rn_iconst i62_99 ?_
            refine rn_istore_n (ls1 := [(2, .inl 0), (1, .inl v4), (0, .inr (.inr a0))]) i62_100 rfl ?_
            exact rn_sub [2, 1, 0] rfl (s_Rd_takeHeir_101 hD FU a0 v4 0 w98 r h)
  · rw [if_neg c11] at h
    refine rn_icmp_lt_f i62_11 c11 ?_
    refine fr_aload_n i62_14 rfl ?_
    refine rn_iconst i62_15 ?_
    obtain ⟨r16, h16, h⟩ := Option.bind_eq_some_iff.mp h
    obtain ⟨g16, c16⟩ := S_Rd_refuse a0 2 w r16 h16
    refine fr_callV (a := a0) (As := [.inl 2]) (st := []) i62_16 (cq57 a0 2) rfl (Nat.le_of_ble_eq_true rfl) g16 (c16 _ (by omega)) ?_
    show Rn _ _ _ _ _ _ [.inl r16.1] _ _ _
    exact fr_retZ i62_19 mr62 h
/-- HandHeirs$Reader.takeHeir()Z -/
def Rd_takeHeir (a0 : Nat) (w : Wd) : Option (Int × Wd) := gd 6 w a0 (Rd_takeHeir_0 a0 w)
theorem S_Rd_takeHeir {g : Gp} {l : Launch} (a0 : Nat) (w : Wd) (r : Int × Wd) (h : Rd_takeHeir a0 w = some r) : (wsh w a0).1 = 6 ∧ ∀ D, 4 ≤ D → Rn g l D 62 0 [(0, .inr (.inr a0))] [] w (some (.inl r.1)) r.2 := by
  obtain ⟨hg, h⟩ := gd_some h
  exact ⟨hg, fun D hD => rn_sub [0] rfl (s_Rd_takeHeir_0 hD a0 w r h)⟩
def Rd_takeUnit_161 (rc : Nat → Int → Wd → Option (Int × Wd)) (s0 : Int) (w : Wd) : Option (Int × Wd) :=
  rZ s0 w
theorem s_Rd_takeUnit_161 {g : Gp} {l : Launch} {D e : Nat} (hD : e + 3 ≤ D) (rc : Nat → Int → Wd → Option (Int × Wd)) (hrc : ∀ (a : Nat) (z : Int) (w : Wd) (r : Int × Wd), rc a z w = some r → (wsh w a).1 = 6 ∧ ∀ D, e ≤ D → Rn g l D 73 0 [(0, .inr (.inr a)), (1, .inl z)] [] w (some (.inl r.1)) r.2) (s0 : Int) (w : Wd) (r : Int × Wd) (h : Rd_takeUnit_161 rc s0 w = some r) : Rn g l D 75 161 [] [.inl s0] w (some (.inl r.1)) r.2 := by
  unfold Rd_takeUnit_161 at h
  exact fr_retZ i75_161 mr75 h
def Rd_takeUnit_160 (rc : Nat → Int → Wd → Option (Int × Wd)) (w : Wd) : Option (Int × Wd) :=
  Rd_takeUnit_161 rc 0 w
theorem s_Rd_takeUnit_160 {g : Gp} {l : Launch} {D e : Nat} (hD : e + 3 ≤ D) (rc : Nat → Int → Wd → Option (Int × Wd)) (hrc : ∀ (a : Nat) (z : Int) (w : Wd) (r : Int × Wd), rc a z w = some r → (wsh w a).1 = 6 ∧ ∀ D, e ≤ D → Rn g l D 73 0 [(0, .inr (.inr a)), (1, .inl z)] [] w (some (.inl r.1)) r.2) (w : Wd) (r : Int × Wd) (h : Rd_takeUnit_160 rc w = some r) : Rn g l D 75 160 [] [] w (some (.inl r.1)) r.2 := by
  unfold Rd_takeUnit_160 at h
  refine rn_iconst i75_160 ?_
  exact rn_sub [] rfl (s_Rd_takeUnit_161 hD rc hrc 0 w r h)
def Rd_takeUnit_103 (rc : Nat → Int → Wd → Option (Int × Wd)) (a0 : Nat) (x1 : Int) (w : Wd) : Option (Int × Wd) :=
  (fgI w a0 6 6).bind fun v104 =>
  if (v104 : Int) = 40 then
    if (x1 : Int) < 6 then
      (Rd_pass a0 w).bind fun r131 =>
      if (r131.1 : Int) = 0 then
        Rd_takeUnit_160 rc r131.2
      else
        (rc a0 (w32 (x1 + 1)) r131.2).bind fun r141 =>
        if (r141.1 : Int) = 0 then
          Rd_takeUnit_160 rc r141.2
        else
          (Rd_take a0 41 r141.2).bind fun r150 =>
          if (r150.1 : Int) = 0 then
            Rd_takeUnit_160 rc r150.2
          else
            Rd_takeUnit_161 rc 1 r150.2
    else
      (Rd_refuse a0 2 w).bind fun r126 =>
      rZ r126.1 r126.2
  else
    (Rd_refuse a0 1 w).bind fun r114 =>
    rZ r114.1 r114.2
theorem s_Rd_takeUnit_103 {g : Gp} {l : Launch} {D e : Nat} (hD : e + 3 ≤ D) (rc : Nat → Int → Wd → Option (Int × Wd)) (hrc : ∀ (a : Nat) (z : Int) (w : Wd) (r : Int × Wd), rc a z w = some r → (wsh w a).1 = 6 ∧ ∀ D, e ≤ D → Rn g l D 73 0 [(0, .inr (.inr a)), (1, .inl z)] [] w (some (.inl r.1)) r.2) (a0 : Nat) (x1 : Int) (w : Wd) (r : Int × Wd) (h : Rd_takeUnit_103 rc a0 x1 w = some r) : Rn g l D 75 103 [(0, .inr (.inr a0)), (1, .inl x1)] [] w (some (.inl r.1)) r.2 := by
  obtain ⟨D, rfl⟩ : ∃ D1, D = D1 + 1 := ⟨D - 1, by omega⟩
  unfold Rd_takeUnit_103 at h
  refine fr_aload_n i75_103 rfl ?_
  obtain ⟨v104, h104, h⟩ := Option.bind_eq_some_iff.mp h
  refine fr_gI (k := 6) i75_104 tf6_6 h104 ?_
  refine rn_bipush i75_107 ?_
  by_cases c109 : (v104 : Int) = 40
  · rw [if_pos c109] at h
    refine rn_icmp_eq_t i75_109 c109 ?_
    refine rn_iload_n i75_118 rfl ?_
    refine rn_bipush i75_119 ?_
    by_cases c121 : (x1 : Int) < 6
    · rw [if_pos c121] at h
      refine rn_icmp_lt_t i75_121 c121 ?_
      refine fr_aload_n i75_130 rfl ?_
      obtain ⟨r131, h131, h⟩ := Option.bind_eq_some_iff.mp h
      obtain ⟨g131, c131⟩ := S_Rd_pass a0 w r131 h131
      refine fr_callV (a := a0) (As := []) (st := []) i75_131 (cq59 a0) rfl (Nat.le_of_ble_eq_true rfl) g131 (c131 _ (by omega)) ?_
      show Rn _ _ _ _ _ _ [.inl r131.1] _ _ _
      by_cases c134 : (r131.1 : Int) = 0
      · rw [if_pos c134] at h
        refine rn_if_eq_t i75_134 c134 ?_
        exact rn_sub [] rfl (s_Rd_takeUnit_160 hD rc hrc r131.2 r h)
      · rw [if_neg c134] at h
        refine rn_if_eq_f i75_134 c134 ?_
        refine fr_aload_n i75_137 rfl ?_
        refine rn_iload_n i75_138 rfl ?_
        refine rn_iconst i75_139 ?_
        refine rn_iadd i75_140 ?_
        obtain ⟨r141, h141, h⟩ := Option.bind_eq_some_iff.mp h
        obtain ⟨g141, c141⟩ := hrc a0 (w32 (x1 + 1)) r131.2 r141 h141
        refine fr_callV (a := a0) (As := [.inl (w32 (x1 + 1))]) (st := []) i75_141 (cq73 a0 (w32 (x1 + 1))) rfl (Nat.le_of_ble_eq_true rfl) g141 (c141 _ (by omega)) ?_
        show Rn _ _ _ _ _ _ [.inl r141.1] _ _ _
        by_cases c144 : (r141.1 : Int) = 0
        · rw [if_pos c144] at h
          refine rn_if_eq_t i75_144 c144 ?_
          exact rn_sub [] rfl (s_Rd_takeUnit_160 hD rc hrc r141.2 r h)
        · rw [if_neg c144] at h
          refine rn_if_eq_f i75_144 c144 ?_
          refine fr_aload_n i75_147 rfl ?_
          refine rn_bipush i75_148 ?_
          obtain ⟨r150, h150, h⟩ := Option.bind_eq_some_iff.mp h
          obtain ⟨g150, c150⟩ := S_Rd_take a0 41 r141.2 r150 h150
          refine fr_callV (a := a0) (As := [.inl 41]) (st := []) i75_150 (cq60 a0 41) rfl (Nat.le_of_ble_eq_true rfl) g150 (c150 _ (by omega)) ?_
          show Rn _ _ _ _ _ _ [.inl r150.1] _ _ _
          by_cases c153 : (r150.1 : Int) = 0
          · rw [if_pos c153] at h
            refine rn_if_eq_t i75_153 c153 ?_
            exact rn_sub [] rfl (s_Rd_takeUnit_160 hD rc hrc r150.2 r h)
          · rw [if_neg c153] at h
            refine rn_if_eq_f i75_153 c153 ?_
            refine rn_iconst i75_156 ?_
            refine rn_goto i75_157 ?_
            exact rn_sub [] rfl (s_Rd_takeUnit_161 hD rc hrc 1 r150.2 r h)
    · rw [if_neg c121] at h
      refine rn_icmp_lt_f i75_121 c121 ?_
      refine fr_aload_n i75_124 rfl ?_
      refine rn_iconst i75_125 ?_
      obtain ⟨r126, h126, h⟩ := Option.bind_eq_some_iff.mp h
      obtain ⟨g126, c126⟩ := S_Rd_refuse a0 2 w r126 h126
      refine fr_callV (a := a0) (As := [.inl 2]) (st := []) i75_126 (cq57 a0 2) rfl (Nat.le_of_ble_eq_true rfl) g126 (c126 _ (by omega)) ?_
      show Rn _ _ _ _ _ _ [.inl r126.1] _ _ _
      exact fr_retZ i75_129 mr75 h
  · rw [if_neg c109] at h
    refine rn_icmp_eq_f i75_109 c109 ?_
    refine fr_aload_n i75_112 rfl ?_
    refine rn_iconst i75_113 ?_
    obtain ⟨r114, h114, h⟩ := Option.bind_eq_some_iff.mp h
    obtain ⟨g114, c114⟩ := S_Rd_refuse a0 1 w r114 h114
    refine fr_callV (a := a0) (As := [.inl 1]) (st := []) i75_114 (cq57 a0 1) rfl (Nat.le_of_ble_eq_true rfl) g114 (c114 _ (by omega)) ?_
    show Rn _ _ _ _ _ _ [.inl r114.1] _ _ _
    exact fr_retZ i75_117 mr75 h
def Rd_takeUnit_0 (rc : Nat → Int → Wd → Option (Int × Wd)) (a0 : Nat) (x1 : Int) (w : Wd) : Option (Int × Wd) :=
  (fgI w a0 6 6).bind fun v1 =>
  if (v1 : Int) = 3 then
    (fgR w a0 6 1).bind fun v9 =>
    (fgR w v9 10 13).bind fun v12 =>
    (fgL w a0 6 7).bind fun v17 =>
    (Lw_put v12 1 (w32 v17) w).bind fun r21 =>
    (Rd_pass a0 r21).bind fun r25 =>
    rZ r25.1 r25.2
  else
    (fgI w a0 6 6).bind fun v30 =>
    if (v30 : Int) = 256 then
      (fgR w a0 6 1).bind fun v40 =>
      (fgR w v40 10 13).bind fun v43 =>
      (Lw_put v43 2 6 w).bind fun r49 =>
      (Rd_pass a0 r49).bind fun r53 =>
      rZ r53.1 r53.2
    else
      (fgI w a0 6 6).bind fun v58 =>
      if (v58 : Int) < 267 then
        Rd_takeUnit_103 rc a0 x1 w
      else
        (fgI w a0 6 6).bind fun v68 =>
        if (272 : Int) < v68 then
          Rd_takeUnit_103 rc a0 x1 w
        else
          (fgR w a0 6 1).bind fun v78 =>
          (fgR w v78 10 13).bind fun v81 =>
          (fgI w a0 6 6).bind fun v87 =>
          (Lw_put v81 2 (w32 ((w32 (0 + v87)) - 267)) w).bind fun r95 =>
          (Rd_pass a0 r95).bind fun r99 =>
          rZ r99.1 r99.2
theorem s_Rd_takeUnit_0 {g : Gp} {l : Launch} {D e : Nat} (hD : e + 3 ≤ D) (rc : Nat → Int → Wd → Option (Int × Wd)) (hrc : ∀ (a : Nat) (z : Int) (w : Wd) (r : Int × Wd), rc a z w = some r → (wsh w a).1 = 6 ∧ ∀ D, e ≤ D → Rn g l D 73 0 [(0, .inr (.inr a)), (1, .inl z)] [] w (some (.inl r.1)) r.2) (a0 : Nat) (x1 : Int) (w : Wd) (r : Int × Wd) (h : Rd_takeUnit_0 rc a0 x1 w = some r) : Rn g l D 75 0 [(0, .inr (.inr a0)), (1, .inl x1)] [] w (some (.inl r.1)) r.2 := by
  obtain ⟨D, rfl⟩ : ∃ D1, D = D1 + 1 := ⟨D - 1, by omega⟩
  unfold Rd_takeUnit_0 at h
  refine fr_aload_n i75_0 rfl ?_
  obtain ⟨v1, h1, h⟩ := Option.bind_eq_some_iff.mp h
  refine fr_gI (k := 6) i75_1 tf6_6 h1 ?_
  refine rn_iconst i75_4 ?_
  by_cases c5 : (v1 : Int) = 3
  · rw [if_pos c5] at h
    refine rn_icmp_ne_f i75_5 c5 ?_
    refine fr_aload_n i75_8 rfl ?_
    obtain ⟨v9, h9, h⟩ := Option.bind_eq_some_iff.mp h
    refine fr_gR (k := 1) i75_9 tf6_1 h9 ?_
    obtain ⟨v12, h12, h⟩ := Option.bind_eq_some_iff.mp h
    refine fr_gR (k := 13) i75_12 tf10_13 h12 ?_
    refine rn_iconst i75_15 ?_
    refine fr_aload_n i75_16 rfl ?_
    obtain ⟨v17, h17, h⟩ := Option.bind_eq_some_iff.mp h
    refine fr_gL (k := 7) i75_17 tf6_7 h17 ?_
    refine rn_l2i i75_20 ?_
    obtain ⟨r21, h21, h⟩ := Option.bind_eq_some_iff.mp h
    obtain ⟨g21, c21⟩ := S_Lw_put v12 1 (w32 v17) w r21 h21
    refine fr_callV (a := v12) (As := [.inl 1, .inl (w32 v17)]) (st := []) i75_21 (cq37 v12 1 (w32 v17)) rfl (Nat.le_of_ble_eq_true rfl) g21 (c21 _ (by omega)) ?_
    refine fr_aload_n i75_24 rfl ?_
    obtain ⟨r25, h25, h⟩ := Option.bind_eq_some_iff.mp h
    obtain ⟨g25, c25⟩ := S_Rd_pass a0 r21 r25 h25
    refine fr_callV (a := a0) (As := []) (st := []) i75_25 (cq59 a0) rfl (Nat.le_of_ble_eq_true rfl) g25 (c25 _ (by omega)) ?_
    show Rn _ _ _ _ _ _ [.inl r25.1] _ _ _
    exact fr_retZ i75_28 mr75 h
  · rw [if_neg c5] at h
    refine rn_icmp_ne_t i75_5 c5 ?_
    refine fr_aload_n i75_29 rfl ?_
    obtain ⟨v30, h30, h⟩ := Option.bind_eq_some_iff.mp h
    refine fr_gI (k := 6) i75_30 tf6_6 h30 ?_
    refine rn_sipush i75_33 ?_
    by_cases c36 : (v30 : Int) = 256
    · rw [if_pos c36] at h
      refine rn_icmp_ne_f i75_36 c36 ?_
      refine fr_aload_n i75_39 rfl ?_
      obtain ⟨v40, h40, h⟩ := Option.bind_eq_some_iff.mp h
      refine fr_gR (k := 1) i75_40 tf6_1 h40 ?_
      obtain ⟨v43, h43, h⟩ := Option.bind_eq_some_iff.mp h
      refine fr_gR (k := 13) i75_43 tf10_13 h43 ?_
      refine rn_iconst i75_46 ?_
      refine rn_bipush i75_47 ?_
      obtain ⟨r49, h49, h⟩ := Option.bind_eq_some_iff.mp h
      obtain ⟨g49, c49⟩ := S_Lw_put v43 2 6 w r49 h49
      refine fr_callV (a := v43) (As := [.inl 2, .inl 6]) (st := []) i75_49 (cq37 v43 2 6) rfl (Nat.le_of_ble_eq_true rfl) g49 (c49 _ (by omega)) ?_
      refine fr_aload_n i75_52 rfl ?_
      obtain ⟨r53, h53, h⟩ := Option.bind_eq_some_iff.mp h
      obtain ⟨g53, c53⟩ := S_Rd_pass a0 r49 r53 h53
      refine fr_callV (a := a0) (As := []) (st := []) i75_53 (cq59 a0) rfl (Nat.le_of_ble_eq_true rfl) g53 (c53 _ (by omega)) ?_
      show Rn _ _ _ _ _ _ [.inl r53.1] _ _ _
      exact fr_retZ i75_56 mr75 h
    · rw [if_neg c36] at h
      refine rn_icmp_ne_t i75_36 c36 ?_
      refine fr_aload_n i75_57 rfl ?_
      obtain ⟨v58, h58, h⟩ := Option.bind_eq_some_iff.mp h
      refine fr_gI (k := 6) i75_58 tf6_6 h58 ?_
      refine rn_sipush i75_61 ?_
      by_cases c64 : (v58 : Int) < 267
      · rw [if_pos c64] at h
        refine rn_icmp_lt_t i75_64 c64 ?_
        exact rn_sub [0, 1] rfl (s_Rd_takeUnit_103 hD rc hrc a0 x1 w r h)
      · rw [if_neg c64] at h
        refine rn_icmp_lt_f i75_64 c64 ?_
        refine fr_aload_n i75_67 rfl ?_
        obtain ⟨v68, h68, h⟩ := Option.bind_eq_some_iff.mp h
        refine fr_gI (k := 6) i75_68 tf6_6 h68 ?_
        refine rn_sipush i75_71 ?_
        by_cases c74 : (272 : Int) < v68
        · rw [if_pos c74] at h
          refine rn_icmp_gt_t i75_74 c74 ?_
          exact rn_sub [0, 1] rfl (s_Rd_takeUnit_103 hD rc hrc a0 x1 w r h)
        · rw [if_neg c74] at h
          refine rn_icmp_gt_f i75_74 c74 ?_
          refine fr_aload_n i75_77 rfl ?_
          obtain ⟨v78, h78, h⟩ := Option.bind_eq_some_iff.mp h
          refine fr_gR (k := 1) i75_78 tf6_1 h78 ?_
          obtain ⟨v81, h81, h⟩ := Option.bind_eq_some_iff.mp h
          refine fr_gR (k := 13) i75_81 tf10_13 h81 ?_
          refine rn_iconst i75_84 ?_
          refine rn_iconst i75_85 ?_
          refine fr_aload_n i75_86 rfl ?_
          obtain ⟨v87, h87, h⟩ := Option.bind_eq_some_iff.mp h
          refine fr_gI (k := 6) i75_87 tf6_6 h87 ?_
          refine rn_iadd i75_90 ?_
          refine rn_sipush i75_91 ?_
          refine rn_isub i75_94 ?_
          obtain ⟨r95, h95, h⟩ := Option.bind_eq_some_iff.mp h
          obtain ⟨g95, c95⟩ := S_Lw_put v81 2 (w32 ((w32 (0 + v87)) - 267)) w r95 h95
          refine fr_callV (a := v81) (As := [.inl 2, .inl (w32 ((w32 (0 + v87)) - 267))]) (st := []) i75_95 (cq37 v81 2 (w32 ((w32 (0 + v87)) - 267))) rfl (Nat.le_of_ble_eq_true rfl) g95 (c95 _ (by omega)) ?_
          refine fr_aload_n i75_98 rfl ?_
          obtain ⟨r99, h99, h⟩ := Option.bind_eq_some_iff.mp h
          obtain ⟨g99, c99⟩ := S_Rd_pass a0 r95 r99 h99
          refine fr_callV (a := a0) (As := []) (st := []) i75_99 (cq59 a0) rfl (Nat.le_of_ble_eq_true rfl) g99 (c99 _ (by omega)) ?_
          show Rn _ _ _ _ _ _ [.inl r99.1] _ _ _
          exact fr_retZ i75_102 mr75 h
/-- HandHeirs$Reader.takeUnit(I)Z -/
def Rd_takeUnit (rc : Nat → Int → Wd → Option (Int × Wd)) (a0 : Nat) (x1 : Int) (w : Wd) : Option (Int × Wd) := gd 6 w a0 (Rd_takeUnit_0 rc a0 x1 w)
theorem S_Rd_takeUnit {g : Gp} {l : Launch} {e : Nat} (rc : Nat → Int → Wd → Option (Int × Wd)) (hrc : ∀ (a : Nat) (z : Int) (w : Wd) (r : Int × Wd), rc a z w = some r → (wsh w a).1 = 6 ∧ ∀ D, e ≤ D → Rn g l D 73 0 [(0, .inr (.inr a)), (1, .inl z)] [] w (some (.inl r.1)) r.2) (a0 : Nat) (x1 : Int) (w : Wd) (r : Int × Wd) (h : Rd_takeUnit rc a0 x1 w = some r) : (wsh w a0).1 = 6 ∧ ∀ D, e + 3 ≤ D → Rn g l D 75 0 [(0, .inr (.inr a0)), (1, .inl x1)] [] w (some (.inl r.1)) r.2 := by
  obtain ⟨hg, h⟩ := gd_some h
  exact ⟨hg, fun D hD => rn_sub [0, 1] rfl (s_Rd_takeUnit_0 hD rc hrc a0 x1 w r h)⟩
def Rd_takeProduct_57 (rc : Nat → Int → Wd → Option (Int × Wd)) (w : Wd) : Option (Int × Wd) :=
  some (0, w)
theorem s_Rd_takeProduct_57 {g : Gp} {l : Launch} {D e : Nat} (hD : e + 4 ≤ D) (rc : Nat → Int → Wd → Option (Int × Wd)) (hrc : ∀ (a : Nat) (z : Int) (w : Wd) (r : Int × Wd), rc a z w = some r → (wsh w a).1 = 6 ∧ ∀ D, e ≤ D → Rn g l D 73 0 [(0, .inr (.inr a)), (1, .inl z)] [] w (some (.inl r.1)) r.2) (w : Wd) (r : Int × Wd) (h : Rd_takeProduct_57 rc w = some r) : Rn g l D 74 57 [] [] w (some (.inl r.1)) r.2 := by
  unfold Rd_takeProduct_57 at h
  refine rn_iconst i74_57 ?_
  obtain rfl := Option.some.inj h
  exact rn_retZ i74_58 mr74 (by decide)
def Rd_takeProduct_37 (rc : Nat → Int → Wd → Option (Int × Wd)) (k12 : Nat → Int → Int → Wd → Option (Int × Wd)) (a0 : Nat) (x1 : Int) (x2 : Int) (w : Wd) : Option (Int × Wd) :=
  (fgI w a0 6 6).bind fun v38 =>
  (Rd_pass a0 w).bind fun r43 =>
  if (r43.1 : Int) = 0 then
    Rd_takeProduct_57 rc r43.2
  else
    (Rd_takeUnit rc a0 x1 r43.2).bind fun r51 =>
    if (r51.1 : Int) = 0 then
      Rd_takeProduct_57 rc r51.2
    else
      (fgR r51.2 a0 6 1).bind fun v60 =>
      (fgR r51.2 v60 10 13).bind fun v63 =>
      (Lw_put v63 v38 0 r51.2).bind fun r68 =>
      k12 a0 x1 (w32 (x2 + 1)) r68
theorem s_Rd_takeProduct_37 {g : Gp} {l : Launch} {D e : Nat} (hD : e + 4 ≤ D) (rc : Nat → Int → Wd → Option (Int × Wd)) (hrc : ∀ (a : Nat) (z : Int) (w : Wd) (r : Int × Wd), rc a z w = some r → (wsh w a).1 = 6 ∧ ∀ D, e ≤ D → Rn g l D 73 0 [(0, .inr (.inr a)), (1, .inl z)] [] w (some (.inl r.1)) r.2) (k12 : Nat → Int → Int → Wd → Option (Int × Wd)) (hk12 : ∀ (a0 : Nat) (x1 : Int) (x2 : Int) (w : Wd) (r : Int × Wd), k12 a0 x1 x2 w = some r → Rn g l D 74 12 [(0, .inr (.inr a0)), (1, .inl x1), (2, .inl x2)] [] w (some (.inl r.1)) r.2) (a0 : Nat) (x1 : Int) (x2 : Int) (w : Wd) (r : Int × Wd) (h : Rd_takeProduct_37 rc k12 a0 x1 x2 w = some r) : Rn g l D 74 37 [(0, .inr (.inr a0)), (1, .inl x1), (2, .inl x2)] [] w (some (.inl r.1)) r.2 := by
  obtain ⟨D, rfl⟩ : ∃ D1, D = D1 + 1 := ⟨D - 1, by omega⟩
  unfold Rd_takeProduct_37 at h
  refine fr_aload_n i74_37 rfl ?_
  obtain ⟨v38, h38, h⟩ := Option.bind_eq_some_iff.mp h
  refine fr_gI (k := 6) i74_38 tf6_6 h38 ?_
  refine rn_istore_n (ls1 := [(3, .inl v38), (0, .inr (.inr a0)), (1, .inl x1), (2, .inl x2)]) i74_41 rfl ?_
  refine fr_aload_n i74_42 rfl ?_
  obtain ⟨r43, h43, h⟩ := Option.bind_eq_some_iff.mp h
  obtain ⟨g43, c43⟩ := S_Rd_pass a0 w r43 h43
  refine fr_callV (a := a0) (As := []) (st := []) i74_43 (cq59 a0) rfl (Nat.le_of_ble_eq_true rfl) g43 (c43 _ (by omega)) ?_
  show Rn _ _ _ _ _ _ [.inl r43.1] _ _ _
  by_cases c46 : (r43.1 : Int) = 0
  · rw [if_pos c46] at h
    refine rn_if_eq_t i74_46 c46 ?_
    exact rn_sub [] rfl (s_Rd_takeProduct_57 hD rc hrc r43.2 r h)
  · rw [if_neg c46] at h
    refine rn_if_eq_f i74_46 c46 ?_
    refine fr_aload_n i74_49 rfl ?_
    refine rn_iload_n i74_50 rfl ?_
    obtain ⟨r51, h51, h⟩ := Option.bind_eq_some_iff.mp h
    obtain ⟨g51, c51⟩ := S_Rd_takeUnit (e := e) rc hrc a0 x1 r43.2 r51 h51
    refine fr_callV (a := a0) (As := [.inl x1]) (st := []) i74_51 (cq75 a0 x1) rfl (Nat.le_of_ble_eq_true rfl) g51 (c51 _ (by omega)) ?_
    show Rn _ _ _ _ _ _ [.inl r51.1] _ _ _
    by_cases c54 : (r51.1 : Int) = 0
    · rw [if_pos c54] at h
      refine rn_if_ne_f i74_54 c54 ?_
      exact rn_sub [] rfl (s_Rd_takeProduct_57 hD rc hrc r51.2 r h)
    · rw [if_neg c54] at h
      refine rn_if_ne_t i74_54 c54 ?_
      refine fr_aload_n i74_59 rfl ?_
      obtain ⟨v60, h60, h⟩ := Option.bind_eq_some_iff.mp h
      refine fr_gR (k := 1) i74_60 tf6_1 h60 ?_
      obtain ⟨v63, h63, h⟩ := Option.bind_eq_some_iff.mp h
      refine fr_gR (k := 13) i74_63 tf10_13 h63 ?_
      refine rn_iload_n i74_66 rfl ?_
      refine rn_iconst i74_67 ?_
      obtain ⟨r68, h68, h⟩ := Option.bind_eq_some_iff.mp h
      obtain ⟨g68, c68⟩ := S_Lw_put v63 v38 0 r51.2 r68 h68
      refine fr_callV (a := v63) (As := [.inl v38, .inl 0]) (st := []) i74_68 (cq37 v63 v38 0) rfl (Nat.le_of_ble_eq_true rfl) g68 (c68 _ (by omega)) ?_
      refine rn_iinc (ls1 := [(2, .inl (w32 (x2 + 1))), (3, .inl v38), (0, .inr (.inr a0)), (1, .inl x1)]) i74_71 rfl rfl ?_
      refine rn_goto i74_74 ?_
      exact rn_sub [2, 3, 0] rfl (hk12 a0 x1 (w32 (x2 + 1)) r68 r h)
def Rd_takeProduct_77 (rc : Nat → Int → Wd → Option (Int × Wd)) (w : Wd) : Option (Int × Wd) :=
  some (1, w)
theorem s_Rd_takeProduct_77 {g : Gp} {l : Launch} {D e : Nat} (hD : e + 4 ≤ D) (rc : Nat → Int → Wd → Option (Int × Wd)) (hrc : ∀ (a : Nat) (z : Int) (w : Wd) (r : Int × Wd), rc a z w = some r → (wsh w a).1 = 6 ∧ ∀ D, e ≤ D → Rn g l D 73 0 [(0, .inr (.inr a)), (1, .inl z)] [] w (some (.inl r.1)) r.2) (w : Wd) (r : Int × Wd) (h : Rd_takeProduct_77 rc w = some r) : Rn g l D 74 77 [] [] w (some (.inl r.1)) r.2 := by
  unfold Rd_takeProduct_77 at h
  refine rn_iconst i74_77 ?_
  obtain rfl := Option.some.inj h
  exact rn_retZ i74_78 mr74 (by decide)
def Rd_takeProduct_12 (rc : Nat → Int → Wd → Option (Int × Wd)) : Nat → Nat → Int → Int → Wd → Option (Int × Wd)
  | 0, _, _, _, _ => none
  | n + 1, a0, x1, x2, w =>
    if (400 : Int) < x2 then
      Rd_takeProduct_77 rc w
    else
      (fgI w a0 6 6).bind fun v20 =>
      if (v20 : Int) = 42 then
        Rd_takeProduct_37 rc (Rd_takeProduct_12 rc n) a0 x1 x2 w
      else
        (fgI w a0 6 6).bind fun v29 =>
        if (v29 : Int) = 47 then
          Rd_takeProduct_37 rc (Rd_takeProduct_12 rc n) a0 x1 x2 w
        else
          Rd_takeProduct_77 rc w
theorem s_Rd_takeProduct_12 {g : Gp} {l : Launch} {D e : Nat} (hD : e + 4 ≤ D) (rc : Nat → Int → Wd → Option (Int × Wd)) (hrc : ∀ (a : Nat) (z : Int) (w : Wd) (r : Int × Wd), rc a z w = some r → (wsh w a).1 = 6 ∧ ∀ D, e ≤ D → Rn g l D 73 0 [(0, .inr (.inr a)), (1, .inl z)] [] w (some (.inl r.1)) r.2) : ∀ (n : Nat) (a0 : Nat) (x1 : Int) (x2 : Int) (w : Wd) (r : Int × Wd), Rd_takeProduct_12 rc n a0 x1 x2 w = some r → Rn g l D 74 12 [(0, .inr (.inr a0)), (1, .inl x1), (2, .inl x2)] [] w (some (.inl r.1)) r.2 := by
  intro n
  induction n with
  | zero => intro a0 x1 x2 w r h; cases (show (none : Option (Int × Wd)) = some r from h)
  | succ n ih =>
    intro a0 x1 x2 w r h
    unfold Rd_takeProduct_12 at h
    refine rn_iload_n i74_12 rfl ?_
    refine rn_sipush i74_13 ?_
    by_cases c16 : (400 : Int) < x2
    · rw [if_pos c16] at h
      refine rn_icmp_gt_t i74_16 c16 ?_
      exact rn_sub [] rfl (s_Rd_takeProduct_77 hD rc hrc w r h)
    · rw [if_neg c16] at h
      refine rn_icmp_gt_f i74_16 c16 ?_
      refine fr_aload_n i74_19 rfl ?_
      obtain ⟨v20, h20, h⟩ := Option.bind_eq_some_iff.mp h
      refine fr_gI (k := 6) i74_20 tf6_6 h20 ?_
      refine rn_bipush i74_23 ?_
      by_cases c25 : (v20 : Int) = 42
      · rw [if_pos c25] at h
        refine rn_icmp_eq_t i74_25 c25 ?_
        exact rn_sub [0, 1, 2] rfl (s_Rd_takeProduct_37 hD rc hrc (Rd_takeProduct_12 rc n) ih a0 x1 x2 w r h)
      · rw [if_neg c25] at h
        refine rn_icmp_eq_f i74_25 c25 ?_
        refine fr_aload_n i74_28 rfl ?_
        obtain ⟨v29, h29, h⟩ := Option.bind_eq_some_iff.mp h
        refine fr_gI (k := 6) i74_29 tf6_6 h29 ?_
        refine rn_bipush i74_32 ?_
        by_cases c34 : (v29 : Int) = 47
        · rw [if_pos c34] at h
          refine rn_icmp_ne_f i74_34 c34 ?_
          exact rn_sub [0, 1, 2] rfl (s_Rd_takeProduct_37 hD rc hrc (Rd_takeProduct_12 rc n) ih a0 x1 x2 w r h)
        · rw [if_neg c34] at h
          refine rn_icmp_ne_t i74_34 c34 ?_
          exact rn_sub [] rfl (s_Rd_takeProduct_77 hD rc hrc w r h)
def Rd_takeProduct_0 (rc : Nat → Int → Wd → Option (Int × Wd)) (a0 : Nat) (x1 : Int) (w : Wd) : Option (Int × Wd) :=
  (Rd_takeUnit rc a0 x1 w).bind fun r2 =>
  if (r2.1 : Int) = 0 then
    some (0, r2.2)
  else
    Rd_takeProduct_12 rc FU a0 x1 0 r2.2
theorem s_Rd_takeProduct_0 {g : Gp} {l : Launch} {D e : Nat} (hD : e + 4 ≤ D) (rc : Nat → Int → Wd → Option (Int × Wd)) (hrc : ∀ (a : Nat) (z : Int) (w : Wd) (r : Int × Wd), rc a z w = some r → (wsh w a).1 = 6 ∧ ∀ D, e ≤ D → Rn g l D 73 0 [(0, .inr (.inr a)), (1, .inl z)] [] w (some (.inl r.1)) r.2) (a0 : Nat) (x1 : Int) (w : Wd) (r : Int × Wd) (h : Rd_takeProduct_0 rc a0 x1 w = some r) : Rn g l D 74 0 [(0, .inr (.inr a0)), (1, .inl x1)] [] w (some (.inl r.1)) r.2 := by
  obtain ⟨D, rfl⟩ : ∃ D1, D = D1 + 1 := ⟨D - 1, by omega⟩
  unfold Rd_takeProduct_0 at h
  refine fr_aload_n i74_0 rfl ?_
  refine rn_iload_n i74_1 rfl ?_
  obtain ⟨r2, h2, h⟩ := Option.bind_eq_some_iff.mp h
  obtain ⟨g2, c2⟩ := S_Rd_takeUnit (e := e) rc hrc a0 x1 w r2 h2
  refine fr_callV (a := a0) (As := [.inl x1]) (st := []) i74_2 (cq75 a0 x1) rfl (Nat.le_of_ble_eq_true rfl) g2 (c2 _ (by omega)) ?_
  show Rn _ _ _ _ _ _ [.inl r2.1] _ _ _
  by_cases c5 : (r2.1 : Int) = 0
  · rw [if_pos c5] at h
    refine rn_if_ne_f i74_5 c5 ?_
    refine rn_iconst i74_8 ?_
    obtain rfl := Option.some.inj h
    exact rn_retZ i74_9 mr74 (by decide)
  · rw [if_neg c5] at h
    refine rn_if_ne_t i74_5 c5 ?_
    refine rn_iconst i74_10 ?_
    refine rn_istore_n (ls1 := [(2, .inl 0), (0, .inr (.inr a0)), (1, .inl x1)]) i74_11 rfl ?_
    exact rn_sub [1, 2, 0] rfl (s_Rd_takeProduct_12 hD rc hrc FU a0 x1 0 r2.2 r h)
/-- HandHeirs$Reader.takeProduct(I)Z -/
def Rd_takeProduct (rc : Nat → Int → Wd → Option (Int × Wd)) (a0 : Nat) (x1 : Int) (w : Wd) : Option (Int × Wd) := gd 6 w a0 (Rd_takeProduct_0 rc a0 x1 w)
theorem S_Rd_takeProduct {g : Gp} {l : Launch} {e : Nat} (rc : Nat → Int → Wd → Option (Int × Wd)) (hrc : ∀ (a : Nat) (z : Int) (w : Wd) (r : Int × Wd), rc a z w = some r → (wsh w a).1 = 6 ∧ ∀ D, e ≤ D → Rn g l D 73 0 [(0, .inr (.inr a)), (1, .inl z)] [] w (some (.inl r.1)) r.2) (a0 : Nat) (x1 : Int) (w : Wd) (r : Int × Wd) (h : Rd_takeProduct rc a0 x1 w = some r) : (wsh w a0).1 = 6 ∧ ∀ D, e + 4 ≤ D → Rn g l D 74 0 [(0, .inr (.inr a0)), (1, .inl x1)] [] w (some (.inl r.1)) r.2 := by
  obtain ⟨hg, h⟩ := gd_some h
  exact ⟨hg, fun D hD => rn_sub [0, 1] rfl (s_Rd_takeProduct_0 hD rc hrc a0 x1 w r h)⟩
def Rd_takeSum_57 (rc : Nat → Int → Wd → Option (Int × Wd)) (w : Wd) : Option (Int × Wd) :=
  some (0, w)
theorem s_Rd_takeSum_57 {g : Gp} {l : Launch} {D e : Nat} (hD : e + 5 ≤ D) (rc : Nat → Int → Wd → Option (Int × Wd)) (hrc : ∀ (a : Nat) (z : Int) (w : Wd) (r : Int × Wd), rc a z w = some r → (wsh w a).1 = 6 ∧ ∀ D, e ≤ D → Rn g l D 73 0 [(0, .inr (.inr a)), (1, .inl z)] [] w (some (.inl r.1)) r.2) (w : Wd) (r : Int × Wd) (h : Rd_takeSum_57 rc w = some r) : Rn g l D 73 57 [] [] w (some (.inl r.1)) r.2 := by
  unfold Rd_takeSum_57 at h
  refine rn_iconst i73_57 ?_
  obtain rfl := Option.some.inj h
  exact rn_retZ i73_58 mr73 (by decide)
def Rd_takeSum_37 (rc : Nat → Int → Wd → Option (Int × Wd)) (k12 : Nat → Int → Int → Wd → Option (Int × Wd)) (a0 : Nat) (x1 : Int) (x2 : Int) (w : Wd) : Option (Int × Wd) :=
  (fgI w a0 6 6).bind fun v38 =>
  (Rd_pass a0 w).bind fun r43 =>
  if (r43.1 : Int) = 0 then
    Rd_takeSum_57 rc r43.2
  else
    (Rd_takeProduct rc a0 x1 r43.2).bind fun r51 =>
    if (r51.1 : Int) = 0 then
      Rd_takeSum_57 rc r51.2
    else
      (fgR r51.2 a0 6 1).bind fun v60 =>
      (fgR r51.2 v60 10 13).bind fun v63 =>
      (Lw_put v63 v38 0 r51.2).bind fun r68 =>
      k12 a0 x1 (w32 (x2 + 1)) r68
theorem s_Rd_takeSum_37 {g : Gp} {l : Launch} {D e : Nat} (hD : e + 5 ≤ D) (rc : Nat → Int → Wd → Option (Int × Wd)) (hrc : ∀ (a : Nat) (z : Int) (w : Wd) (r : Int × Wd), rc a z w = some r → (wsh w a).1 = 6 ∧ ∀ D, e ≤ D → Rn g l D 73 0 [(0, .inr (.inr a)), (1, .inl z)] [] w (some (.inl r.1)) r.2) (k12 : Nat → Int → Int → Wd → Option (Int × Wd)) (hk12 : ∀ (a0 : Nat) (x1 : Int) (x2 : Int) (w : Wd) (r : Int × Wd), k12 a0 x1 x2 w = some r → Rn g l D 73 12 [(0, .inr (.inr a0)), (1, .inl x1), (2, .inl x2)] [] w (some (.inl r.1)) r.2) (a0 : Nat) (x1 : Int) (x2 : Int) (w : Wd) (r : Int × Wd) (h : Rd_takeSum_37 rc k12 a0 x1 x2 w = some r) : Rn g l D 73 37 [(0, .inr (.inr a0)), (1, .inl x1), (2, .inl x2)] [] w (some (.inl r.1)) r.2 := by
  obtain ⟨D, rfl⟩ : ∃ D1, D = D1 + 1 := ⟨D - 1, by omega⟩
  unfold Rd_takeSum_37 at h
  refine fr_aload_n i73_37 rfl ?_
  obtain ⟨v38, h38, h⟩ := Option.bind_eq_some_iff.mp h
  refine fr_gI (k := 6) i73_38 tf6_6 h38 ?_
  refine rn_istore_n (ls1 := [(3, .inl v38), (0, .inr (.inr a0)), (1, .inl x1), (2, .inl x2)]) i73_41 rfl ?_
  refine fr_aload_n i73_42 rfl ?_
  obtain ⟨r43, h43, h⟩ := Option.bind_eq_some_iff.mp h
  obtain ⟨g43, c43⟩ := S_Rd_pass a0 w r43 h43
  refine fr_callV (a := a0) (As := []) (st := []) i73_43 (cq59 a0) rfl (Nat.le_of_ble_eq_true rfl) g43 (c43 _ (by omega)) ?_
  show Rn _ _ _ _ _ _ [.inl r43.1] _ _ _
  by_cases c46 : (r43.1 : Int) = 0
  · rw [if_pos c46] at h
    refine rn_if_eq_t i73_46 c46 ?_
    exact rn_sub [] rfl (s_Rd_takeSum_57 hD rc hrc r43.2 r h)
  · rw [if_neg c46] at h
    refine rn_if_eq_f i73_46 c46 ?_
    refine fr_aload_n i73_49 rfl ?_
    refine rn_iload_n i73_50 rfl ?_
    obtain ⟨r51, h51, h⟩ := Option.bind_eq_some_iff.mp h
    obtain ⟨g51, c51⟩ := S_Rd_takeProduct (e := e) rc hrc a0 x1 r43.2 r51 h51
    refine fr_callV (a := a0) (As := [.inl x1]) (st := []) i73_51 (cq74 a0 x1) rfl (Nat.le_of_ble_eq_true rfl) g51 (c51 _ (by omega)) ?_
    show Rn _ _ _ _ _ _ [.inl r51.1] _ _ _
    by_cases c54 : (r51.1 : Int) = 0
    · rw [if_pos c54] at h
      refine rn_if_ne_f i73_54 c54 ?_
      exact rn_sub [] rfl (s_Rd_takeSum_57 hD rc hrc r51.2 r h)
    · rw [if_neg c54] at h
      refine rn_if_ne_t i73_54 c54 ?_
      refine fr_aload_n i73_59 rfl ?_
      obtain ⟨v60, h60, h⟩ := Option.bind_eq_some_iff.mp h
      refine fr_gR (k := 1) i73_60 tf6_1 h60 ?_
      obtain ⟨v63, h63, h⟩ := Option.bind_eq_some_iff.mp h
      refine fr_gR (k := 13) i73_63 tf10_13 h63 ?_
      refine rn_iload_n i73_66 rfl ?_
      refine rn_iconst i73_67 ?_
      obtain ⟨r68, h68, h⟩ := Option.bind_eq_some_iff.mp h
      obtain ⟨g68, c68⟩ := S_Lw_put v63 v38 0 r51.2 r68 h68
      refine fr_callV (a := v63) (As := [.inl v38, .inl 0]) (st := []) i73_68 (cq37 v63 v38 0) rfl (Nat.le_of_ble_eq_true rfl) g68 (c68 _ (by omega)) ?_
      refine rn_iinc (ls1 := [(2, .inl (w32 (x2 + 1))), (3, .inl v38), (0, .inr (.inr a0)), (1, .inl x1)]) i73_71 rfl rfl ?_
      refine rn_goto i73_74 ?_
      exact rn_sub [2, 3, 0] rfl (hk12 a0 x1 (w32 (x2 + 1)) r68 r h)
def Rd_takeSum_77 (rc : Nat → Int → Wd → Option (Int × Wd)) (w : Wd) : Option (Int × Wd) :=
  some (1, w)
theorem s_Rd_takeSum_77 {g : Gp} {l : Launch} {D e : Nat} (hD : e + 5 ≤ D) (rc : Nat → Int → Wd → Option (Int × Wd)) (hrc : ∀ (a : Nat) (z : Int) (w : Wd) (r : Int × Wd), rc a z w = some r → (wsh w a).1 = 6 ∧ ∀ D, e ≤ D → Rn g l D 73 0 [(0, .inr (.inr a)), (1, .inl z)] [] w (some (.inl r.1)) r.2) (w : Wd) (r : Int × Wd) (h : Rd_takeSum_77 rc w = some r) : Rn g l D 73 77 [] [] w (some (.inl r.1)) r.2 := by
  unfold Rd_takeSum_77 at h
  refine rn_iconst i73_77 ?_
  obtain rfl := Option.some.inj h
  exact rn_retZ i73_78 mr73 (by decide)
def Rd_takeSum_12 (rc : Nat → Int → Wd → Option (Int × Wd)) : Nat → Nat → Int → Int → Wd → Option (Int × Wd)
  | 0, _, _, _, _ => none
  | n + 1, a0, x1, x2, w =>
    if (400 : Int) < x2 then
      Rd_takeSum_77 rc w
    else
      (fgI w a0 6 6).bind fun v20 =>
      if (v20 : Int) = 43 then
        Rd_takeSum_37 rc (Rd_takeSum_12 rc n) a0 x1 x2 w
      else
        (fgI w a0 6 6).bind fun v29 =>
        if (v29 : Int) = 45 then
          Rd_takeSum_37 rc (Rd_takeSum_12 rc n) a0 x1 x2 w
        else
          Rd_takeSum_77 rc w
theorem s_Rd_takeSum_12 {g : Gp} {l : Launch} {D e : Nat} (hD : e + 5 ≤ D) (rc : Nat → Int → Wd → Option (Int × Wd)) (hrc : ∀ (a : Nat) (z : Int) (w : Wd) (r : Int × Wd), rc a z w = some r → (wsh w a).1 = 6 ∧ ∀ D, e ≤ D → Rn g l D 73 0 [(0, .inr (.inr a)), (1, .inl z)] [] w (some (.inl r.1)) r.2) : ∀ (n : Nat) (a0 : Nat) (x1 : Int) (x2 : Int) (w : Wd) (r : Int × Wd), Rd_takeSum_12 rc n a0 x1 x2 w = some r → Rn g l D 73 12 [(0, .inr (.inr a0)), (1, .inl x1), (2, .inl x2)] [] w (some (.inl r.1)) r.2 := by
  intro n
  induction n with
  | zero => intro a0 x1 x2 w r h; cases (show (none : Option (Int × Wd)) = some r from h)
  | succ n ih =>
    intro a0 x1 x2 w r h
    unfold Rd_takeSum_12 at h
    refine rn_iload_n i73_12 rfl ?_
    refine rn_sipush i73_13 ?_
    by_cases c16 : (400 : Int) < x2
    · rw [if_pos c16] at h
      refine rn_icmp_gt_t i73_16 c16 ?_
      exact rn_sub [] rfl (s_Rd_takeSum_77 hD rc hrc w r h)
    · rw [if_neg c16] at h
      refine rn_icmp_gt_f i73_16 c16 ?_
      refine fr_aload_n i73_19 rfl ?_
      obtain ⟨v20, h20, h⟩ := Option.bind_eq_some_iff.mp h
      refine fr_gI (k := 6) i73_20 tf6_6 h20 ?_
      refine rn_bipush i73_23 ?_
      by_cases c25 : (v20 : Int) = 43
      · rw [if_pos c25] at h
        refine rn_icmp_eq_t i73_25 c25 ?_
        exact rn_sub [0, 1, 2] rfl (s_Rd_takeSum_37 hD rc hrc (Rd_takeSum_12 rc n) ih a0 x1 x2 w r h)
      · rw [if_neg c25] at h
        refine rn_icmp_eq_f i73_25 c25 ?_
        refine fr_aload_n i73_28 rfl ?_
        obtain ⟨v29, h29, h⟩ := Option.bind_eq_some_iff.mp h
        refine fr_gI (k := 6) i73_29 tf6_6 h29 ?_
        refine rn_bipush i73_32 ?_
        by_cases c34 : (v29 : Int) = 45
        · rw [if_pos c34] at h
          refine rn_icmp_ne_f i73_34 c34 ?_
          exact rn_sub [0, 1, 2] rfl (s_Rd_takeSum_37 hD rc hrc (Rd_takeSum_12 rc n) ih a0 x1 x2 w r h)
        · rw [if_neg c34] at h
          refine rn_icmp_ne_t i73_34 c34 ?_
          exact rn_sub [] rfl (s_Rd_takeSum_77 hD rc hrc w r h)
def Rd_takeSum_0 (rc : Nat → Int → Wd → Option (Int × Wd)) (a0 : Nat) (x1 : Int) (w : Wd) : Option (Int × Wd) :=
  (Rd_takeProduct rc a0 x1 w).bind fun r2 =>
  if (r2.1 : Int) = 0 then
    some (0, r2.2)
  else
    Rd_takeSum_12 rc FU a0 x1 0 r2.2
theorem s_Rd_takeSum_0 {g : Gp} {l : Launch} {D e : Nat} (hD : e + 5 ≤ D) (rc : Nat → Int → Wd → Option (Int × Wd)) (hrc : ∀ (a : Nat) (z : Int) (w : Wd) (r : Int × Wd), rc a z w = some r → (wsh w a).1 = 6 ∧ ∀ D, e ≤ D → Rn g l D 73 0 [(0, .inr (.inr a)), (1, .inl z)] [] w (some (.inl r.1)) r.2) (a0 : Nat) (x1 : Int) (w : Wd) (r : Int × Wd) (h : Rd_takeSum_0 rc a0 x1 w = some r) : Rn g l D 73 0 [(0, .inr (.inr a0)), (1, .inl x1)] [] w (some (.inl r.1)) r.2 := by
  obtain ⟨D, rfl⟩ : ∃ D1, D = D1 + 1 := ⟨D - 1, by omega⟩
  unfold Rd_takeSum_0 at h
  refine fr_aload_n i73_0 rfl ?_
  refine rn_iload_n i73_1 rfl ?_
  obtain ⟨r2, h2, h⟩ := Option.bind_eq_some_iff.mp h
  obtain ⟨g2, c2⟩ := S_Rd_takeProduct (e := e) rc hrc a0 x1 w r2 h2
  refine fr_callV (a := a0) (As := [.inl x1]) (st := []) i73_2 (cq74 a0 x1) rfl (Nat.le_of_ble_eq_true rfl) g2 (c2 _ (by omega)) ?_
  show Rn _ _ _ _ _ _ [.inl r2.1] _ _ _
  by_cases c5 : (r2.1 : Int) = 0
  · rw [if_pos c5] at h
    refine rn_if_ne_f i73_5 c5 ?_
    refine rn_iconst i73_8 ?_
    obtain rfl := Option.some.inj h
    exact rn_retZ i73_9 mr73 (by decide)
  · rw [if_neg c5] at h
    refine rn_if_ne_t i73_5 c5 ?_
    refine rn_iconst i73_10 ?_
    refine rn_istore_n (ls1 := [(2, .inl 0), (0, .inr (.inr a0)), (1, .inl x1)]) i73_11 rfl ?_
    exact rn_sub [1, 2, 0] rfl (s_Rd_takeSum_12 hD rc hrc FU a0 x1 0 r2.2 r h)
/-- HandHeirs$Reader.takeSum(I)Z -/
def G_Rd_takeSum (rc : Nat → Int → Wd → Option (Int × Wd)) (a0 : Nat) (x1 : Int) (w : Wd) : Option (Int × Wd) := gd 6 w a0 (Rd_takeSum_0 rc a0 x1 w)
theorem T_Rd_takeSum {g : Gp} {l : Launch} {e : Nat} (rc : Nat → Int → Wd → Option (Int × Wd)) (hrc : ∀ (a : Nat) (z : Int) (w : Wd) (r : Int × Wd), rc a z w = some r → (wsh w a).1 = 6 ∧ ∀ D, e ≤ D → Rn g l D 73 0 [(0, .inr (.inr a)), (1, .inl z)] [] w (some (.inl r.1)) r.2) (a0 : Nat) (x1 : Int) (w : Wd) (r : Int × Wd) (h : G_Rd_takeSum rc a0 x1 w = some r) : (wsh w a0).1 = 6 ∧ ∀ D, e + 5 ≤ D → Rn g l D 73 0 [(0, .inr (.inr a0)), (1, .inl x1)] [] w (some (.inl r.1)) r.2 := by
  obtain ⟨hg, h⟩ := gd_some h
  exact ⟨hg, fun D hD => rn_sub [0, 1] rfl (s_Rd_takeSum_0 hD rc hrc a0 x1 w r h)⟩
def Rd_takeSum : Nat → Nat → Int → Wd → Option (Int × Wd)
  | 0, _, _, _ => none
  | n + 1, a0, x1, w => G_Rd_takeSum (Rd_takeSum n) a0 x1 w
theorem S_Rd_takeSum {g : Gp} {l : Launch} : ∀ (n a0 : Nat) (x1 : Int) (w : Wd) (r : Int × Wd), Rd_takeSum n a0 x1 w = some r → (wsh w a0).1 = 6 ∧ ∀ D, 5 * n ≤ D → Rn g l D 73 0 [(0, .inr (.inr a0)), (1, .inl x1)] [] w (some (.inl r.1)) r.2 := by
  intro n
  induction n with
  | zero => intro a0 x1 w r h; cases (show (none : Option (Int × Wd)) = some r from h)
  | succ n ih =>
    intro a0 x1 w r h
    obtain ⟨h1, h2⟩ := T_Rd_takeSum (e := 5 * n) (Rd_takeSum n) ih a0 x1 w r h
    exact ⟨h1, fun D hD => h2 D (by omega)⟩
def Rd_takeLaw_49 (a0 : Nat) (w : Wd) : Option (Int × Wd) :=
  (Rd_refuse a0 2 w).bind fun r51 =>
  rZ r51.1 r51.2
theorem s_Rd_takeLaw_49 {g : Gp} {l : Launch} {D : Nat} (hD : 101 ≤ D) (a0 : Nat) (w : Wd) (r : Int × Wd) (h : Rd_takeLaw_49 a0 w = some r) : Rn g l D 72 49 [(0, .inr (.inr a0))] [] w (some (.inl r.1)) r.2 := by
  obtain ⟨D, rfl⟩ : ∃ D1, D = D1 + 1 := ⟨D - 1, by omega⟩
  unfold Rd_takeLaw_49 at h
  refine fr_aload_n i72_49 rfl ?_
  refine rn_iconst i72_50 ?_
  obtain ⟨r51, h51, h⟩ := Option.bind_eq_some_iff.mp h
  obtain ⟨g51, c51⟩ := S_Rd_refuse a0 2 w r51 h51
  refine fr_callV (a := a0) (As := [.inl 2]) (st := []) i72_51 (cq57 a0 2) rfl (Nat.le_of_ble_eq_true rfl) g51 (c51 _ (by omega)) ?_
  show Rn _ _ _ _ _ _ [.inl r51.1] _ _ _
  exact fr_retZ i72_54 mr72 h
def Rd_takeLaw_97 (w : Wd) : Option (Int × Wd) :=
  some (0, w)
theorem s_Rd_takeLaw_97 {g : Gp} {l : Launch} {D : Nat} (hD : 101 ≤ D) (w : Wd) (r : Int × Wd) (h : Rd_takeLaw_97 w = some r) : Rn g l D 72 97 [] [] w (some (.inl r.1)) r.2 := by
  unfold Rd_takeLaw_97 at h
  refine rn_iconst i72_97 ?_
  obtain rfl := Option.some.inj h
  exact rn_retZ i72_98 mr72 (by decide)
def Rd_takeLaw_128 (w : Wd) : Option (Int × Wd) :=
  some (0, w)
theorem s_Rd_takeLaw_128 {g : Gp} {l : Launch} {D : Nat} (hD : 101 ≤ D) (w : Wd) (r : Int × Wd) (h : Rd_takeLaw_128 w = some r) : Rn g l D 72 128 [] [] w (some (.inl r.1)) r.2 := by
  unfold Rd_takeLaw_128 at h
  refine rn_iconst i72_128 ?_
  obtain rfl := Option.some.inj h
  exact rn_retZ i72_129 mr72 (by decide)
def Rd_takeLaw_147 (a0 : Nat) (a1 : Nat) (w : Wd) : Option (Int × Wd) :=
  (Rd_takeSum 20 a0 0 w).bind fun r149 =>
  if (r149.1 : Int) = 0 then
    some (0, r149.2)
  else
    (Lw_put a1 4 0 r149.2).bind fun r160 =>
    some (1, r160)
theorem s_Rd_takeLaw_147 {g : Gp} {l : Launch} {D : Nat} (hD : 101 ≤ D) (a0 : Nat) (a1 : Nat) (w : Wd) (r : Int × Wd) (h : Rd_takeLaw_147 a0 a1 w = some r) : Rn g l D 72 147 [(0, .inr (.inr a0)), (1, .inr (.inr a1))] [] w (some (.inl r.1)) r.2 := by
  obtain ⟨D, rfl⟩ : ∃ D1, D = D1 + 1 := ⟨D - 1, by omega⟩
  unfold Rd_takeLaw_147 at h
  refine fr_aload_n i72_147 rfl ?_
  refine rn_iconst i72_148 ?_
  obtain ⟨r149, h149, h⟩ := Option.bind_eq_some_iff.mp h
  obtain ⟨g149, c149⟩ := S_Rd_takeSum 20 a0 0 w r149 h149
  refine fr_callV (a := a0) (As := [.inl 0]) (st := []) i72_149 (cq73 a0 0) rfl (Nat.le_of_ble_eq_true rfl) g149 (c149 _ (by omega)) ?_
  show Rn _ _ _ _ _ _ [.inl r149.1] _ _ _
  by_cases c152 : (r149.1 : Int) = 0
  · rw [if_pos c152] at h
    refine rn_if_ne_f i72_152 c152 ?_
    refine rn_iconst i72_155 ?_
    obtain rfl := Option.some.inj h
    exact rn_retZ i72_156 mr72 (by decide)
  · rw [if_neg c152] at h
    refine rn_if_ne_t i72_152 c152 ?_
    refine fr_aload_n i72_157 rfl ?_
    refine rn_iconst i72_158 ?_
    refine rn_iconst i72_159 ?_
    obtain ⟨r160, h160, h⟩ := Option.bind_eq_some_iff.mp h
    obtain ⟨g160, c160⟩ := S_Lw_put a1 4 0 r149.2 r160 h160
    refine fr_callV (a := a1) (As := [.inl 4, .inl 0]) (st := []) i72_160 (cq37 a1 4 0) rfl (Nat.le_of_ble_eq_true rfl) g160 (c160 _ (by omega)) ?_
    refine rn_iconst i72_163 ?_
    obtain rfl := Option.some.inj h
    exact rn_retZ i72_164 mr72 (by decide)
def Rd_takeLaw_29 : Nat → Nat → Nat → Int → Wd → Option (Int × Wd)
  | 0, _, _, _, _ => none
  | n + 1, a0, a1, x2, w =>
    if (4 : Int) < x2 then
      Rd_takeLaw_147 a0 a1 w
    else
      (fgI w a0 6 6).bind fun v35 =>
      if (v35 : Int) = 264 then
        if (x2 : Int) = 4 then
          Rd_takeLaw_49 a0 w
        else
          (Rd_pass a0 w).bind fun r56 =>
          if (r56.1 : Int) = 0 then
            Rd_takeLaw_97 r56.2
          else
            (Rd_takeSum 20 a0 0 r56.2).bind fun r64 =>
            if (r64.1 : Int) = 0 then
              Rd_takeLaw_97 r64.2
            else
              (Rd_take a0 60 r64.2).bind fun r73 =>
              if (r73.1 : Int) = 0 then
                Rd_takeLaw_97 r73.2
              else
                (Rd_takeSum 20 a0 0 r73.2).bind fun r81 =>
                if (r81.1 : Int) = 0 then
                  Rd_takeLaw_97 r81.2
                else
                  (Rd_take a0 265 r81.2).bind fun r91 =>
                  if (r91.1 : Int) = 0 then
                    Rd_takeLaw_97 r91.2
                  else
                    (fgI r91.2 a1 2 0).bind fun v100 =>
                    (Lw_put a1 3 0 r91.2).bind fun r107 =>
                    (Rd_takeSum 20 a0 0 r107).bind fun r112 =>
                    if (r112.1 : Int) = 0 then
                      Rd_takeLaw_128 r112.2
                    else
                      (Rd_take a0 266 r112.2).bind fun r122 =>
                      if (r122.1 : Int) = 0 then
                        Rd_takeLaw_128 r122.2
                      else
                        (Lw_put a1 4 0 r122.2).bind fun r133 =>
                        (Lw_leadHere a1 v100 r133).bind fun r138 =>
                        Rd_takeLaw_29 n a0 a1 (w32 (x2 + 1)) r138
      else
        Rd_takeLaw_147 a0 a1 w
theorem s_Rd_takeLaw_29 {g : Gp} {l : Launch} {D : Nat} (hD : 101 ≤ D) : ∀ (n : Nat) (a0 : Nat) (a1 : Nat) (x2 : Int) (w : Wd) (r : Int × Wd), Rd_takeLaw_29 n a0 a1 x2 w = some r → Rn g l D 72 29 [(0, .inr (.inr a0)), (1, .inr (.inr a1)), (2, .inl x2)] [] w (some (.inl r.1)) r.2 := by
  obtain ⟨D, rfl⟩ : ∃ D1, D = D1 + 1 := ⟨D - 1, by omega⟩
  intro n
  induction n with
  | zero => intro a0 a1 x2 w r h; cases (show (none : Option (Int × Wd)) = some r from h)
  | succ n ih =>
    intro a0 a1 x2 w r h
    unfold Rd_takeLaw_29 at h
    refine rn_iload_n i72_29 rfl ?_
    refine rn_iconst i72_30 ?_
    by_cases c31 : (4 : Int) < x2
    · rw [if_pos c31] at h
      refine rn_icmp_gt_t i72_31 c31 ?_
      exact rn_sub [0, 1] rfl (s_Rd_takeLaw_147 hD a0 a1 w r h)
    · rw [if_neg c31] at h
      refine rn_icmp_gt_f i72_31 c31 ?_
      refine fr_aload_n i72_34 rfl ?_
      obtain ⟨v35, h35, h⟩ := Option.bind_eq_some_iff.mp h
      refine fr_gI (k := 6) i72_35 tf6_6 h35 ?_
      refine rn_sipush i72_38 ?_
      by_cases c41 : (v35 : Int) = 264
      · rw [if_pos c41] at h
        refine rn_icmp_ne_f i72_41 c41 ?_
        refine rn_iload_n i72_44 rfl ?_
        refine rn_iconst i72_45 ?_
        by_cases c46 : (x2 : Int) = 4
        · rw [if_pos c46] at h
          refine rn_icmp_ne_f i72_46 c46 ?_
          exact rn_sub [0] rfl (s_Rd_takeLaw_49 hD a0 w r h)
        · rw [if_neg c46] at h
          refine rn_icmp_ne_t i72_46 c46 ?_
          refine fr_aload_n i72_55 rfl ?_
          obtain ⟨r56, h56, h⟩ := Option.bind_eq_some_iff.mp h
          obtain ⟨g56, c56⟩ := S_Rd_pass a0 w r56 h56
          refine fr_callV (a := a0) (As := []) (st := []) i72_56 (cq59 a0) rfl (Nat.le_of_ble_eq_true rfl) g56 (c56 _ (by omega)) ?_
          show Rn _ _ _ _ _ _ [.inl r56.1] _ _ _
          by_cases c59 : (r56.1 : Int) = 0
          · rw [if_pos c59] at h
            refine rn_if_eq_t i72_59 c59 ?_
            exact rn_sub [] rfl (s_Rd_takeLaw_97 hD r56.2 r h)
          · rw [if_neg c59] at h
            refine rn_if_eq_f i72_59 c59 ?_
            refine fr_aload_n i72_62 rfl ?_
            refine rn_iconst i72_63 ?_
            obtain ⟨r64, h64, h⟩ := Option.bind_eq_some_iff.mp h
            obtain ⟨g64, c64⟩ := S_Rd_takeSum 20 a0 0 r56.2 r64 h64
            refine fr_callV (a := a0) (As := [.inl 0]) (st := []) i72_64 (cq73 a0 0) rfl (Nat.le_of_ble_eq_true rfl) g64 (c64 _ (by omega)) ?_
            show Rn _ _ _ _ _ _ [.inl r64.1] _ _ _
            by_cases c67 : (r64.1 : Int) = 0
            · rw [if_pos c67] at h
              refine rn_if_eq_t i72_67 c67 ?_
              exact rn_sub [] rfl (s_Rd_takeLaw_97 hD r64.2 r h)
            · rw [if_neg c67] at h
              refine rn_if_eq_f i72_67 c67 ?_
              refine fr_aload_n i72_70 rfl ?_
              refine rn_bipush i72_71 ?_
              obtain ⟨r73, h73, h⟩ := Option.bind_eq_some_iff.mp h
              obtain ⟨g73, c73⟩ := S_Rd_take a0 60 r64.2 r73 h73
              refine fr_callV (a := a0) (As := [.inl 60]) (st := []) i72_73 (cq60 a0 60) rfl (Nat.le_of_ble_eq_true rfl) g73 (c73 _ (by omega)) ?_
              show Rn _ _ _ _ _ _ [.inl r73.1] _ _ _
              by_cases c76 : (r73.1 : Int) = 0
              · rw [if_pos c76] at h
                refine rn_if_eq_t i72_76 c76 ?_
                exact rn_sub [] rfl (s_Rd_takeLaw_97 hD r73.2 r h)
              · rw [if_neg c76] at h
                refine rn_if_eq_f i72_76 c76 ?_
                refine fr_aload_n i72_79 rfl ?_
                refine rn_iconst i72_80 ?_
                obtain ⟨r81, h81, h⟩ := Option.bind_eq_some_iff.mp h
                obtain ⟨g81, c81⟩ := S_Rd_takeSum 20 a0 0 r73.2 r81 h81
                refine fr_callV (a := a0) (As := [.inl 0]) (st := []) i72_81 (cq73 a0 0) rfl (Nat.le_of_ble_eq_true rfl) g81 (c81 _ (by omega)) ?_
                show Rn _ _ _ _ _ _ [.inl r81.1] _ _ _
                by_cases c84 : (r81.1 : Int) = 0
                · rw [if_pos c84] at h
                  refine rn_if_eq_t i72_84 c84 ?_
                  exact rn_sub [] rfl (s_Rd_takeLaw_97 hD r81.2 r h)
                · rw [if_neg c84] at h
                  refine rn_if_eq_f i72_84 c84 ?_
                  refine fr_aload_n i72_87 rfl ?_
                  refine rn_sipush i72_88 ?_
                  obtain ⟨r91, h91, h⟩ := Option.bind_eq_some_iff.mp h
                  obtain ⟨g91, c91⟩ := S_Rd_take a0 265 r81.2 r91 h91
                  refine fr_callV (a := a0) (As := [.inl 265]) (st := []) i72_91 (cq60 a0 265) rfl (Nat.le_of_ble_eq_true rfl) g91 (c91 _ (by omega)) ?_
                  show Rn _ _ _ _ _ _ [.inl r91.1] _ _ _
                  by_cases c94 : (r91.1 : Int) = 0
                  · rw [if_pos c94] at h
                    refine rn_if_ne_f i72_94 c94 ?_
                    exact rn_sub [] rfl (s_Rd_takeLaw_97 hD r91.2 r h)
                  · rw [if_neg c94] at h
                    refine rn_if_ne_t i72_94 c94 ?_
                    refine fr_aload_n i72_99 rfl ?_
                    obtain ⟨v100, h100, h⟩ := Option.bind_eq_some_iff.mp h
                    refine fr_gI (k := 0) i72_100 tf2_0 h100 ?_
                    refine rn_istore_n (ls1 := [(3, .inl v100), (0, .inr (.inr a0)), (1, .inr (.inr a1)), (2, .inl x2)]) i72_103 rfl ?_
                    refine fr_aload_n i72_104 rfl ?_
                    refine rn_iconst i72_105 ?_
                    refine rn_iconst i72_106 ?_
                    obtain ⟨r107, h107, h⟩ := Option.bind_eq_some_iff.mp h
                    obtain ⟨g107, c107⟩ := S_Lw_put a1 3 0 r91.2 r107 h107
                    refine fr_callV (a := a1) (As := [.inl 3, .inl 0]) (st := []) i72_107 (cq37 a1 3 0) rfl (Nat.le_of_ble_eq_true rfl) g107 (c107 _ (by omega)) ?_
                    refine fr_aload_n i72_110 rfl ?_
                    refine rn_iconst i72_111 ?_
                    obtain ⟨r112, h112, h⟩ := Option.bind_eq_some_iff.mp h
                    obtain ⟨g112, c112⟩ := S_Rd_takeSum 20 a0 0 r107 r112 h112
                    refine fr_callV (a := a0) (As := [.inl 0]) (st := []) i72_112 (cq73 a0 0) rfl (Nat.le_of_ble_eq_true rfl) g112 (c112 _ (by omega)) ?_
                    show Rn _ _ _ _ _ _ [.inl r112.1] _ _ _
                    by_cases c115 : (r112.1 : Int) = 0
                    · rw [if_pos c115] at h
                      refine rn_if_eq_t i72_115 c115 ?_
                      exact rn_sub [] rfl (s_Rd_takeLaw_128 hD r112.2 r h)
                    · rw [if_neg c115] at h
                      refine rn_if_eq_f i72_115 c115 ?_
                      refine fr_aload_n i72_118 rfl ?_
                      refine rn_sipush i72_119 ?_
                      obtain ⟨r122, h122, h⟩ := Option.bind_eq_some_iff.mp h
                      obtain ⟨g122, c122⟩ := S_Rd_take a0 266 r112.2 r122 h122
                      refine fr_callV (a := a0) (As := [.inl 266]) (st := []) i72_122 (cq60 a0 266) rfl (Nat.le_of_ble_eq_true rfl) g122 (c122 _ (by omega)) ?_
                      show Rn _ _ _ _ _ _ [.inl r122.1] _ _ _
                      by_cases c125 : (r122.1 : Int) = 0
                      · rw [if_pos c125] at h
                        refine rn_if_ne_f i72_125 c125 ?_
                        exact rn_sub [] rfl (s_Rd_takeLaw_128 hD r122.2 r h)
                      · rw [if_neg c125] at h
                        refine rn_if_ne_t i72_125 c125 ?_
                        refine fr_aload_n i72_130 rfl ?_
                        refine rn_iconst i72_131 ?_
                        refine rn_iconst i72_132 ?_
                        obtain ⟨r133, h133, h⟩ := Option.bind_eq_some_iff.mp h
                        obtain ⟨g133, c133⟩ := S_Lw_put a1 4 0 r122.2 r133 h133
                        refine fr_callV (a := a1) (As := [.inl 4, .inl 0]) (st := []) i72_133 (cq37 a1 4 0) rfl (Nat.le_of_ble_eq_true rfl) g133 (c133 _ (by omega)) ?_
                        refine fr_aload_n i72_136 rfl ?_
                        refine rn_iload_n i72_137 rfl ?_
                        obtain ⟨r138, h138, h⟩ := Option.bind_eq_some_iff.mp h
                        obtain ⟨g138, c138⟩ := S_Lw_leadHere a1 v100 r133 r138 h138
                        refine fr_callV (a := a1) (As := [.inl v100]) (st := []) i72_138 (cq38 a1 v100) rfl (Nat.le_of_ble_eq_true rfl) g138 (c138 _ (by omega)) ?_
                        refine rn_iinc (ls1 := [(2, .inl (w32 (x2 + 1))), (3, .inl v100), (0, .inr (.inr a0)), (1, .inr (.inr a1))]) i72_141 rfl rfl ?_
                        refine rn_goto i72_144 ?_
                        exact rn_sub [2, 3, 0] rfl (ih a0 a1 (w32 (x2 + 1)) r138 r h)
      · rw [if_neg c41] at h
        refine rn_icmp_ne_t i72_41 c41 ?_
        exact rn_sub [0, 1] rfl (s_Rd_takeLaw_147 hD a0 a1 w r h)
def Rd_takeLaw_0 (a0 : Nat) (w : Wd) : Option (Int × Wd) :=
  (fgR w a0 6 1).bind fun v1 =>
  (fgR w v1 10 13).bind fun v4 =>
  (fgI w v4 2 0).bind fun v10 =>
  (fpI w a0 6 9 v10).bind fun w13 =>
  (Rd_take a0 61 w13).bind fun r19 =>
  if (r19.1 : Int) = 0 then
    some (0, r19.2)
  else
    Rd_takeLaw_29 FU a0 v4 0 r19.2
theorem s_Rd_takeLaw_0 {g : Gp} {l : Launch} {D : Nat} (hD : 101 ≤ D) (a0 : Nat) (w : Wd) (r : Int × Wd) (h : Rd_takeLaw_0 a0 w = some r) : Rn g l D 72 0 [(0, .inr (.inr a0))] [] w (some (.inl r.1)) r.2 := by
  obtain ⟨D, rfl⟩ : ∃ D1, D = D1 + 1 := ⟨D - 1, by omega⟩
  unfold Rd_takeLaw_0 at h
  refine fr_aload_n i72_0 rfl ?_
  obtain ⟨v1, h1, h⟩ := Option.bind_eq_some_iff.mp h
  refine fr_gR (k := 1) i72_1 tf6_1 h1 ?_
  obtain ⟨v4, h4, h⟩ := Option.bind_eq_some_iff.mp h
  refine fr_gR (k := 13) i72_4 tf10_13 h4 ?_
  refine fr_astore_n (ls1 := [(1, .inr (.inr v4)), (0, .inr (.inr a0))]) i72_7 rfl ?_
  refine fr_aload_n i72_8 rfl ?_
  refine fr_aload_n i72_9 rfl ?_
  obtain ⟨v10, h10, h⟩ := Option.bind_eq_some_iff.mp h
  refine fr_gI (k := 0) i72_10 tf2_0 h10 ?_
  obtain ⟨w13, h13, h⟩ := Option.bind_eq_some_iff.mp h
  refine fr_pI (k := 9) i72_13 (pf6_9 72) h13 ?_
  refine fr_aload_n i72_16 rfl ?_
  refine rn_bipush i72_17 ?_
  obtain ⟨r19, h19, h⟩ := Option.bind_eq_some_iff.mp h
  obtain ⟨g19, c19⟩ := S_Rd_take a0 61 w13 r19 h19
  refine fr_callV (a := a0) (As := [.inl 61]) (st := []) i72_19 (cq60 a0 61) rfl (Nat.le_of_ble_eq_true rfl) g19 (c19 _ (by omega)) ?_
  show Rn _ _ _ _ _ _ [.inl r19.1] _ _ _
  by_cases c22 : (r19.1 : Int) = 0
  · rw [if_pos c22] at h
    refine rn_if_ne_f i72_22 c22 ?_
    refine rn_iconst i72_25 ?_
    obtain rfl := Option.some.inj h
    exact rn_retZ i72_26 mr72 (by decide)
  · rw [if_neg c22] at h
    refine rn_if_ne_t i72_22 c22 ?_
    refine rn_iconst i72_27 ?_
    refine rn_istore_n (ls1 := [(2, .inl 0), (1, .inr (.inr v4)), (0, .inr (.inr a0))]) i72_28 rfl ?_
    exact rn_sub [2, 1, 0] rfl (s_Rd_takeLaw_29 hD FU a0 v4 0 r19.2 r h)
/-- HandHeirs$Reader.takeLaw()Z -/
def Rd_takeLaw (a0 : Nat) (w : Wd) : Option (Int × Wd) := gd 6 w a0 (Rd_takeLaw_0 a0 w)
theorem S_Rd_takeLaw {g : Gp} {l : Launch} (a0 : Nat) (w : Wd) (r : Int × Wd) (h : Rd_takeLaw a0 w = some r) : (wsh w a0).1 = 6 ∧ ∀ D, 101 ≤ D → Rn g l D 72 0 [(0, .inr (.inr a0))] [] w (some (.inl r.1)) r.2 := by
  obtain ⟨hg, h⟩ := gd_some h
  exact ⟨hg, fun D hD => rn_sub [0] rfl (s_Rd_takeLaw_0 hD a0 w r h)⟩
