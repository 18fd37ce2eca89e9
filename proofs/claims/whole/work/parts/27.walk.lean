theorem i198_0 : ins 198 0 = some (.aload_n 0, 1, 0, 0) := by decide +kernel
theorem i198_1 : ins 198 1 = some (.iload_n 3, 2, 0, 0) := by decide +kernel
theorem i198_2 : ins 198 2 = some (.aload_n 0, 3, 0, 0) := by decide +kernel
theorem i198_3 : ins 198 3 = some (.getfield 116, 6, 12, 50) := by decide +kernel
theorem i198_6 : ins 198 6 = some (.iload_n 2, 7, 0, 0) := by decide +kernel
theorem i198_7 : ins 198 7 = some (.iaload, 8, 0, 0) := by decide +kernel
theorem i198_8 : ins 198 8 = some (.invokestatic 346, 11, 193, 0) := by decide +kernel
theorem i198_11 : ins 198 11 = some (.iload_n 2, 12, 0, 0) := by decide +kernel
theorem i198_12 : ins 198 12 = some (.aload_n 0, 13, 0, 0) := by decide +kernel
theorem i198_13 : ins 198 13 = some (.getfield 116, 16, 12, 50) := by decide +kernel
theorem i198_16 : ins 198 16 = some (.bipush (44), 18, 0, 44) := by decide +kernel
theorem i198_18 : ins 198 18 = some (.iaload, 19, 0, 0) := by decide +kernel
theorem i198_19 : ins 198 19 = some (.iload_n 3, 20, 0, 0) := by decide +kernel
theorem i198_20 : ins 198 20 = some (.aload_n 0, 21, 0, 0) := by decide +kernel
theorem i198_21 : ins 198 21 = some (.getfield 116, 24, 12, 50) := by decide +kernel
theorem i198_24 : ins 198 24 = some (.iload_n 2, 25, 0, 0) := by decide +kernel
theorem i198_25 : ins 198 25 = some (.iaload, 26, 0, 0) := by decide +kernel
theorem i198_26 : ins 198 26 = some (.iconst (0), 27, 0, 0) := by decide +kernel
theorem i198_27 : ins 198 27 = some (.invokevirtual 349, 30, 197, 0) := by decide +kernel
theorem i198_30 : ins 198 30 = some (.aload_n 0, 31, 0, 0) := by decide +kernel
theorem i198_31 : ins 198 31 = some (.iload_n 1, 32, 0, 0) := by decide +kernel
theorem i198_32 : ins 198 32 = some (.invokevirtual 353, 35, 196, 0) := by decide +kernel
theorem i198_35 : ins 198 35 = some (.istore 4, 37, 0, 0) := by decide +kernel
theorem i198_37 : ins 198 37 = some (.iload 4, 39, 0, 0) := by decide +kernel
theorem i198_39 : ins 198 39 = some (.ifCond .ge (7), 42, 46, 0) := by decide +kernel
theorem i198_42 : ins 198 42 = some (.iconst (0), 43, 0, 0) := by decide +kernel
theorem i198_43 : ins 198 43 = some (.goto (19), 46, 62, 0) := by decide +kernel
theorem i198_46 : ins 198 46 = some (.iload 4, 48, 0, 0) := by decide +kernel
theorem i198_48 : ins 198 48 = some (.sipush (999), 51, 0, 999) := by decide +kernel
theorem i198_51 : ins 198 51 = some (.if_icmp .le (9), 54, 60, 0) := by decide +kernel
theorem i198_54 : ins 198 54 = some (.sipush (999), 57, 0, 999) := by decide +kernel
theorem i198_57 : ins 198 57 = some (.goto (5), 60, 62, 0) := by decide +kernel
theorem i198_60 : ins 198 60 = some (.iload 4, 62, 0, 0) := by decide +kernel
theorem i198_62 : ins 198 62 = some (.ireturn, 63, 0, 0) := by decide +kernel
theorem i199_0 : ins 199 0 = some (.iconst (0), 1, 0, 0) := by decide +kernel
theorem i199_1 : ins 199 1 = some (.istore_n 3, 2, 0, 0) := by decide +kernel
theorem i199_2 : ins 199 2 = some (.iconst (0), 3, 0, 0) := by decide +kernel
theorem i199_3 : ins 199 3 = some (.istore 4, 5, 0, 0) := by decide +kernel
theorem i199_5 : ins 199 5 = some (.iload 4, 7, 0, 0) := by decide +kernel
theorem i199_7 : ins 199 7 = some (.aload_n 0, 8, 0, 0) := by decide +kernel
theorem i199_8 : ins 199 8 = some (.getfield 46, 11, 12, 23) := by decide +kernel
theorem i199_11 : ins 199 11 = some (.aload_n 0, 12, 0, 0) := by decide +kernel
theorem i199_12 : ins 199 12 = some (.getfield 228, 15, 12, 18) := by decide +kernel
theorem i199_15 : ins 199 15 = some (.iaload, 16, 0, 0) := by decide +kernel
theorem i199_16 : ins 199 16 = some (.if_icmp .ge (26), 19, 42, 0) := by decide +kernel
theorem i199_19 : ins 199 19 = some (.iload_n 3, 20, 0, 0) := by decide +kernel
theorem i199_20 : ins 199 20 = some (.aload_n 0, 21, 0, 0) := by decide +kernel
theorem i199_21 : ins 199 21 = some (.iload_n 2, 22, 0, 0) := by decide +kernel
theorem i199_22 : ins 199 22 = some (.iload 4, 24, 0, 0) := by decide +kernel
theorem i199_24 : ins 199 24 = some (.aload_n 0, 25, 0, 0) := by decide +kernel
theorem i199_25 : ins 199 25 = some (.iload_n 1, 26, 0, 0) := by decide +kernel
theorem i199_26 : ins 199 26 = some (.iload 4, 28, 0, 0) := by decide +kernel
theorem i199_28 : ins 199 28 = some (.invokevirtual 356, 31, 195, 0) := by decide +kernel
theorem i199_31 : ins 199 31 = some (.invokevirtual 359, 34, 198, 0) := by decide +kernel
theorem i199_34 : ins 199 34 = some (.iadd, 35, 0, 0) := by decide +kernel
theorem i199_35 : ins 199 35 = some (.istore_n 3, 36, 0, 0) := by decide +kernel
theorem i199_36 : ins 199 36 = some (.iinc 4 (1), 39, 0, 1) := by decide +kernel
theorem i199_39 : ins 199 39 = some (.goto (-34), 42, 5, 0) := by decide +kernel
theorem i199_42 : ins 199 42 = some (.iload_n 3, 43, 0, 0) := by decide +kernel
theorem i199_43 : ins 199 43 = some (.ireturn, 44, 0, 0) := by decide +kernel
theorem i200_0 : ins 200 0 = some (.iconst (0), 1, 0, 0) := by decide +kernel
theorem i200_1 : ins 200 1 = some (.istore_n 2, 2, 0, 0) := by decide +kernel
theorem i200_2 : ins 200 2 = some (.iconst (0), 3, 0, 0) := by decide +kernel
theorem i200_3 : ins 200 3 = some (.istore_n 3, 4, 0, 0) := by decide +kernel
theorem i200_4 : ins 200 4 = some (.iload_n 3, 5, 0, 0) := by decide +kernel
theorem i200_5 : ins 200 5 = some (.aload_n 0, 6, 0, 0) := by decide +kernel
theorem i200_6 : ins 200 6 = some (.getfield 64, 9, 12, 29) := by decide +kernel
theorem i200_9 : ins 200 9 = some (.aload_n 0, 10, 0, 0) := by decide +kernel
theorem i200_10 : ins 200 10 = some (.getfield 228, 13, 12, 18) := by decide +kernel
theorem i200_13 : ins 200 13 = some (.iaload, 14, 0, 0) := by decide +kernel
theorem i200_14 : ins 200 14 = some (.if_icmp .ge (26), 17, 40, 0) := by decide +kernel
theorem i200_17 : ins 200 17 = some (.iload_n 3, 18, 0, 0) := by decide +kernel
theorem i200_18 : ins 200 18 = some (.aload_n 0, 19, 0, 0) := by decide +kernel
theorem i200_19 : ins 200 19 = some (.getfield 318, 22, 12, 52) := by decide +kernel
theorem i200_22 : ins 200 22 = some (.if_icmp .eq (12), 25, 34, 0) := by decide +kernel
theorem i200_25 : ins 200 25 = some (.iload_n 2, 26, 0, 0) := by decide +kernel
theorem i200_26 : ins 200 26 = some (.aload_n 0, 27, 0, 0) := by decide +kernel
theorem i200_27 : ins 200 27 = some (.iload_n 1, 28, 0, 0) := by decide +kernel
theorem i200_28 : ins 200 28 = some (.iload_n 3, 29, 0, 0) := by decide +kernel
theorem i200_29 : ins 200 29 = some (.invokevirtual 362, 32, 199, 0) := by decide +kernel
theorem i200_32 : ins 200 32 = some (.iadd, 33, 0, 0) := by decide +kernel
theorem i200_33 : ins 200 33 = some (.istore_n 2, 34, 0, 0) := by decide +kernel
theorem i200_34 : ins 200 34 = some (.iinc 3 (1), 37, 0, 1) := by decide +kernel
theorem i200_37 : ins 200 37 = some (.goto (-33), 40, 4, 0) := by decide +kernel
theorem i200_40 : ins 200 40 = some (.iload_n 2, 41, 0, 0) := by decide +kernel
theorem i200_41 : ins 200 41 = some (.ireturn, 42, 0, 0) := by decide +kernel
theorem i201_0 : ins 201 0 = some (.iconst (-1), 1, 0, -1) := by decide +kernel
theorem i201_1 : ins 201 1 = some (.istore_n 2, 2, 0, 0) := by decide +kernel
theorem i201_2 : ins 201 2 = some (.iconst (0), 3, 0, 0) := by decide +kernel
theorem i201_3 : ins 201 3 = some (.istore_n 3, 4, 0, 0) := by decide +kernel
theorem i201_4 : ins 201 4 = some (.iconst (0), 5, 0, 0) := by decide +kernel
theorem i201_5 : ins 201 5 = some (.istore 4, 7, 0, 0) := by decide +kernel
theorem i201_7 : ins 201 7 = some (.iload 4, 9, 0, 0) := by decide +kernel
theorem i201_9 : ins 201 9 = some (.aload_n 0, 10, 0, 0) := by decide +kernel
theorem i201_10 : ins 201 10 = some (.getfield 52, 13, 12, 25) := by decide +kernel
theorem i201_13 : ins 201 13 = some (.aload_n 0, 14, 0, 0) := by decide +kernel
theorem i201_14 : ins 201 14 = some (.getfield 228, 17, 12, 18) := by decide +kernel
theorem i201_17 : ins 201 17 = some (.iaload, 18, 0, 0) := by decide +kernel
theorem i201_18 : ins 201 18 = some (.if_icmp .ge (49), 21, 67, 0) := by decide +kernel
theorem i201_21 : ins 201 21 = some (.iload 4, 23, 0, 0) := by decide +kernel
theorem i201_23 : ins 201 23 = some (.aload_n 0, 24, 0, 0) := by decide +kernel
theorem i201_24 : ins 201 24 = some (.getfield 321, 27, 12, 53) := by decide +kernel
theorem i201_27 : ins 201 27 = some (.if_icmp .ne (6), 30, 33, 0) := by decide +kernel
theorem i201_30 : ins 201 30 = some (.goto (31), 33, 61, 0) := by decide +kernel
theorem i201_33 : ins 201 33 = some (.aload_n 0, 34, 0, 0) := by decide +kernel
theorem i201_34 : ins 201 34 = some (.iload 4, 36, 0, 0) := by decide +kernel
theorem i201_36 : ins 201 36 = some (.iload_n 1, 37, 0, 0) := by decide +kernel
theorem i201_37 : ins 201 37 = some (.invokevirtual 362, 40, 199, 0) := by decide +kernel
theorem i201_40 : ins 201 40 = some (.istore 5, 42, 0, 0) := by decide +kernel
theorem i201_42 : ins 201 42 = some (.iload_n 2, 43, 0, 0) := by decide +kernel
theorem i201_43 : ins 201 43 = some (.ifCond .lt (12), 46, 55, 0) := by decide +kernel
theorem i201_46 : ins 201 46 = some (.iload 5, 48, 0, 0) := by decide +kernel
theorem i201_48 : ins 201 48 = some (.iload_n 3, 49, 0, 0) := by decide +kernel
theorem i201_49 : ins 201 49 = some (.if_icmp .lt (6), 52, 55, 0) := by decide +kernel
theorem i201_52 : ins 201 52 = some (.goto (9), 55, 61, 0) := by decide +kernel
theorem i201_55 : ins 201 55 = some (.iload 4, 57, 0, 0) := by decide +kernel
theorem i201_57 : ins 201 57 = some (.istore_n 2, 58, 0, 0) := by decide +kernel
theorem i201_58 : ins 201 58 = some (.iload 5, 60, 0, 0) := by decide +kernel
theorem i201_60 : ins 201 60 = some (.istore_n 3, 61, 0, 0) := by decide +kernel
theorem i201_61 : ins 201 61 = some (.iinc 4 (1), 64, 0, 1) := by decide +kernel
theorem i201_64 : ins 201 64 = some (.goto (-57), 67, 7, 0) := by decide +kernel
theorem i201_67 : ins 201 67 = some (.iload_n 2, 68, 0, 0) := by decide +kernel
theorem i201_68 : ins 201 68 = some (.ireturn, 69, 0, 0) := by decide +kernel
theorem i202_0 : ins 202 0 = some (.iconst (0), 1, 0, 0) := by decide +kernel
theorem i202_1 : ins 202 1 = some (.istore_n 1, 2, 0, 0) := by decide +kernel
theorem i202_2 : ins 202 2 = some (.iload_n 1, 3, 0, 0) := by decide +kernel
theorem i202_3 : ins 202 3 = some (.bipush (6), 5, 0, 6) := by decide +kernel
theorem i202_5 : ins 202 5 = some (.if_icmp .ge (16), 8, 21, 0) := by decide +kernel
theorem i202_8 : ins 202 8 = some (.aload_n 0, 9, 0, 0) := by decide +kernel
theorem i202_9 : ins 202 9 = some (.getfield 119, 12, 12, 56) := by decide +kernel
theorem i202_12 : ins 202 12 = some (.iload_n 1, 13, 0, 0) := by decide +kernel
theorem i202_13 : ins 202 13 = some (.iconst (0), 14, 0, 0) := by decide +kernel
theorem i202_14 : ins 202 14 = some (.iastore, 15, 0, 0) := by decide +kernel
theorem i202_15 : ins 202 15 = some (.iinc 1 (1), 18, 0, 1) := by decide +kernel
theorem i202_18 : ins 202 18 = some (.goto (-16), 21, 2, 0) := by decide +kernel
theorem i202_21 : ins 202 21 = some (.iconst (0), 22, 0, 0) := by decide +kernel
theorem i202_22 : ins 202 22 = some (.istore_n 1, 23, 0, 0) := by decide +kernel
theorem i202_23 : ins 202 23 = some (.iconst (0), 24, 0, 0) := by decide +kernel
theorem i202_24 : ins 202 24 = some (.istore_n 2, 25, 0, 0) := by decide +kernel
theorem i202_25 : ins 202 25 = some (.iload_n 2, 26, 0, 0) := by decide +kernel
theorem i202_26 : ins 202 26 = some (.aload_n 0, 27, 0, 0) := by decide +kernel
theorem i202_27 : ins 202 27 = some (.getfield 64, 30, 12, 29) := by decide +kernel
theorem i202_30 : ins 202 30 = some (.aload_n 0, 31, 0, 0) := by decide +kernel
theorem i202_31 : ins 202 31 = some (.getfield 228, 34, 12, 18) := by decide +kernel
theorem i202_34 : ins 202 34 = some (.iaload, 35, 0, 0) := by decide +kernel
theorem i202_35 : ins 202 35 = some (.if_icmp .ge (65), 38, 100, 0) := by decide +kernel
theorem i202_38 : ins 202 38 = some (.aload_n 0, 39, 0, 0) := by decide +kernel
theorem i202_39 : ins 202 39 = some (.getfield 122, 42, 12, 57) := by decide +kernel
theorem i202_42 : ins 202 42 = some (.iload_n 2, 43, 0, 0) := by decide +kernel
theorem i202_43 : ins 202 43 = some (.iconst (-1), 44, 0, -1) := by decide +kernel
theorem i202_44 : ins 202 44 = some (.iastore, 45, 0, 0) := by decide +kernel
theorem i202_45 : ins 202 45 = some (.iload_n 2, 46, 0, 0) := by decide +kernel
theorem i202_46 : ins 202 46 = some (.aload_n 0, 47, 0, 0) := by decide +kernel
theorem i202_47 : ins 202 47 = some (.getfield 318, 50, 12, 52) := by decide +kernel
theorem i202_50 : ins 202 50 = some (.if_icmp .ne (6), 53, 56, 0) := by decide +kernel
theorem i202_53 : ins 202 53 = some (.goto (41), 56, 94, 0) := by decide +kernel
theorem i202_56 : ins 202 56 = some (.iinc 1 (1), 59, 0, 1) := by decide +kernel
theorem i202_59 : ins 202 59 = some (.aload_n 0, 60, 0, 0) := by decide +kernel
theorem i202_60 : ins 202 60 = some (.getfield 122, 63, 12, 57) := by decide +kernel
theorem i202_63 : ins 202 63 = some (.iload_n 2, 64, 0, 0) := by decide +kernel
theorem i202_64 : ins 202 64 = some (.aload_n 0, 65, 0, 0) := by decide +kernel
theorem i202_65 : ins 202 65 = some (.iload_n 2, 66, 0, 0) := by decide +kernel
theorem i202_66 : ins 202 66 = some (.invokevirtual 365, 69, 201, 0) := by decide +kernel
theorem i202_69 : ins 202 69 = some (.iastore, 70, 0, 0) := by decide +kernel
theorem i202_70 : ins 202 70 = some (.aload_n 0, 71, 0, 0) := by decide +kernel
theorem i202_71 : ins 202 71 = some (.getfield 122, 74, 12, 57) := by decide +kernel
theorem i202_74 : ins 202 74 = some (.iload_n 2, 75, 0, 0) := by decide +kernel
theorem i202_75 : ins 202 75 = some (.iaload, 76, 0, 0) := by decide +kernel
theorem i202_76 : ins 202 76 = some (.ifCond .lt (18), 79, 94, 0) := by decide +kernel
theorem i202_79 : ins 202 79 = some (.aload_n 0, 80, 0, 0) := by decide +kernel
theorem i202_80 : ins 202 80 = some (.getfield 119, 83, 12, 56) := by decide +kernel
theorem i202_83 : ins 202 83 = some (.aload_n 0, 84, 0, 0) := by decide +kernel
theorem i202_84 : ins 202 84 = some (.getfield 122, 87, 12, 57) := by decide +kernel
theorem i202_87 : ins 202 87 = some (.iload_n 2, 88, 0, 0) := by decide +kernel
theorem i202_88 : ins 202 88 = some (.iaload, 89, 0, 0) := by decide +kernel
theorem i202_89 : ins 202 89 = some (.dup2, 90, 0, 0) := by decide +kernel
theorem i202_90 : ins 202 90 = some (.iaload, 91, 0, 0) := by decide +kernel
theorem i202_91 : ins 202 91 = some (.iconst (1), 92, 0, 1) := by decide +kernel
theorem i202_92 : ins 202 92 = some (.iadd, 93, 0, 0) := by decide +kernel
theorem i202_93 : ins 202 93 = some (.iastore, 94, 0, 0) := by decide +kernel
theorem i202_94 : ins 202 94 = some (.iinc 2 (1), 97, 0, 1) := by decide +kernel
theorem i202_97 : ins 202 97 = some (.goto (-72), 100, 25, 0) := by decide +kernel
theorem i202_100 : ins 202 100 = some (.iload_n 1, 101, 0, 0) := by decide +kernel
theorem i202_101 : ins 202 101 = some (.ifCond .ne (5), 104, 106, 0) := by decide +kernel
theorem i202_104 : ins 202 104 = some (.iconst (-1), 105, 0, -1) := by decide +kernel
theorem i202_105 : ins 202 105 = some (.ireturn, 106, 0, 0) := by decide +kernel
theorem i202_106 : ins 202 106 = some (.iconst (-1), 107, 0, -1) := by decide +kernel
theorem i202_107 : ins 202 107 = some (.istore_n 2, 108, 0, 0) := by decide +kernel
theorem i202_108 : ins 202 108 = some (.iconst (0), 109, 0, 0) := by decide +kernel
theorem i202_109 : ins 202 109 = some (.istore_n 3, 110, 0, 0) := by decide +kernel
theorem i202_110 : ins 202 110 = some (.iconst (0), 111, 0, 0) := by decide +kernel
theorem i202_111 : ins 202 111 = some (.istore 4, 113, 0, 0) := by decide +kernel
theorem i202_113 : ins 202 113 = some (.iload 4, 115, 0, 0) := by decide +kernel
theorem i202_115 : ins 202 115 = some (.aload_n 0, 116, 0, 0) := by decide +kernel
theorem i202_116 : ins 202 116 = some (.getfield 52, 119, 12, 25) := by decide +kernel
theorem i202_119 : ins 202 119 = some (.aload_n 0, 120, 0, 0) := by decide +kernel
theorem i202_120 : ins 202 120 = some (.getfield 228, 123, 12, 18) := by decide +kernel
theorem i202_123 : ins 202 123 = some (.iaload, 124, 0, 0) := by decide +kernel
theorem i202_124 : ins 202 124 = some (.if_icmp .ge (84), 127, 208, 0) := by decide +kernel
theorem i202_127 : ins 202 127 = some (.iload 4, 129, 0, 0) := by decide +kernel
theorem i202_129 : ins 202 129 = some (.aload_n 0, 130, 0, 0) := by decide +kernel
theorem i202_130 : ins 202 130 = some (.getfield 321, 133, 12, 53) := by decide +kernel
theorem i202_133 : ins 202 133 = some (.if_icmp .eq (69), 136, 202, 0) := by decide +kernel
theorem i202_136 : ins 202 136 = some (.iload_n 2, 137, 0, 0) := by decide +kernel
theorem i202_137 : ins 202 137 = some (.ifCond .lt (22), 140, 159, 0) := by decide +kernel
theorem i202_140 : ins 202 140 = some (.aload_n 0, 141, 0, 0) := by decide +kernel
theorem i202_141 : ins 202 141 = some (.getfield 119, 144, 12, 56) := by decide +kernel
theorem i202_144 : ins 202 144 = some (.iload 4, 146, 0, 0) := by decide +kernel
theorem i202_146 : ins 202 146 = some (.iaload, 147, 0, 0) := by decide +kernel
theorem i202_147 : ins 202 147 = some (.aload_n 0, 148, 0, 0) := by decide +kernel
theorem i202_148 : ins 202 148 = some (.getfield 119, 151, 12, 56) := by decide +kernel
theorem i202_151 : ins 202 151 = some (.iload_n 2, 152, 0, 0) := by decide +kernel
theorem i202_152 : ins 202 152 = some (.iaload, 153, 0, 0) := by decide +kernel
theorem i202_153 : ins 202 153 = some (.if_icmp .ge (6), 156, 159, 0) := by decide +kernel
theorem i202_156 : ins 202 156 = some (.goto (46), 159, 202, 0) := by decide +kernel
theorem i202_159 : ins 202 159 = some (.aload_n 0, 160, 0, 0) := by decide +kernel
theorem i202_160 : ins 202 160 = some (.iload 4, 162, 0, 0) := by decide +kernel
theorem i202_162 : ins 202 162 = some (.invokevirtual 368, 165, 200, 0) := by decide +kernel
theorem i202_165 : ins 202 165 = some (.istore 5, 167, 0, 0) := by decide +kernel
theorem i202_167 : ins 202 167 = some (.iload_n 2, 168, 0, 0) := by decide +kernel
theorem i202_168 : ins 202 168 = some (.ifCond .lt (28), 171, 196, 0) := by decide +kernel
theorem i202_171 : ins 202 171 = some (.aload_n 0, 172, 0, 0) := by decide +kernel
theorem i202_172 : ins 202 172 = some (.getfield 119, 175, 12, 56) := by decide +kernel
theorem i202_175 : ins 202 175 = some (.iload 4, 177, 0, 0) := by decide +kernel
theorem i202_177 : ins 202 177 = some (.iaload, 178, 0, 0) := by decide +kernel
theorem i202_178 : ins 202 178 = some (.aload_n 0, 179, 0, 0) := by decide +kernel
theorem i202_179 : ins 202 179 = some (.getfield 119, 182, 12, 56) := by decide +kernel
theorem i202_182 : ins 202 182 = some (.iload_n 2, 183, 0, 0) := by decide +kernel
theorem i202_183 : ins 202 183 = some (.iaload, 184, 0, 0) := by decide +kernel
theorem i202_184 : ins 202 184 = some (.if_icmp .ne (12), 187, 196, 0) := by decide +kernel
theorem i202_187 : ins 202 187 = some (.iload 5, 189, 0, 0) := by decide +kernel
theorem i202_189 : ins 202 189 = some (.iload_n 3, 190, 0, 0) := by decide +kernel
theorem i202_190 : ins 202 190 = some (.if_icmp .lt (6), 193, 196, 0) := by decide +kernel
theorem i202_193 : ins 202 193 = some (.goto (9), 196, 202, 0) := by decide +kernel
theorem i202_196 : ins 202 196 = some (.iload 4, 198, 0, 0) := by decide +kernel
theorem i202_198 : ins 202 198 = some (.istore_n 2, 199, 0, 0) := by decide +kernel
theorem i202_199 : ins 202 199 = some (.iload 5, 201, 0, 0) := by decide +kernel
theorem i202_201 : ins 202 201 = some (.istore_n 3, 202, 0, 0) := by decide +kernel
theorem i202_202 : ins 202 202 = some (.iinc 4 (1), 205, 0, 1) := by decide +kernel
theorem i202_205 : ins 202 205 = some (.goto (-92), 208, 113, 0) := by decide +kernel
theorem i202_208 : ins 202 208 = some (.iload_n 2, 209, 0, 0) := by decide +kernel
theorem i202_209 : ins 202 209 = some (.ifCond .lt (20), 212, 229, 0) := by decide +kernel
theorem i202_212 : ins 202 212 = some (.iload_n 3, 213, 0, 0) := by decide +kernel
theorem i202_213 : ins 202 213 = some (.aload_n 0, 214, 0, 0) := by decide +kernel
theorem i202_214 : ins 202 214 = some (.getfield 70, 217, 12, 31) := by decide +kernel
theorem i202_217 : ins 202 217 = some (.aload_n 0, 218, 0, 0) := by decide +kernel
theorem i202_218 : ins 202 218 = some (.getfield 228, 221, 12, 18) := by decide +kernel
theorem i202_221 : ins 202 221 = some (.iaload, 222, 0, 0) := by decide +kernel
theorem i202_222 : ins 202 222 = some (.if_icmp .le (7), 225, 229, 0) := by decide +kernel
theorem i202_225 : ins 202 225 = some (.iconst (-1), 226, 0, -1) := by decide +kernel
theorem i202_226 : ins 202 226 = some (.goto (4), 229, 230, 0) := by decide +kernel
theorem i202_229 : ins 202 229 = some (.iload_n 2, 230, 0, 0) := by decide +kernel
theorem i202_230 : ins 202 230 = some (.ireturn, 231, 0, 0) := by decide +kernel
theorem i203_0 : ins 203 0 = some (.aload_n 0, 1, 0, 0) := by decide +kernel
theorem i203_1 : ins 203 1 = some (.getfield 46, 4, 12, 23) := by decide +kernel
theorem i203_4 : ins 203 4 = some (.aload_n 0, 5, 0, 0) := by decide +kernel
theorem i203_5 : ins 203 5 = some (.getfield 228, 8, 12, 18) := by decide +kernel
theorem i203_8 : ins 203 8 = some (.iaload, 9, 0, 0) := by decide +kernel
theorem i203_9 : ins 203 9 = some (.ifCond .ne (5), 12, 14, 0) := by decide +kernel
theorem i203_12 : ins 203 12 = some (.iconst (-1), 13, 0, -1) := by decide +kernel
theorem i203_13 : ins 203 13 = some (.ireturn, 14, 0, 0) := by decide +kernel
theorem i203_14 : ins 203 14 = some (.iload_n 1, 15, 0, 0) := by decide +kernel
theorem i203_15 : ins 203 15 = some (.aload_n 0, 16, 0, 0) := by decide +kernel
theorem i203_16 : ins 203 16 = some (.getfield 324, 19, 12, 54) := by decide +kernel
theorem i203_19 : ins 203 19 = some (.if_icmp .ne (8), 22, 27, 0) := by decide +kernel
theorem i203_22 : ins 203 22 = some (.aload_n 0, 23, 0, 0) := by decide +kernel
theorem i203_23 : ins 203 23 = some (.getfield 327, 26, 12, 55) := by decide +kernel
theorem i203_26 : ins 203 26 = some (.ireturn, 27, 0, 0) := by decide +kernel
theorem i203_27 : ins 203 27 = some (.bipush (10), 29, 0, 10) := by decide +kernel
theorem i203_29 : ins 203 29 = some (.aload_n 0, 30, 0, 0) := by decide +kernel
theorem i203_30 : ins 203 30 = some (.getfield 228, 33, 12, 18) := by decide +kernel
theorem i203_33 : ins 203 33 = some (.imul, 34, 0, 0) := by decide +kernel
theorem i203_34 : ins 203 34 = some (.iconst (3), 35, 0, 3) := by decide +kernel
theorem i203_35 : ins 203 35 = some (.iadd, 36, 0, 0) := by decide +kernel
theorem i203_36 : ins 203 36 = some (.iload_n 1, 37, 0, 0) := by decide +kernel
theorem i203_37 : ins 203 37 = some (.iadd, 38, 0, 0) := by decide +kernel
theorem i203_38 : ins 203 38 = some (.istore_n 3, 39, 0, 0) := by decide +kernel
theorem i203_39 : ins 203 39 = some (.aload_n 0, 40, 0, 0) := by decide +kernel
theorem i203_40 : ins 203 40 = some (.getfield 76, 43, 12, 33) := by decide +kernel
theorem i203_43 : ins 203 43 = some (.iload_n 3, 44, 0, 0) := by decide +kernel
theorem i203_44 : ins 203 44 = some (.iaload, 45, 0, 0) := by decide +kernel
theorem i203_45 : ins 203 45 = some (.aload_n 0, 46, 0, 0) := by decide +kernel
theorem i203_46 : ins 203 46 = some (.getfield 79, 49, 12, 34) := by decide +kernel
theorem i203_49 : ins 203 49 = some (.iload_n 3, 50, 0, 0) := by decide +kernel
theorem i203_50 : ins 203 50 = some (.iaload, 51, 0, 0) := by decide +kernel
theorem i203_51 : ins 203 51 = some (.if_icmp .ge (44), 54, 95, 0) := by decide +kernel
theorem i203_54 : ins 203 54 = some (.aload_n 0, 55, 0, 0) := by decide +kernel
theorem i203_55 : ins 203 55 = some (.iconst (0), 56, 0, 0) := by decide +kernel
theorem i203_56 : ins 203 56 = some (.iconst (0), 57, 0, 0) := by decide +kernel
theorem i203_57 : ins 203 57 = some (.iconst (0), 58, 0, 0) := by decide +kernel
theorem i203_58 : ins 203 58 = some (.iconst (0), 59, 0, 0) := by decide +kernel
theorem i203_59 : ins 203 59 = some (.iconst (0), 60, 0, 0) := by decide +kernel
theorem i203_60 : ins 203 60 = some (.iload_n 2, 61, 0, 0) := by decide +kernel
theorem i203_61 : ins 203 61 = some (.invokevirtual 349, 64, 197, 0) := by decide +kernel
theorem i203_64 : ins 203 64 = some (.aload_n 0, 65, 0, 0) := by decide +kernel
theorem i203_65 : ins 203 65 = some (.iconst (3), 66, 0, 3) := by decide +kernel
theorem i203_66 : ins 203 66 = some (.iload_n 1, 67, 0, 0) := by decide +kernel
theorem i203_67 : ins 203 67 = some (.iadd, 68, 0, 0) := by decide +kernel
theorem i203_68 : ins 203 68 = some (.invokevirtual 353, 71, 196, 0) := by decide +kernel
theorem i203_71 : ins 203 71 = some (.istore 4, 73, 0, 0) := by decide +kernel
theorem i203_73 : ins 203 73 = some (.iload 4, 75, 0, 0) := by decide +kernel
theorem i203_75 : ins 203 75 = some (.ifCond .ge (7), 78, 82, 0) := by decide +kernel
theorem i203_78 : ins 203 78 = some (.iconst (-1), 79, 0, -1) := by decide +kernel
theorem i203_79 : ins 203 79 = some (.goto (15), 82, 94, 0) := by decide +kernel
theorem i203_82 : ins 203 82 = some (.iload 4, 84, 0, 0) := by decide +kernel
theorem i203_84 : ins 203 84 = some (.aload_n 0, 85, 0, 0) := by decide +kernel
theorem i203_85 : ins 203 85 = some (.getfield 46, 88, 12, 23) := by decide +kernel
theorem i203_88 : ins 203 88 = some (.aload_n 0, 89, 0, 0) := by decide +kernel
theorem i203_89 : ins 203 89 = some (.getfield 228, 92, 12, 18) := by decide +kernel
theorem i203_92 : ins 203 92 = some (.iaload, 93, 0, 0) := by decide +kernel
theorem i203_93 : ins 203 93 = some (.irem, 94, 0, 0) := by decide +kernel
theorem i203_94 : ins 203 94 = some (.ireturn, 95, 0, 0) := by decide +kernel
theorem i203_95 : ins 203 95 = some (.iconst (0), 96, 0, 0) := by decide +kernel
theorem i203_96 : ins 203 96 = some (.istore 4, 98, 0, 0) := by decide +kernel
theorem i203_98 : ins 203 98 = some (.iconst (1), 99, 0, 1) := by decide +kernel
theorem i203_99 : ins 203 99 = some (.istore 5, 101, 0, 0) := by decide +kernel
theorem i203_101 : ins 203 101 = some (.iload 5, 103, 0, 0) := by decide +kernel
theorem i203_103 : ins 203 103 = some (.aload_n 0, 104, 0, 0) := by decide +kernel
theorem i203_104 : ins 203 104 = some (.getfield 46, 107, 12, 23) := by decide +kernel
theorem i203_107 : ins 203 107 = some (.aload_n 0, 108, 0, 0) := by decide +kernel
theorem i203_108 : ins 203 108 = some (.getfield 228, 111, 12, 18) := by decide +kernel
theorem i203_111 : ins 203 111 = some (.iaload, 112, 0, 0) := by decide +kernel
theorem i203_112 : ins 203 112 = some (.if_icmp .ge (50), 115, 162, 0) := by decide +kernel
theorem i203_115 : ins 203 115 = some (.aload_n 0, 116, 0, 0) := by decide +kernel
theorem i203_116 : ins 203 116 = some (.iload_n 1, 117, 0, 0) := by decide +kernel
theorem i203_117 : ins 203 117 = some (.iload 5, 119, 0, 0) := by decide +kernel
theorem i203_119 : ins 203 119 = some (.invokevirtual 337, 122, 194, 0) := by decide +kernel
theorem i203_122 : ins 203 122 = some (.aload_n 0, 123, 0, 0) := by decide +kernel
theorem i203_123 : ins 203 123 = some (.getfield 116, 126, 12, 50) := by decide +kernel
theorem i203_126 : ins 203 126 = some (.iload 5, 128, 0, 0) := by decide +kernel
theorem i203_128 : ins 203 128 = some (.iaload, 129, 0, 0) := by decide +kernel
theorem i203_129 : ins 203 129 = some (.invokestatic 346, 132, 193, 0) := by decide +kernel
theorem i203_132 : ins 203 132 = some (.aload_n 0, 133, 0, 0) := by decide +kernel
theorem i203_133 : ins 203 133 = some (.iload_n 1, 134, 0, 0) := by decide +kernel
theorem i203_134 : ins 203 134 = some (.iload 4, 136, 0, 0) := by decide +kernel
theorem i203_136 : ins 203 136 = some (.invokevirtual 337, 139, 194, 0) := by decide +kernel
theorem i203_139 : ins 203 139 = some (.aload_n 0, 140, 0, 0) := by decide +kernel
theorem i203_140 : ins 203 140 = some (.getfield 116, 143, 12, 50) := by decide +kernel
theorem i203_143 : ins 203 143 = some (.iload 4, 145, 0, 0) := by decide +kernel
theorem i203_145 : ins 203 145 = some (.iaload, 146, 0, 0) := by decide +kernel
theorem i203_146 : ins 203 146 = some (.invokestatic 346, 149, 193, 0) := by decide +kernel
theorem i203_149 : ins 203 149 = some (.if_icmp .le (7), 152, 156, 0) := by decide +kernel
theorem i203_152 : ins 203 152 = some (.iload 5, 154, 0, 0) := by decide +kernel
theorem i203_154 : ins 203 154 = some (.istore 4, 156, 0, 0) := by decide +kernel
theorem i203_156 : ins 203 156 = some (.iinc 5 (1), 159, 0, 1) := by decide +kernel
theorem i203_159 : ins 203 159 = some (.goto (-58), 162, 101, 0) := by decide +kernel
theorem i203_162 : ins 203 162 = some (.iload 4, 164, 0, 0) := by decide +kernel
theorem i203_164 : ins 203 164 = some (.ireturn, 165, 0, 0) := by decide +kernel
theorem i204_0 : ins 204 0 = some (.bipush (6), 2, 0, 6) := by decide +kernel
theorem i204_2 : ins 204 2 = some (.bipush (6), 4, 0, 6) := by decide +kernel
theorem i204_4 : ins 204 4 = some (.iload_n 1, 5, 0, 0) := by decide +kernel
theorem i204_5 : ins 204 5 = some (.imul, 6, 0, 0) := by decide +kernel
theorem i204_6 : ins 204 6 = some (.iadd, 7, 0, 0) := by decide +kernel
theorem i204_7 : ins 204 7 = some (.iload_n 2, 8, 0, 0) := by decide +kernel
theorem i204_8 : ins 204 8 = some (.iadd, 9, 0, 0) := by decide +kernel
theorem i204_9 : ins 204 9 = some (.istore 4, 11, 0, 0) := by decide +kernel
theorem i204_11 : ins 204 11 = some (.iconst (0), 12, 0, 0) := by decide +kernel
theorem i204_12 : ins 204 12 = some (.istore 5, 14, 0, 0) := by decide +kernel
theorem i204_14 : ins 204 14 = some (.iload 5, 16, 0, 0) := by decide +kernel
theorem i204_16 : ins 204 16 = some (.iload_n 3, 17, 0, 0) := by decide +kernel
theorem i204_17 : ins 204 17 = some (.if_icmp .ge (101), 20, 118, 0) := by decide +kernel
theorem i204_20 : ins 204 20 = some (.aload_n 0, 21, 0, 0) := by decide +kernel
theorem i204_21 : ins 204 21 = some (.getfield 116, 24, 12, 50) := by decide +kernel
theorem i204_24 : ins 204 24 = some (.iload 4, 26, 0, 0) := by decide +kernel
theorem i204_26 : ins 204 26 = some (.iaload, 27, 0, 0) := by decide +kernel
theorem i204_27 : ins 204 27 = some (.aload_n 0, 28, 0, 0) := by decide +kernel
theorem i204_28 : ins 204 28 = some (.getfield 116, 31, 12, 50) := by decide +kernel
theorem i204_31 : ins 204 31 = some (.iload_n 2, 32, 0, 0) := by decide +kernel
theorem i204_32 : ins 204 32 = some (.iaload, 33, 0, 0) := by decide +kernel
theorem i204_33 : ins 204 33 = some (.invokestatic 346, 36, 193, 0) := by decide +kernel
theorem i204_36 : ins 204 36 = some (.istore 6, 38, 0, 0) := by decide +kernel
theorem i204_38 : ins 204 38 = some (.aload_n 0, 39, 0, 0) := by decide +kernel
theorem i204_39 : ins 204 39 = some (.getfield 55, 42, 12, 26) := by decide +kernel
theorem i204_42 : ins 204 42 = some (.bipush (6), 44, 0, 6) := by decide +kernel
theorem i204_44 : ins 204 44 = some (.aload_n 0, 45, 0, 0) := by decide +kernel
theorem i204_45 : ins 204 45 = some (.getfield 228, 48, 12, 18) := by decide +kernel
theorem i204_48 : ins 204 48 = some (.imul, 49, 0, 0) := by decide +kernel
theorem i204_49 : ins 204 49 = some (.iload_n 1, 50, 0, 0) := by decide +kernel
theorem i204_50 : ins 204 50 = some (.iadd, 51, 0, 0) := by decide +kernel
theorem i204_51 : ins 204 51 = some (.iaload, 52, 0, 0) := by decide +kernel
theorem i204_52 : ins 204 52 = some (.iload 6, 54, 0, 0) := by decide +kernel
theorem i204_54 : ins 204 54 = some (.if_icmp .ge (20), 57, 74, 0) := by decide +kernel
theorem i204_57 : ins 204 57 = some (.aload_n 0, 58, 0, 0) := by decide +kernel
theorem i204_58 : ins 204 58 = some (.getfield 55, 61, 12, 26) := by decide +kernel
theorem i204_61 : ins 204 61 = some (.bipush (6), 63, 0, 6) := by decide +kernel
theorem i204_63 : ins 204 63 = some (.aload_n 0, 64, 0, 0) := by decide +kernel
theorem i204_64 : ins 204 64 = some (.getfield 228, 67, 12, 18) := by decide +kernel
theorem i204_67 : ins 204 67 = some (.imul, 68, 0, 0) := by decide +kernel
theorem i204_68 : ins 204 68 = some (.iload_n 1, 69, 0, 0) := by decide +kernel
theorem i204_69 : ins 204 69 = some (.iadd, 70, 0, 0) := by decide +kernel
theorem i204_70 : ins 204 70 = some (.iaload, 71, 0, 0) := by decide +kernel
theorem i204_71 : ins 204 71 = some (.goto (5), 74, 76, 0) := by decide +kernel
theorem i204_74 : ins 204 74 = some (.iload 6, 76, 0, 0) := by decide +kernel
theorem i204_76 : ins 204 76 = some (.istore 7, 78, 0, 0) := by decide +kernel
theorem i204_78 : ins 204 78 = some (.aload_n 0, 79, 0, 0) := by decide +kernel
theorem i204_79 : ins 204 79 = some (.getfield 116, 82, 12, 50) := by decide +kernel
theorem i204_82 : ins 204 82 = some (.iload 4, 84, 0, 0) := by decide +kernel
theorem i204_84 : ins 204 84 = some (.dup2, 85, 0, 0) := by decide +kernel
theorem i204_85 : ins 204 85 = some (.iaload, 86, 0, 0) := by decide +kernel
theorem i204_86 : ins 204 86 = some (.aload_n 0, 87, 0, 0) := by decide +kernel
theorem i204_87 : ins 204 87 = some (.getfield 116, 90, 12, 50) := by decide +kernel
theorem i204_90 : ins 204 90 = some (.iload 4, 92, 0, 0) := by decide +kernel
theorem i204_92 : ins 204 92 = some (.iaload, 93, 0, 0) := by decide +kernel
theorem i204_93 : ins 204 93 = some (.aload_n 0, 94, 0, 0) := by decide +kernel
theorem i204_94 : ins 204 94 = some (.getfield 116, 97, 12, 50) := by decide +kernel
theorem i204_97 : ins 204 97 = some (.iload_n 2, 98, 0, 0) := by decide +kernel
theorem i204_98 : ins 204 98 = some (.iaload, 99, 0, 0) := by decide +kernel
theorem i204_99 : ins 204 99 = some (.if_icmp .ge (8), 102, 107, 0) := by decide +kernel
theorem i204_102 : ins 204 102 = some (.iload 7, 104, 0, 0) := by decide +kernel
theorem i204_104 : ins 204 104 = some (.goto (6), 107, 110, 0) := by decide +kernel
theorem i204_107 : ins 204 107 = some (.iload 7, 109, 0, 0) := by decide +kernel
theorem i204_109 : ins 204 109 = some (.ineg, 110, 0, 0) := by decide +kernel
theorem i204_110 : ins 204 110 = some (.iadd, 111, 0, 0) := by decide +kernel
theorem i204_111 : ins 204 111 = some (.iastore, 112, 0, 0) := by decide +kernel
theorem i204_112 : ins 204 112 = some (.iinc 5 (1), 115, 0, 1) := by decide +kernel
theorem i204_115 : ins 204 115 = some (.goto (-101), 118, 14, 0) := by decide +kernel
theorem i204_118 : ins 204 118 = some (.return_, 119, 0, 0) := by decide +kernel
theorem i205_0 : ins 205 0 = some (.iconst (0), 1, 0, 0) := by decide +kernel
theorem i205_1 : ins 205 1 = some (.istore_n 1, 2, 0, 0) := by decide +kernel
theorem i205_2 : ins 205 2 = some (.iload_n 1, 3, 0, 0) := by decide +kernel
theorem i205_3 : ins 205 3 = some (.aload_n 0, 4, 0, 0) := by decide +kernel
theorem i205_4 : ins 205 4 = some (.getfield 67, 7, 12, 30) := by decide +kernel
theorem i205_7 : ins 205 7 = some (.aload_n 0, 8, 0, 0) := by decide +kernel
theorem i205_8 : ins 205 8 = some (.getfield 228, 11, 12, 18) := by decide +kernel
theorem i205_11 : ins 205 11 = some (.iaload, 12, 0, 0) := by decide +kernel
theorem i205_12 : ins 205 12 = some (.if_icmp .ge (48), 15, 60, 0) := by decide +kernel
theorem i205_15 : ins 205 15 = some (.iconst (0), 16, 0, 0) := by decide +kernel
theorem i205_16 : ins 205 16 = some (.istore_n 2, 17, 0, 0) := by decide +kernel
theorem i205_17 : ins 205 17 = some (.iload_n 2, 18, 0, 0) := by decide +kernel
theorem i205_18 : ins 205 18 = some (.aload_n 0, 19, 0, 0) := by decide +kernel
theorem i205_19 : ins 205 19 = some (.getfield 52, 22, 12, 25) := by decide +kernel
theorem i205_22 : ins 205 22 = some (.aload_n 0, 23, 0, 0) := by decide +kernel
theorem i205_23 : ins 205 23 = some (.getfield 228, 26, 12, 18) := by decide +kernel
theorem i205_26 : ins 205 26 = some (.iaload, 27, 0, 0) := by decide +kernel
theorem i205_27 : ins 205 27 = some (.if_icmp .ge (27), 30, 54, 0) := by decide +kernel
theorem i205_30 : ins 205 30 = some (.aload_n 0, 31, 0, 0) := by decide +kernel
theorem i205_31 : ins 205 31 = some (.iload_n 2, 32, 0, 0) := by decide +kernel
theorem i205_32 : ins 205 32 = some (.iload_n 1, 33, 0, 0) := by decide +kernel
theorem i205_33 : ins 205 33 = some (.invokevirtual 371, 36, 203, 0) := by decide +kernel
theorem i205_36 : ins 205 36 = some (.istore_n 3, 37, 0, 0) := by decide +kernel
theorem i205_37 : ins 205 37 = some (.iload_n 3, 38, 0, 0) := by decide +kernel
theorem i205_38 : ins 205 38 = some (.ifCond .lt (10), 41, 48, 0) := by decide +kernel
theorem i205_41 : ins 205 41 = some (.aload_n 0, 42, 0, 0) := by decide +kernel
theorem i205_42 : ins 205 42 = some (.iload_n 2, 43, 0, 0) := by decide +kernel
theorem i205_43 : ins 205 43 = some (.iload_n 3, 44, 0, 0) := by decide +kernel
theorem i205_44 : ins 205 44 = some (.iconst (1), 45, 0, 1) := by decide +kernel
theorem i205_45 : ins 205 45 = some (.invokevirtual 374, 48, 204, 0) := by decide +kernel
theorem i205_48 : ins 205 48 = some (.iinc 2 (1), 51, 0, 1) := by decide +kernel
theorem i205_51 : ins 205 51 = some (.goto (-34), 54, 17, 0) := by decide +kernel
theorem i205_54 : ins 205 54 = some (.iinc 1 (1), 57, 0, 1) := by decide +kernel
theorem i205_57 : ins 205 57 = some (.goto (-55), 60, 2, 0) := by decide +kernel
theorem i205_60 : ins 205 60 = some (.aload_n 0, 61, 0, 0) := by decide +kernel
theorem i205_61 : ins 205 61 = some (.invokevirtual 378, 64, 202, 0) := by decide +kernel
theorem i205_64 : ins 205 64 = some (.istore_n 1, 65, 0, 0) := by decide +kernel
theorem i205_65 : ins 205 65 = some (.aload_n 0, 66, 0, 0) := by decide +kernel
theorem i205_66 : ins 205 66 = some (.getfield 116, 69, 12, 50) := by decide +kernel
theorem i205_69 : ins 205 69 = some (.bipush (44), 71, 0, 44) := by decide +kernel
theorem i205_71 : ins 205 71 = some (.dup2, 72, 0, 0) := by decide +kernel
theorem i205_72 : ins 205 72 = some (.iaload, 73, 0, 0) := by decide +kernel
theorem i205_73 : ins 205 73 = some (.iconst (1), 74, 0, 1) := by decide +kernel
theorem i205_74 : ins 205 74 = some (.iadd, 75, 0, 0) := by decide +kernel
theorem i205_75 : ins 205 75 = some (.iastore, 76, 0, 0) := by decide +kernel
theorem i205_76 : ins 205 76 = some (.bipush (60), 78, 0, 60) := by decide +kernel
theorem i205_78 : ins 205 78 = some (.bipush (7), 80, 0, 7) := by decide +kernel
theorem i205_80 : ins 205 80 = some (.aload_n 0, 81, 0, 0) := by decide +kernel
theorem i205_81 : ins 205 81 = some (.getfield 116, 84, 12, 50) := by decide +kernel
theorem i205_84 : ins 205 84 = some (.bipush (45), 86, 0, 45) := by decide +kernel
theorem i205_86 : ins 205 86 = some (.iaload, 87, 0, 0) := by decide +kernel
theorem i205_87 : ins 205 87 = some (.imul, 88, 0, 0) := by decide +kernel
theorem i205_88 : ins 205 88 = some (.iadd, 89, 0, 0) := by decide +kernel
theorem i205_89 : ins 205 89 = some (.istore_n 2, 90, 0, 0) := by decide +kernel
theorem i205_90 : ins 205 90 = some (.aload_n 0, 91, 0, 0) := by decide +kernel
theorem i205_91 : ins 205 91 = some (.getfield 116, 94, 12, 50) := by decide +kernel
theorem i205_94 : ins 205 94 = some (.bipush (45), 96, 0, 45) := by decide +kernel
theorem i205_96 : ins 205 96 = some (.iaload, 97, 0, 0) := by decide +kernel
theorem i205_97 : ins 205 97 = some (.sipush (400), 100, 0, 400) := by decide +kernel
theorem i205_100 : ins 205 100 = some (.if_icmp .ge (52), 103, 152, 0) := by decide +kernel
theorem i205_103 : ins 205 103 = some (.iconst (0), 104, 0, 0) := by decide +kernel
theorem i205_104 : ins 205 104 = some (.istore_n 3, 105, 0, 0) := by decide +kernel
theorem i205_105 : ins 205 105 = some (.iload_n 3, 106, 0, 0) := by decide +kernel
theorem i205_106 : ins 205 106 = some (.bipush (6), 108, 0, 6) := by decide +kernel
theorem i205_108 : ins 205 108 = some (.if_icmp .ge (23), 111, 131, 0) := by decide +kernel
theorem i205_111 : ins 205 111 = some (.aload_n 0, 112, 0, 0) := by decide +kernel
theorem i205_112 : ins 205 112 = some (.getfield 116, 115, 12, 50) := by decide +kernel
theorem i205_115 : ins 205 115 = some (.iload_n 2, 116, 0, 0) := by decide +kernel
theorem i205_116 : ins 205 116 = some (.iload_n 3, 117, 0, 0) := by decide +kernel
theorem i205_117 : ins 205 117 = some (.iadd, 118, 0, 0) := by decide +kernel
theorem i205_118 : ins 205 118 = some (.aload_n 0, 119, 0, 0) := by decide +kernel
theorem i205_119 : ins 205 119 = some (.getfield 116, 122, 12, 50) := by decide +kernel
theorem i205_122 : ins 205 122 = some (.iload_n 3, 123, 0, 0) := by decide +kernel
theorem i205_123 : ins 205 123 = some (.iaload, 124, 0, 0) := by decide +kernel
theorem i205_124 : ins 205 124 = some (.iastore, 125, 0, 0) := by decide +kernel
theorem i205_125 : ins 205 125 = some (.iinc 3 (1), 128, 0, 1) := by decide +kernel
theorem i205_128 : ins 205 128 = some (.goto (-23), 131, 105, 0) := by decide +kernel
theorem i205_131 : ins 205 131 = some (.aload_n 0, 132, 0, 0) := by decide +kernel
theorem i205_132 : ins 205 132 = some (.getfield 116, 135, 12, 50) := by decide +kernel
theorem i205_135 : ins 205 135 = some (.iload_n 2, 136, 0, 0) := by decide +kernel
theorem i205_136 : ins 205 136 = some (.bipush (6), 138, 0, 6) := by decide +kernel
theorem i205_138 : ins 205 138 = some (.iadd, 139, 0, 0) := by decide +kernel
theorem i205_139 : ins 205 139 = some (.iload_n 1, 140, 0, 0) := by decide +kernel
theorem i205_140 : ins 205 140 = some (.iastore, 141, 0, 0) := by decide +kernel
theorem i205_141 : ins 205 141 = some (.aload_n 0, 142, 0, 0) := by decide +kernel
theorem i205_142 : ins 205 142 = some (.getfield 116, 145, 12, 50) := by decide +kernel
theorem i205_145 : ins 205 145 = some (.bipush (45), 147, 0, 45) := by decide +kernel
theorem i205_147 : ins 205 147 = some (.dup2, 148, 0, 0) := by decide +kernel
theorem i205_148 : ins 205 148 = some (.iaload, 149, 0, 0) := by decide +kernel
theorem i205_149 : ins 205 149 = some (.iconst (1), 150, 0, 1) := by decide +kernel
theorem i205_150 : ins 205 150 = some (.iadd, 151, 0, 0) := by decide +kernel
theorem i205_151 : ins 205 151 = some (.iastore, 152, 0, 0) := by decide +kernel
theorem i205_152 : ins 205 152 = some (.aload_n 0, 153, 0, 0) := by decide +kernel
theorem i205_153 : ins 205 153 = some (.getfield 116, 156, 12, 50) := by decide +kernel
theorem i205_156 : ins 205 156 = some (.bipush (43), 158, 0, 43) := by decide +kernel
theorem i205_158 : ins 205 158 = some (.iload_n 1, 159, 0, 0) := by decide +kernel
theorem i205_159 : ins 205 159 = some (.iastore, 160, 0, 0) := by decide +kernel
theorem i205_160 : ins 205 160 = some (.iload_n 1, 161, 0, 0) := by decide +kernel
theorem i205_161 : ins 205 161 = some (.ifCond .lt (43), 164, 204, 0) := by decide +kernel
theorem i205_164 : ins 205 164 = some (.aload_n 0, 165, 0, 0) := by decide +kernel
theorem i205_165 : ins 205 165 = some (.getfield 116, 168, 12, 50) := by decide +kernel
theorem i205_168 : ins 205 168 = some (.bipush (46), 170, 0, 46) := by decide +kernel
theorem i205_170 : ins 205 170 = some (.iload_n 1, 171, 0, 0) := by decide +kernel
theorem i205_171 : ins 205 171 = some (.iadd, 172, 0, 0) := by decide +kernel
theorem i205_172 : ins 205 172 = some (.dup2, 173, 0, 0) := by decide +kernel
theorem i205_173 : ins 205 173 = some (.iaload, 174, 0, 0) := by decide +kernel
theorem i205_174 : ins 205 174 = some (.iconst (1), 175, 0, 1) := by decide +kernel
theorem i205_175 : ins 205 175 = some (.iadd, 176, 0, 0) := by decide +kernel
theorem i205_176 : ins 205 176 = some (.iastore, 177, 0, 0) := by decide +kernel
theorem i205_177 : ins 205 177 = some (.iconst (0), 178, 0, 0) := by decide +kernel
theorem i205_178 : ins 205 178 = some (.istore_n 3, 179, 0, 0) := by decide +kernel
theorem i205_179 : ins 205 179 = some (.iload_n 3, 180, 0, 0) := by decide +kernel
theorem i205_180 : ins 205 180 = some (.aload_n 0, 181, 0, 0) := by decide +kernel
theorem i205_181 : ins 205 181 = some (.getfield 46, 184, 12, 23) := by decide +kernel
theorem i205_184 : ins 205 184 = some (.aload_n 0, 185, 0, 0) := by decide +kernel
theorem i205_185 : ins 205 185 = some (.getfield 228, 188, 12, 18) := by decide +kernel
theorem i205_188 : ins 205 188 = some (.iaload, 189, 0, 0) := by decide +kernel
theorem i205_189 : ins 205 189 = some (.if_icmp .ge (15), 192, 204, 0) := by decide +kernel
theorem i205_192 : ins 205 192 = some (.aload_n 0, 193, 0, 0) := by decide +kernel
theorem i205_193 : ins 205 193 = some (.iload_n 1, 194, 0, 0) := by decide +kernel
theorem i205_194 : ins 205 194 = some (.iload_n 3, 195, 0, 0) := by decide +kernel
theorem i205_195 : ins 205 195 = some (.invokevirtual 381, 198, 206, 0) := by decide +kernel
theorem i205_198 : ins 205 198 = some (.iinc 3 (1), 201, 0, 1) := by decide +kernel
theorem i205_201 : ins 205 201 = some (.goto (-22), 204, 179, 0) := by decide +kernel
theorem i205_204 : ins 205 204 = some (.aload_n 0, 205, 0, 0) := by decide +kernel
theorem i205_205 : ins 205 205 = some (.getfield 116, 208, 12, 50) := by decide +kernel
theorem i205_208 : ins 205 208 = some (.bipush (42), 210, 0, 42) := by decide +kernel
theorem i205_210 : ins 205 210 = some (.dup2, 211, 0, 0) := by decide +kernel
theorem i205_211 : ins 205 211 = some (.iaload, 212, 0, 0) := by decide +kernel
theorem i205_212 : ins 205 212 = some (.iconst (1), 213, 0, 1) := by decide +kernel
theorem i205_213 : ins 205 213 = some (.iadd, 214, 0, 0) := by decide +kernel
theorem i205_214 : ins 205 214 = some (.iastore, 215, 0, 0) := by decide +kernel
theorem i205_215 : ins 205 215 = some (.return_, 216, 0, 0) := by decide +kernel
theorem i206_0 : ins 206 0 = some (.aload_n 0, 1, 0, 0) := by decide +kernel
theorem i206_1 : ins 206 1 = some (.iload_n 1, 2, 0, 0) := by decide +kernel
theorem i206_2 : ins 206 2 = some (.iload_n 2, 3, 0, 0) := by decide +kernel
theorem i206_3 : ins 206 3 = some (.invokevirtual 337, 6, 194, 0) := by decide +kernel
theorem i206_6 : ins 206 6 = some (.istore_n 3, 7, 0, 0) := by decide +kernel
theorem i206_7 : ins 206 7 = some (.aload_n 0, 8, 0, 0) := by decide +kernel
theorem i206_8 : ins 206 8 = some (.iload_n 3, 9, 0, 0) := by decide +kernel
theorem i206_9 : ins 206 9 = some (.aload_n 0, 10, 0, 0) := by decide +kernel
theorem i206_10 : ins 206 10 = some (.getfield 116, 13, 12, 50) := by decide +kernel
theorem i206_13 : ins 206 13 = some (.iload_n 2, 14, 0, 0) := by decide +kernel
theorem i206_14 : ins 206 14 = some (.iaload, 15, 0, 0) := by decide +kernel
theorem i206_15 : ins 206 15 = some (.invokestatic 346, 18, 193, 0) := by decide +kernel
theorem i206_18 : ins 206 18 = some (.iload_n 2, 19, 0, 0) := by decide +kernel
theorem i206_19 : ins 206 19 = some (.iconst (0), 20, 0, 0) := by decide +kernel
theorem i206_20 : ins 206 20 = some (.iload_n 3, 21, 0, 0) := by decide +kernel
theorem i206_21 : ins 206 21 = some (.aload_n 0, 22, 0, 0) := by decide +kernel
theorem i206_22 : ins 206 22 = some (.getfield 116, 25, 12, 50) := by decide +kernel
theorem i206_25 : ins 206 25 = some (.iload_n 2, 26, 0, 0) := by decide +kernel
theorem i206_26 : ins 206 26 = some (.iaload, 27, 0, 0) := by decide +kernel
theorem i206_27 : ins 206 27 = some (.iconst (0), 28, 0, 0) := by decide +kernel
theorem i206_28 : ins 206 28 = some (.invokevirtual 349, 31, 197, 0) := by decide +kernel
theorem i206_31 : ins 206 31 = some (.aload_n 0, 32, 0, 0) := by decide +kernel
theorem i206_32 : ins 206 32 = some (.bipush (9), 34, 0, 9) := by decide +kernel
theorem i206_34 : ins 206 34 = some (.invokevirtual 353, 37, 196, 0) := by decide +kernel
theorem i206_37 : ins 206 37 = some (.istore 4, 39, 0, 0) := by decide +kernel
theorem i206_39 : ins 206 39 = some (.iload 4, 41, 0, 0) := by decide +kernel
theorem i206_41 : ins 206 41 = some (.bipush (-9), 43, 0, -9) := by decide +kernel
theorem i206_43 : ins 206 43 = some (.if_icmp .ge (8), 46, 51, 0) := by decide +kernel
theorem i206_46 : ins 206 46 = some (.bipush (-9), 48, 0, -9) := by decide +kernel
theorem i206_48 : ins 206 48 = some (.goto (17), 51, 65, 0) := by decide +kernel
theorem i206_51 : ins 206 51 = some (.iload 4, 53, 0, 0) := by decide +kernel
theorem i206_53 : ins 206 53 = some (.bipush (9), 55, 0, 9) := by decide +kernel
theorem i206_55 : ins 206 55 = some (.if_icmp .le (8), 58, 63, 0) := by decide +kernel
theorem i206_58 : ins 206 58 = some (.bipush (9), 60, 0, 9) := by decide +kernel
theorem i206_60 : ins 206 60 = some (.goto (5), 63, 65, 0) := by decide +kernel
theorem i206_63 : ins 206 63 = some (.iload 4, 65, 0, 0) := by decide +kernel
theorem i206_65 : ins 206 65 = some (.istore 4, 67, 0, 0) := by decide +kernel
theorem i206_67 : ins 206 67 = some (.iload 4, 69, 0, 0) := by decide +kernel
theorem i206_69 : ins 206 69 = some (.aload_n 0, 70, 0, 0) := by decide +kernel
theorem i206_70 : ins 206 70 = some (.getfield 116, 73, 12, 50) := by decide +kernel
theorem i206_73 : ins 206 73 = some (.iload_n 2, 74, 0, 0) := by decide +kernel
theorem i206_74 : ins 206 74 = some (.iaload, 75, 0, 0) := by decide +kernel
theorem i206_75 : ins 206 75 = some (.iadd, 76, 0, 0) := by decide +kernel
theorem i206_76 : ins 206 76 = some (.istore 4, 78, 0, 0) := by decide +kernel
theorem i206_78 : ins 206 78 = some (.aload_n 0, 79, 0, 0) := by decide +kernel
theorem i206_79 : ins 206 79 = some (.getfield 116, 82, 12, 50) := by decide +kernel
theorem i206_82 : ins 206 82 = some (.iload_n 2, 83, 0, 0) := by decide +kernel
theorem i206_83 : ins 206 83 = some (.iload 4, 85, 0, 0) := by decide +kernel
theorem i206_85 : ins 206 85 = some (.ifCond .ge (7), 88, 92, 0) := by decide +kernel
theorem i206_88 : ins 206 88 = some (.iconst (0), 89, 0, 0) := by decide +kernel
theorem i206_89 : ins 206 89 = some (.goto (17), 92, 106, 0) := by decide +kernel
theorem i206_92 : ins 206 92 = some (.iload 4, 94, 0, 0) := by decide +kernel
theorem i206_94 : ins 206 94 = some (.bipush (99), 96, 0, 99) := by decide +kernel
theorem i206_96 : ins 206 96 = some (.if_icmp .le (8), 99, 104, 0) := by decide +kernel
theorem i206_99 : ins 206 99 = some (.bipush (99), 101, 0, 99) := by decide +kernel
theorem i206_101 : ins 206 101 = some (.goto (5), 104, 106, 0) := by decide +kernel
theorem i206_104 : ins 206 104 = some (.iload 4, 106, 0, 0) := by decide +kernel
theorem i206_106 : ins 206 106 = some (.iastore, 107, 0, 0) := by decide +kernel
theorem i206_107 : ins 206 107 = some (.return_, 108, 0, 0) := by decide +kernel
theorem i207_0 : ins 207 0 = some (.aload_n 0, 1, 0, 0) := by decide +kernel
theorem i207_1 : ins 207 1 = some (.iload_n 1, 2, 0, 0) := by decide +kernel
theorem i207_2 : ins 207 2 = some (.invokevirtual 384, 5, 184, 0) := by decide +kernel
theorem i207_5 : ins 207 5 = some (.ifCond .eq (12), 8, 17, 0) := by decide +kernel
theorem i207_8 : ins 207 8 = some (.aload_n 0, 9, 0, 0) := by decide +kernel
theorem i207_9 : ins 207 9 = some (.getfield 113, 12, 12, 49) := by decide +kernel
theorem i207_12 : ins 207 12 = some (.iload_n 1, 13, 0, 0) := by decide +kernel
theorem i207_13 : ins 207 13 = some (.iaload, 14, 0, 0) := by decide +kernel
theorem i207_14 : ins 207 14 = some (.goto (4), 17, 18, 0) := by decide +kernel
theorem i207_17 : ins 207 17 = some (.iconst (-1), 18, 0, -1) := by decide +kernel
theorem i207_18 : ins 207 18 = some (.ireturn, 19, 0, 0) := by decide +kernel
theorem i208_0 : ins 208 0 = some (.aload_n 0, 1, 0, 0) := by decide +kernel
theorem i208_1 : ins 208 1 = some (.iload_n 1, 2, 0, 0) := by decide +kernel
theorem i208_2 : ins 208 2 = some (.invokevirtual 387, 5, 185, 0) := by decide +kernel
theorem i208_5 : ins 208 5 = some (.ifCond .eq (11), 8, 16, 0) := by decide +kernel
theorem i208_8 : ins 208 8 = some (.aload_n 0, 9, 0, 0) := by decide +kernel
theorem i208_9 : ins 208 9 = some (.iload_n 2, 10, 0, 0) := by decide +kernel
theorem i208_10 : ins 208 10 = some (.invokevirtual 384, 13, 184, 0) := by decide +kernel
theorem i208_13 : ins 208 13 = some (.ifCond .ne (5), 16, 18, 0) := by decide +kernel
theorem i208_16 : ins 208 16 = some (.iconst (-1), 17, 0, -1) := by decide +kernel
theorem i208_17 : ins 208 17 = some (.ireturn, 18, 0, 0) := by decide +kernel
theorem i208_18 : ins 208 18 = some (.aload_n 0, 19, 0, 0) := by decide +kernel
theorem i208_19 : ins 208 19 = some (.invokevirtual 390, 22, 189, 0) := by decide +kernel
theorem i208_22 : ins 208 22 = some (.iload_n 3, 23, 0, 0) := by decide +kernel
theorem i208_23 : ins 208 23 = some (.tableswitch (55) (0) (2) #[25, 32, 39], 48, 0, 0) := by decide +kernel
theorem i208_48 : ins 208 48 = some (.aload_n 0, 49, 0, 0) := by decide +kernel
theorem i208_49 : ins 208 49 = some (.iload_n 1, 50, 0, 0) := by decide +kernel
theorem i208_50 : ins 208 50 = some (.iload_n 2, 51, 0, 0) := by decide +kernel
theorem i208_51 : ins 208 51 = some (.invokevirtual 337, 54, 194, 0) := by decide +kernel
theorem i208_54 : ins 208 54 = some (.ireturn, 55, 0, 0) := by decide +kernel
theorem i208_55 : ins 208 55 = some (.aload_n 0, 56, 0, 0) := by decide +kernel
theorem i208_56 : ins 208 56 = some (.iload_n 1, 57, 0, 0) := by decide +kernel
theorem i208_57 : ins 208 57 = some (.iload_n 2, 58, 0, 0) := by decide +kernel
theorem i208_58 : ins 208 58 = some (.invokevirtual 356, 61, 195, 0) := by decide +kernel
theorem i208_61 : ins 208 61 = some (.ireturn, 62, 0, 0) := by decide +kernel
theorem i208_62 : ins 208 62 = some (.aload_n 0, 63, 0, 0) := by decide +kernel
theorem i208_63 : ins 208 63 = some (.iload_n 1, 64, 0, 0) := by decide +kernel
theorem i208_64 : ins 208 64 = some (.iload_n 2, 65, 0, 0) := by decide +kernel
theorem i208_65 : ins 208 65 = some (.invokevirtual 337, 68, 194, 0) := by decide +kernel
theorem i208_68 : ins 208 68 = some (.aload_n 0, 69, 0, 0) := by decide +kernel
theorem i208_69 : ins 208 69 = some (.getfield 116, 72, 12, 50) := by decide +kernel
theorem i208_72 : ins 208 72 = some (.iload_n 2, 73, 0, 0) := by decide +kernel
theorem i208_73 : ins 208 73 = some (.iaload, 74, 0, 0) := by decide +kernel
theorem i208_74 : ins 208 74 = some (.invokestatic 346, 77, 193, 0) := by decide +kernel
theorem i208_77 : ins 208 77 = some (.ireturn, 78, 0, 0) := by decide +kernel
theorem i208_78 : ins 208 78 = some (.iconst (-1), 79, 0, -1) := by decide +kernel
theorem i208_79 : ins 208 79 = some (.ireturn, 80, 0, 0) := by decide +kernel
theorem i209_0 : ins 209 0 = some (.aload_n 0, 1, 0, 0) := by decide +kernel
theorem i209_1 : ins 209 1 = some (.iload_n 1, 2, 0, 0) := by decide +kernel
theorem i209_2 : ins 209 2 = some (.invokevirtual 387, 5, 185, 0) := by decide +kernel
theorem i209_5 : ins 209 5 = some (.ifCond .ne (5), 8, 10, 0) := by decide +kernel
theorem i209_8 : ins 209 8 = some (.iconst (-1), 9, 0, -1) := by decide +kernel
theorem i209_9 : ins 209 9 = some (.ireturn, 10, 0, 0) := by decide +kernel
theorem i209_10 : ins 209 10 = some (.aload_n 0, 11, 0, 0) := by decide +kernel
theorem i209_11 : ins 209 11 = some (.invokevirtual 390, 14, 189, 0) := by decide +kernel
theorem i209_14 : ins 209 14 = some (.iload_n 2, 15, 0, 0) := by decide +kernel
theorem i209_15 : ins 209 15 = some (.tableswitch (100) (0) (4) #[33, 48, 63, 69, 79], 48, 0, 0) := by decide +kernel
theorem i209_48 : ins 209 48 = some (.aload_n 0, 49, 0, 0) := by decide +kernel
theorem i209_49 : ins 209 49 = some (.getfield 55, 52, 12, 26) := by decide +kernel
theorem i209_52 : ins 209 52 = some (.bipush (6), 54, 0, 6) := by decide +kernel
theorem i209_54 : ins 209 54 = some (.aload_n 0, 55, 0, 0) := by decide +kernel
theorem i209_55 : ins 209 55 = some (.getfield 228, 58, 12, 18) := by decide +kernel
theorem i209_58 : ins 209 58 = some (.imul, 59, 0, 0) := by decide +kernel
theorem i209_59 : ins 209 59 = some (.iload_n 1, 60, 0, 0) := by decide +kernel
theorem i209_60 : ins 209 60 = some (.iadd, 61, 0, 0) := by decide +kernel
theorem i209_61 : ins 209 61 = some (.iaload, 62, 0, 0) := by decide +kernel
theorem i209_62 : ins 209 62 = some (.ireturn, 63, 0, 0) := by decide +kernel
theorem i209_63 : ins 209 63 = some (.aload_n 0, 64, 0, 0) := by decide +kernel
theorem i209_64 : ins 209 64 = some (.getfield 58, 67, 12, 27) := by decide +kernel
theorem i209_67 : ins 209 67 = some (.bipush (6), 69, 0, 6) := by decide +kernel
theorem i209_69 : ins 209 69 = some (.aload_n 0, 70, 0, 0) := by decide +kernel
theorem i209_70 : ins 209 70 = some (.getfield 228, 73, 12, 18) := by decide +kernel
theorem i209_73 : ins 209 73 = some (.imul, 74, 0, 0) := by decide +kernel
theorem i209_74 : ins 209 74 = some (.iload_n 1, 75, 0, 0) := by decide +kernel
theorem i209_75 : ins 209 75 = some (.iadd, 76, 0, 0) := by decide +kernel
theorem i209_76 : ins 209 76 = some (.iaload, 77, 0, 0) := by decide +kernel
theorem i209_77 : ins 209 77 = some (.ireturn, 78, 0, 0) := by decide +kernel
theorem i209_78 : ins 209 78 = some (.aload_n 0, 79, 0, 0) := by decide +kernel
theorem i209_79 : ins 209 79 = some (.iload_n 1, 80, 0, 0) := by decide +kernel
theorem i209_80 : ins 209 80 = some (.invokevirtual 368, 83, 200, 0) := by decide +kernel
theorem i209_83 : ins 209 83 = some (.ireturn, 84, 0, 0) := by decide +kernel
theorem i209_84 : ins 209 84 = some (.aload_n 0, 85, 0, 0) := by decide +kernel
theorem i209_85 : ins 209 85 = some (.getfield 116, 88, 12, 50) := by decide +kernel
theorem i209_88 : ins 209 88 = some (.bipush (46), 90, 0, 46) := by decide +kernel
theorem i209_90 : ins 209 90 = some (.iload_n 1, 91, 0, 0) := by decide +kernel
theorem i209_91 : ins 209 91 = some (.iadd, 92, 0, 0) := by decide +kernel
theorem i209_92 : ins 209 92 = some (.iaload, 93, 0, 0) := by decide +kernel
theorem i209_93 : ins 209 93 = some (.ireturn, 94, 0, 0) := by decide +kernel
theorem i209_94 : ins 209 94 = some (.aload_n 0, 95, 0, 0) := by decide +kernel
theorem i209_95 : ins 209 95 = some (.iload_n 1, 96, 0, 0) := by decide +kernel
theorem i209_96 : ins 209 96 = some (.iconst (0), 97, 0, 0) := by decide +kernel
theorem i209_97 : ins 209 97 = some (.invokevirtual 371, 100, 203, 0) := by decide +kernel
theorem i209_100 : ins 209 100 = some (.ifCond .ge (8), 103, 108, 0) := by decide +kernel
theorem i209_103 : ins 209 103 = some (.bipush (-2), 105, 0, -2) := by decide +kernel
theorem i209_105 : ins 209 105 = some (.goto (9), 108, 114, 0) := by decide +kernel
theorem i209_108 : ins 209 108 = some (.aload_n 0, 109, 0, 0) := by decide +kernel
theorem i209_109 : ins 209 109 = some (.iload_n 1, 110, 0, 0) := by decide +kernel
theorem i209_110 : ins 209 110 = some (.iconst (0), 111, 0, 0) := by decide +kernel
theorem i209_111 : ins 209 111 = some (.invokevirtual 371, 114, 203, 0) := by decide +kernel
theorem i209_114 : ins 209 114 = some (.ireturn, 115, 0, 0) := by decide +kernel
theorem i209_115 : ins 209 115 = some (.iconst (-1), 116, 0, -1) := by decide +kernel
theorem i209_116 : ins 209 116 = some (.ireturn, 117, 0, 0) := by decide +kernel
theorem i210_0 : ins 210 0 = some (.aload_n 0, 1, 0, 0) := by decide +kernel
theorem i210_1 : ins 210 1 = some (.iload_n 1, 2, 0, 0) := by decide +kernel
theorem i210_2 : ins 210 2 = some (.invokevirtual 387, 5, 185, 0) := by decide +kernel
theorem i210_5 : ins 210 5 = some (.ifCond .eq (11), 8, 16, 0) := by decide +kernel
theorem i210_8 : ins 210 8 = some (.aload_n 0, 9, 0, 0) := by decide +kernel
theorem i210_9 : ins 210 9 = some (.iload_n 2, 10, 0, 0) := by decide +kernel
theorem i210_10 : ins 210 10 = some (.invokevirtual 393, 13, 186, 0) := by decide +kernel
theorem i210_13 : ins 210 13 = some (.ifCond .ne (5), 16, 18, 0) := by decide +kernel
theorem i210_16 : ins 210 16 = some (.iconst (-1), 17, 0, -1) := by decide +kernel
theorem i210_17 : ins 210 17 = some (.ireturn, 18, 0, 0) := by decide +kernel
theorem i210_18 : ins 210 18 = some (.aload_n 0, 19, 0, 0) := by decide +kernel
theorem i210_19 : ins 210 19 = some (.invokevirtual 390, 22, 189, 0) := by decide +kernel
theorem i210_22 : ins 210 22 = some (.aload_n 0, 23, 0, 0) := by decide +kernel
theorem i210_23 : ins 210 23 = some (.iload_n 1, 24, 0, 0) := by decide +kernel
theorem i210_24 : ins 210 24 = some (.iload_n 2, 25, 0, 0) := by decide +kernel
theorem i210_25 : ins 210 25 = some (.invokevirtual 362, 28, 199, 0) := by decide +kernel
theorem i210_28 : ins 210 28 = some (.ireturn, 29, 0, 0) := by decide +kernel
theorem i211_0 : ins 211 0 = some (.iload_n 0, 1, 0, 0) := by decide +kernel
theorem i211_1 : ins 211 1 = some (.ifCond .ge (8), 4, 9, 0) := by decide +kernel
theorem i211_4 : ins 211 4 = some (.bipush (-2), 6, 0, -2) := by decide +kernel
theorem i211_6 : ins 211 6 = some (.goto (4), 9, 10, 0) := by decide +kernel
theorem i211_9 : ins 211 9 = some (.iload_n 0, 10, 0, 0) := by decide +kernel
theorem i211_10 : ins 211 10 = some (.ireturn, 11, 0, 0) := by decide +kernel
theorem i212_0 : ins 212 0 = some (.aload_n 0, 1, 0, 0) := by decide +kernel
theorem i212_1 : ins 212 1 = some (.iload_n 1, 2, 0, 0) := by decide +kernel
theorem i212_2 : ins 212 2 = some (.invokevirtual 393, 5, 186, 0) := by decide +kernel
theorem i212_5 : ins 212 5 = some (.ifCond .ne (5), 8, 10, 0) := by decide +kernel
theorem i212_8 : ins 212 8 = some (.iconst (-1), 9, 0, -1) := by decide +kernel
theorem i212_9 : ins 212 9 = some (.ireturn, 10, 0, 0) := by decide +kernel
theorem i212_10 : ins 212 10 = some (.aload_n 0, 11, 0, 0) := by decide +kernel
theorem i212_11 : ins 212 11 = some (.invokevirtual 390, 14, 189, 0) := by decide +kernel
theorem i212_14 : ins 212 14 = some (.aload_n 0, 15, 0, 0) := by decide +kernel
theorem i212_15 : ins 212 15 = some (.iload_n 1, 16, 0, 0) := by decide +kernel
theorem i212_16 : ins 212 16 = some (.invokevirtual 365, 19, 201, 0) := by decide +kernel
theorem i212_19 : ins 212 19 = some (.invokestatic 396, 22, 211, 0) := by decide +kernel
theorem i212_22 : ins 212 22 = some (.ireturn, 23, 0, 0) := by decide +kernel
theorem i213_0 : ins 213 0 = some (.aload_n 0, 1, 0, 0) := by decide +kernel
theorem i213_1 : ins 213 1 = some (.invokevirtual 390, 4, 189, 0) := by decide +kernel
theorem i213_4 : ins 213 4 = some (.aload_n 0, 5, 0, 0) := by decide +kernel
theorem i213_5 : ins 213 5 = some (.invokevirtual 378, 8, 202, 0) := by decide +kernel
theorem i213_8 : ins 213 8 = some (.invokestatic 396, 11, 211, 0) := by decide +kernel
theorem i213_11 : ins 213 11 = some (.ireturn, 12, 0, 0) := by decide +kernel
theorem i214_0 : ins 214 0 = some (.aload_n 0, 1, 0, 0) := by decide +kernel
theorem i214_1 : ins 214 1 = some (.getfield 246, 4, 12, 58) := by decide +kernel
theorem i214_4 : ins 214 4 = some (.bipush (30), 6, 0, 30) := by decide +kernel
theorem i214_6 : ins 214 6 = some (.if_icmp .ne (44), 9, 50, 0) := by decide +kernel
theorem i214_9 : ins 214 9 = some (.iconst (0), 10, 0, 0) := by decide +kernel
theorem i214_10 : ins 214 10 = some (.istore_n 1, 11, 0, 0) := by decide +kernel
theorem i214_11 : ins 214 11 = some (.iload_n 1, 12, 0, 0) := by decide +kernel
theorem i214_12 : ins 214 12 = some (.ldc_w 399, 15, 0, 82940) := by decide +kernel
theorem i214_15 : ins 214 15 = some (.if_icmp .ge (25), 18, 40, 0) := by decide +kernel
theorem i214_18 : ins 214 18 = some (.aload_n 0, 19, 0, 0) := by decide +kernel
theorem i214_19 : ins 214 19 = some (.getfield 126, 22, 12, 59) := by decide +kernel
theorem i214_22 : ins 214 22 = some (.iload_n 1, 23, 0, 0) := by decide +kernel
theorem i214_23 : ins 214 23 = some (.aload_n 0, 24, 0, 0) := by decide +kernel
theorem i214_24 : ins 214 24 = some (.getfield 126, 27, 12, 59) := by decide +kernel
theorem i214_27 : ins 214 27 = some (.iload_n 1, 28, 0, 0) := by decide +kernel
theorem i214_28 : ins 214 28 = some (.sipush (2860), 31, 0, 2860) := by decide +kernel
theorem i214_31 : ins 214 31 = some (.iadd, 32, 0, 0) := by decide +kernel
theorem i214_32 : ins 214 32 = some (.iaload, 33, 0, 0) := by decide +kernel
theorem i214_33 : ins 214 33 = some (.iastore, 34, 0, 0) := by decide +kernel
theorem i214_34 : ins 214 34 = some (.iinc 1 (1), 37, 0, 1) := by decide +kernel
theorem i214_37 : ins 214 37 = some (.goto (-26), 40, 11, 0) := by decide +kernel
theorem i214_40 : ins 214 40 = some (.aload_n 0, 41, 0, 0) := by decide +kernel
theorem i214_41 : ins 214 41 = some (.dup, 42, 0, 0) := by decide +kernel
theorem i214_42 : ins 214 42 = some (.getfield 246, 45, 12, 58) := by decide +kernel
theorem i214_45 : ins 214 45 = some (.iconst (1), 46, 0, 1) := by decide +kernel
theorem i214_46 : ins 214 46 = some (.isub, 47, 0, 0) := by decide +kernel
theorem i214_47 : ins 214 47 = some (.putfield 246, 50, 12, 58) := by decide +kernel
theorem i214_50 : ins 214 50 = some (.iconst (0), 51, 0, 0) := by decide +kernel
theorem i214_51 : ins 214 51 = some (.istore_n 1, 52, 0, 0) := by decide +kernel
theorem i214_52 : ins 214 52 = some (.iload_n 1, 53, 0, 0) := by decide +kernel
theorem i214_53 : ins 214 53 = some (.sipush (2860), 56, 0, 2860) := by decide +kernel
theorem i214_56 : ins 214 56 = some (.if_icmp .ge (30), 59, 86, 0) := by decide +kernel
theorem i214_59 : ins 214 59 = some (.aload_n 0, 60, 0, 0) := by decide +kernel
theorem i214_60 : ins 214 60 = some (.getfield 126, 63, 12, 59) := by decide +kernel
theorem i214_63 : ins 214 63 = some (.sipush (2860), 66, 0, 2860) := by decide +kernel
theorem i214_66 : ins 214 66 = some (.aload_n 0, 67, 0, 0) := by decide +kernel
theorem i214_67 : ins 214 67 = some (.getfield 246, 70, 12, 58) := by decide +kernel
theorem i214_70 : ins 214 70 = some (.imul, 71, 0, 0) := by decide +kernel
theorem i214_71 : ins 214 71 = some (.iload_n 1, 72, 0, 0) := by decide +kernel
theorem i214_72 : ins 214 72 = some (.iadd, 73, 0, 0) := by decide +kernel
theorem i214_73 : ins 214 73 = some (.aload_n 0, 74, 0, 0) := by decide +kernel
theorem i214_74 : ins 214 74 = some (.getfield 113, 77, 12, 49) := by decide +kernel
theorem i214_77 : ins 214 77 = some (.iload_n 1, 78, 0, 0) := by decide +kernel
theorem i214_78 : ins 214 78 = some (.iaload, 79, 0, 0) := by decide +kernel
theorem i214_79 : ins 214 79 = some (.iastore, 80, 0, 0) := by decide +kernel
theorem i214_80 : ins 214 80 = some (.iinc 1 (1), 83, 0, 1) := by decide +kernel
theorem i214_83 : ins 214 83 = some (.goto (-31), 86, 52, 0) := by decide +kernel
theorem i214_86 : ins 214 86 = some (.aload_n 0, 87, 0, 0) := by decide +kernel
theorem i214_87 : ins 214 87 = some (.dup, 88, 0, 0) := by decide +kernel
theorem i214_88 : ins 214 88 = some (.getfield 246, 91, 12, 58) := by decide +kernel
theorem i214_91 : ins 214 91 = some (.iconst (1), 92, 0, 1) := by decide +kernel
theorem i214_92 : ins 214 92 = some (.iadd, 93, 0, 0) := by decide +kernel
theorem i214_93 : ins 214 93 = some (.putfield 246, 96, 12, 58) := by decide +kernel
theorem i214_96 : ins 214 96 = some (.iconst (0), 97, 0, 0) := by decide +kernel
theorem i214_97 : ins 214 97 = some (.istore_n 1, 98, 0, 0) := by decide +kernel
theorem i214_98 : ins 214 98 = some (.iload_n 1, 99, 0, 0) := by decide +kernel
theorem i214_99 : ins 214 99 = some (.sipush (2860), 102, 0, 2860) := by decide +kernel
theorem i214_102 : ins 214 102 = some (.if_icmp .ge (21), 105, 123, 0) := by decide +kernel
theorem i214_105 : ins 214 105 = some (.aload_n 0, 106, 0, 0) := by decide +kernel
theorem i214_106 : ins 214 106 = some (.getfield 113, 109, 12, 49) := by decide +kernel
theorem i214_109 : ins 214 109 = some (.iload_n 1, 110, 0, 0) := by decide +kernel
theorem i214_110 : ins 214 110 = some (.aload_n 0, 111, 0, 0) := by decide +kernel
theorem i214_111 : ins 214 111 = some (.getfield 116, 114, 12, 50) := by decide +kernel
theorem i214_114 : ins 214 114 = some (.iload_n 1, 115, 0, 0) := by decide +kernel
theorem i214_115 : ins 214 115 = some (.iaload, 116, 0, 0) := by decide +kernel
theorem i214_116 : ins 214 116 = some (.iastore, 117, 0, 0) := by decide +kernel
theorem i214_117 : ins 214 117 = some (.iinc 1 (1), 120, 0, 1) := by decide +kernel
theorem i214_120 : ins 214 120 = some (.goto (-22), 123, 98, 0) := by decide +kernel
theorem i214_123 : ins 214 123 = some (.return_, 124, 0, 0) := by decide +kernel
theorem i215_0 : ins 215 0 = some (.aload_n 0, 1, 0, 0) := by decide +kernel
theorem i215_1 : ins 215 1 = some (.iload_n 1, 2, 0, 0) := by decide +kernel
theorem i215_2 : ins 215 2 = some (.invokevirtual 387, 5, 185, 0) := by decide +kernel
theorem i215_5 : ins 215 5 = some (.ifCond .eq (21), 8, 26, 0) := by decide +kernel
theorem i215_8 : ins 215 8 = some (.aload_n 0, 9, 0, 0) := by decide +kernel
theorem i215_9 : ins 215 9 = some (.iload_n 2, 10, 0, 0) := by decide +kernel
theorem i215_10 : ins 215 10 = some (.invokevirtual 384, 13, 184, 0) := by decide +kernel
theorem i215_13 : ins 215 13 = some (.ifCond .eq (13), 16, 26, 0) := by decide +kernel
theorem i215_16 : ins 215 16 = some (.iload_n 3, 17, 0, 0) := by decide +kernel
theorem i215_17 : ins 215 17 = some (.iconst (1), 18, 0, 1) := by decide +kernel
theorem i215_18 : ins 215 18 = some (.bipush (99), 20, 0, 99) := by decide +kernel
theorem i215_20 : ins 215 20 = some (.invokestatic 311, 23, 183, 0) := by decide +kernel
theorem i215_23 : ins 215 23 = some (.ifCond .ne (5), 26, 28, 0) := by decide +kernel
theorem i215_26 : ins 215 26 = some (.iconst (-1), 27, 0, -1) := by decide +kernel
theorem i215_27 : ins 215 27 = some (.ireturn, 28, 0, 0) := by decide +kernel
theorem i215_28 : ins 215 28 = some (.aload_n 0, 29, 0, 0) := by decide +kernel
theorem i215_29 : ins 215 29 = some (.invokevirtual 400, 32, 190, 0) := by decide +kernel
theorem i215_32 : ins 215 32 = some (.aload_n 0, 33, 0, 0) := by decide +kernel
theorem i215_33 : ins 215 33 = some (.iload_n 1, 34, 0, 0) := by decide +kernel
theorem i215_34 : ins 215 34 = some (.iload_n 2, 35, 0, 0) := by decide +kernel
theorem i215_35 : ins 215 35 = some (.iload_n 3, 36, 0, 0) := by decide +kernel
theorem i215_36 : ins 215 36 = some (.invokevirtual 374, 39, 204, 0) := by decide +kernel
theorem i215_39 : ins 215 39 = some (.aload_n 0, 40, 0, 0) := by decide +kernel
theorem i215_40 : ins 215 40 = some (.iload_n 1, 41, 0, 0) := by decide +kernel
theorem i215_41 : ins 215 41 = some (.iload_n 2, 42, 0, 0) := by decide +kernel
theorem i215_42 : ins 215 42 = some (.invokevirtual 337, 45, 194, 0) := by decide +kernel
theorem i215_45 : ins 215 45 = some (.aload_n 0, 46, 0, 0) := by decide +kernel
theorem i215_46 : ins 215 46 = some (.getfield 116, 49, 12, 50) := by decide +kernel
theorem i215_49 : ins 215 49 = some (.iload_n 2, 50, 0, 0) := by decide +kernel
theorem i215_50 : ins 215 50 = some (.iaload, 51, 0, 0) := by decide +kernel
theorem i215_51 : ins 215 51 = some (.invokestatic 346, 54, 193, 0) := by decide +kernel
theorem i215_54 : ins 215 54 = some (.istore 4, 56, 0, 0) := by decide +kernel
theorem i215_56 : ins 215 56 = some (.aload_n 0, 57, 0, 0) := by decide +kernel
theorem i215_57 : ins 215 57 = some (.invokevirtual 403, 60, 214, 0) := by decide +kernel
theorem i215_60 : ins 215 60 = some (.iload 4, 62, 0, 0) := by decide +kernel
theorem i215_62 : ins 215 62 = some (.ireturn, 63, 0, 0) := by decide +kernel
theorem i216_0 : ins 216 0 = some (.iload_n 1, 1, 0, 0) := by decide +kernel
theorem i216_1 : ins 216 1 = some (.iconst (0), 2, 0, 0) := by decide +kernel
theorem i216_2 : ins 216 2 = some (.bipush (100), 4, 0, 100) := by decide +kernel
theorem i216_4 : ins 216 4 = some (.invokestatic 311, 7, 183, 0) := by decide +kernel
theorem i216_7 : ins 216 7 = some (.ifCond .ne (5), 10, 12, 0) := by decide +kernel
theorem i216_10 : ins 216 10 = some (.iconst (-1), 11, 0, -1) := by decide +kernel
theorem i216_11 : ins 216 11 = some (.ireturn, 12, 0, 0) := by decide +kernel
theorem i216_12 : ins 216 12 = some (.iload_n 1, 13, 0, 0) := by decide +kernel
theorem i216_13 : ins 216 13 = some (.ifCond .ne (11), 16, 24, 0) := by decide +kernel
theorem i216_16 : ins 216 16 = some (.aload_n 0, 17, 0, 0) := by decide +kernel
theorem i216_17 : ins 216 17 = some (.getfield 113, 20, 12, 49) := by decide +kernel
theorem i216_20 : ins 216 20 = some (.bipush (42), 22, 0, 42) := by decide +kernel
theorem i216_22 : ins 216 22 = some (.iaload, 23, 0, 0) := by decide +kernel
theorem i216_23 : ins 216 23 = some (.ireturn, 24, 0, 0) := by decide +kernel
theorem i216_24 : ins 216 24 = some (.aload_n 0, 25, 0, 0) := by decide +kernel
theorem i216_25 : ins 216 25 = some (.invokevirtual 400, 28, 190, 0) := by decide +kernel
theorem i216_28 : ins 216 28 = some (.iconst (0), 29, 0, 0) := by decide +kernel
theorem i216_29 : ins 216 29 = some (.istore_n 2, 30, 0, 0) := by decide +kernel
theorem i216_30 : ins 216 30 = some (.iload_n 2, 31, 0, 0) := by decide +kernel
theorem i216_31 : ins 216 31 = some (.iload_n 1, 32, 0, 0) := by decide +kernel
theorem i216_32 : ins 216 32 = some (.if_icmp .ge (13), 35, 45, 0) := by decide +kernel
theorem i216_35 : ins 216 35 = some (.aload_n 0, 36, 0, 0) := by decide +kernel
theorem i216_36 : ins 216 36 = some (.invokevirtual 406, 39, 205, 0) := by decide +kernel
theorem i216_39 : ins 216 39 = some (.iinc 2 (1), 42, 0, 1) := by decide +kernel
theorem i216_42 : ins 216 42 = some (.goto (-12), 45, 30, 0) := by decide +kernel
theorem i216_45 : ins 216 45 = some (.aload_n 0, 46, 0, 0) := by decide +kernel
theorem i216_46 : ins 216 46 = some (.invokevirtual 403, 49, 214, 0) := by decide +kernel
theorem i216_49 : ins 216 49 = some (.aload_n 0, 50, 0, 0) := by decide +kernel
theorem i216_50 : ins 216 50 = some (.getfield 113, 53, 12, 49) := by decide +kernel
theorem i216_53 : ins 216 53 = some (.bipush (42), 55, 0, 42) := by decide +kernel
theorem i216_55 : ins 216 55 = some (.iaload, 56, 0, 0) := by decide +kernel
theorem i216_56 : ins 216 56 = some (.ireturn, 57, 0, 0) := by decide +kernel
theorem i217_0 : ins 217 0 = some (.aload_n 0, 1, 0, 0) := by decide +kernel
theorem i217_1 : ins 217 1 = some (.getfield 246, 4, 12, 58) := by decide +kernel
theorem i217_4 : ins 217 4 = some (.ifCond .ne (5), 7, 9, 0) := by decide +kernel
theorem i217_7 : ins 217 7 = some (.iconst (0), 8, 0, 0) := by decide +kernel
theorem i217_8 : ins 217 8 = some (.ireturn, 9, 0, 0) := by decide +kernel
theorem i217_9 : ins 217 9 = some (.aload_n 0, 10, 0, 0) := by decide +kernel
theorem i217_10 : ins 217 10 = some (.dup, 11, 0, 0) := by decide +kernel
theorem i217_11 : ins 217 11 = some (.getfield 246, 14, 12, 58) := by decide +kernel
theorem i217_14 : ins 217 14 = some (.iconst (1), 15, 0, 1) := by decide +kernel
theorem i217_15 : ins 217 15 = some (.isub, 16, 0, 0) := by decide +kernel
theorem i217_16 : ins 217 16 = some (.putfield 246, 19, 12, 58) := by decide +kernel
theorem i217_19 : ins 217 19 = some (.iconst (0), 20, 0, 0) := by decide +kernel
theorem i217_20 : ins 217 20 = some (.istore_n 1, 21, 0, 0) := by decide +kernel
theorem i217_21 : ins 217 21 = some (.iload_n 1, 22, 0, 0) := by decide +kernel
theorem i217_22 : ins 217 22 = some (.sipush (2860), 25, 0, 2860) := by decide +kernel
theorem i217_25 : ins 217 25 = some (.if_icmp .ge (30), 28, 55, 0) := by decide +kernel
theorem i217_28 : ins 217 28 = some (.aload_n 0, 29, 0, 0) := by decide +kernel
theorem i217_29 : ins 217 29 = some (.getfield 113, 32, 12, 49) := by decide +kernel
theorem i217_32 : ins 217 32 = some (.iload_n 1, 33, 0, 0) := by decide +kernel
theorem i217_33 : ins 217 33 = some (.aload_n 0, 34, 0, 0) := by decide +kernel
theorem i217_34 : ins 217 34 = some (.getfield 126, 37, 12, 59) := by decide +kernel
theorem i217_37 : ins 217 37 = some (.sipush (2860), 40, 0, 2860) := by decide +kernel
theorem i217_40 : ins 217 40 = some (.aload_n 0, 41, 0, 0) := by decide +kernel
theorem i217_41 : ins 217 41 = some (.getfield 246, 44, 12, 58) := by decide +kernel
theorem i217_44 : ins 217 44 = some (.imul, 45, 0, 0) := by decide +kernel
theorem i217_45 : ins 217 45 = some (.iload_n 1, 46, 0, 0) := by decide +kernel
theorem i217_46 : ins 217 46 = some (.iadd, 47, 0, 0) := by decide +kernel
theorem i217_47 : ins 217 47 = some (.iaload, 48, 0, 0) := by decide +kernel
theorem i217_48 : ins 217 48 = some (.iastore, 49, 0, 0) := by decide +kernel
theorem i217_49 : ins 217 49 = some (.iinc 1 (1), 52, 0, 1) := by decide +kernel
theorem i217_52 : ins 217 52 = some (.goto (-31), 55, 21, 0) := by decide +kernel
theorem i217_55 : ins 217 55 = some (.iconst (1), 56, 0, 1) := by decide +kernel
theorem i217_56 : ins 217 56 = some (.ireturn, 57, 0, 0) := by decide +kernel
theorem i218_0 : ins 218 0 = some (.iload_n 1, 1, 0, 0) := by decide +kernel
theorem i218_1 : ins 218 1 = some (.iconst (0), 2, 0, 0) := by decide +kernel
theorem i218_2 : ins 218 2 = some (.aload_n 0, 3, 0, 0) := by decide +kernel
theorem i218_3 : ins 218 3 = some (.getfield 113, 6, 12, 49) := by decide +kernel
theorem i218_6 : ins 218 6 = some (.bipush (45), 8, 0, 45) := by decide +kernel
theorem i218_8 : ins 218 8 = some (.iaload, 9, 0, 0) := by decide +kernel
theorem i218_9 : ins 218 9 = some (.iconst (1), 10, 0, 1) := by decide +kernel
theorem i218_10 : ins 218 10 = some (.isub, 11, 0, 0) := by decide +kernel
theorem i218_11 : ins 218 11 = some (.invokestatic 311, 14, 183, 0) := by decide +kernel
theorem i218_14 : ins 218 14 = some (.ifCond .ne (5), 17, 19, 0) := by decide +kernel
theorem i218_17 : ins 218 17 = some (.iconst (-1), 18, 0, -1) := by decide +kernel
theorem i218_18 : ins 218 18 = some (.ireturn, 19, 0, 0) := by decide +kernel
theorem i218_19 : ins 218 19 = some (.iload_n 2, 20, 0, 0) := by decide +kernel
theorem i218_20 : ins 218 20 = some (.iconst (-1), 21, 0, -1) := by decide +kernel
theorem i218_21 : ins 218 21 = some (.if_icmp .ne (19), 24, 40, 0) := by decide +kernel
theorem i218_24 : ins 218 24 = some (.aload_n 0, 25, 0, 0) := by decide +kernel
theorem i218_25 : ins 218 25 = some (.getfield 113, 28, 12, 49) := by decide +kernel
theorem i218_28 : ins 218 28 = some (.bipush (66), 30, 0, 66) := by decide +kernel
theorem i218_30 : ins 218 30 = some (.bipush (7), 32, 0, 7) := by decide +kernel
theorem i218_32 : ins 218 32 = some (.iload_n 1, 33, 0, 0) := by decide +kernel
theorem i218_33 : ins 218 33 = some (.imul, 34, 0, 0) := by decide +kernel
theorem i218_34 : ins 218 34 = some (.iadd, 35, 0, 0) := by decide +kernel
theorem i218_35 : ins 218 35 = some (.iaload, 36, 0, 0) := by decide +kernel
theorem i218_36 : ins 218 36 = some (.invokestatic 396, 39, 211, 0) := by decide +kernel
theorem i218_39 : ins 218 39 = some (.ireturn, 40, 0, 0) := by decide +kernel
theorem i218_40 : ins 218 40 = some (.aload_n 0, 41, 0, 0) := by decide +kernel
theorem i218_41 : ins 218 41 = some (.iload_n 2, 42, 0, 0) := by decide +kernel
theorem i218_42 : ins 218 42 = some (.invokevirtual 384, 45, 184, 0) := by decide +kernel
theorem i218_45 : ins 218 45 = some (.ifCond .eq (20), 48, 65, 0) := by decide +kernel
theorem i218_48 : ins 218 48 = some (.aload_n 0, 49, 0, 0) := by decide +kernel
theorem i218_49 : ins 218 49 = some (.getfield 113, 52, 12, 49) := by decide +kernel
theorem i218_52 : ins 218 52 = some (.bipush (60), 54, 0, 60) := by decide +kernel
theorem i218_54 : ins 218 54 = some (.bipush (7), 56, 0, 7) := by decide +kernel
theorem i218_56 : ins 218 56 = some (.iload_n 1, 57, 0, 0) := by decide +kernel
theorem i218_57 : ins 218 57 = some (.imul, 58, 0, 0) := by decide +kernel
theorem i218_58 : ins 218 58 = some (.iadd, 59, 0, 0) := by decide +kernel
theorem i218_59 : ins 218 59 = some (.iload_n 2, 60, 0, 0) := by decide +kernel
theorem i218_60 : ins 218 60 = some (.iadd, 61, 0, 0) := by decide +kernel
theorem i218_61 : ins 218 61 = some (.iaload, 62, 0, 0) := by decide +kernel
theorem i218_62 : ins 218 62 = some (.goto (4), 65, 66, 0) := by decide +kernel
theorem i218_65 : ins 218 65 = some (.iconst (-1), 66, 0, -1) := by decide +kernel
theorem i218_66 : ins 218 66 = some (.ireturn, 67, 0, 0) := by decide +kernel
theorem i219_0 : ins 219 0 = some (.aload_n 0, 1, 0, 0) := by decide +kernel
theorem i219_1 : ins 219 1 = some (.getfield 116, 4, 12, 50) := by decide +kernel
theorem i219_4 : ins 219 4 = some (.bipush (6), 6, 0, 6) := by decide +kernel
theorem i219_6 : ins 219 6 = some (.bipush (6), 8, 0, 6) := by decide +kernel
theorem i219_8 : ins 219 8 = some (.iload_n 1, 9, 0, 0) := by decide +kernel
theorem i219_9 : ins 219 9 = some (.imul, 10, 0, 0) := by decide +kernel
theorem i219_10 : ins 219 10 = some (.iadd, 11, 0, 0) := by decide +kernel
theorem i219_11 : ins 219 11 = some (.iload_n 2, 12, 0, 0) := by decide +kernel
theorem i219_12 : ins 219 12 = some (.iadd, 13, 0, 0) := by decide +kernel
theorem i219_13 : ins 219 13 = some (.iaload, 14, 0, 0) := by decide +kernel
theorem i219_14 : ins 219 14 = some (.istore 4, 16, 0, 0) := by decide +kernel
theorem i219_16 : ins 219 16 = some (.aload_n 0, 17, 0, 0) := by decide +kernel
theorem i219_17 : ins 219 17 = some (.iload_n 1, 18, 0, 0) := by decide +kernel
theorem i219_18 : ins 219 18 = some (.iload_n 2, 19, 0, 0) := by decide +kernel
theorem i219_19 : ins 219 19 = some (.iload_n 3, 20, 0, 0) := by decide +kernel
theorem i219_20 : ins 219 20 = some (.invokevirtual 374, 23, 204, 0) := by decide +kernel
theorem i219_23 : ins 219 23 = some (.aload_n 0, 24, 0, 0) := by decide +kernel
theorem i219_24 : ins 219 24 = some (.getfield 116, 27, 12, 50) := by decide +kernel
theorem i219_27 : ins 219 27 = some (.bipush (6), 29, 0, 6) := by decide +kernel
theorem i219_29 : ins 219 29 = some (.bipush (6), 31, 0, 6) := by decide +kernel
theorem i219_31 : ins 219 31 = some (.iload_n 1, 32, 0, 0) := by decide +kernel
theorem i219_32 : ins 219 32 = some (.imul, 33, 0, 0) := by decide +kernel
theorem i219_33 : ins 219 33 = some (.iadd, 34, 0, 0) := by decide +kernel
theorem i219_34 : ins 219 34 = some (.iload_n 2, 35, 0, 0) := by decide +kernel
theorem i219_35 : ins 219 35 = some (.iadd, 36, 0, 0) := by decide +kernel
theorem i219_36 : ins 219 36 = some (.iaload, 37, 0, 0) := by decide +kernel
theorem i219_37 : ins 219 37 = some (.istore 5, 39, 0, 0) := by decide +kernel
theorem i219_39 : ins 219 39 = some (.aload_n 0, 40, 0, 0) := by decide +kernel
theorem i219_40 : ins 219 40 = some (.getfield 116, 43, 12, 50) := by decide +kernel
theorem i219_43 : ins 219 43 = some (.bipush (6), 45, 0, 6) := by decide +kernel
theorem i219_45 : ins 219 45 = some (.bipush (6), 47, 0, 6) := by decide +kernel
theorem i219_47 : ins 219 47 = some (.iload_n 1, 48, 0, 0) := by decide +kernel
theorem i219_48 : ins 219 48 = some (.imul, 49, 0, 0) := by decide +kernel
theorem i219_49 : ins 219 49 = some (.iadd, 50, 0, 0) := by decide +kernel
theorem i219_50 : ins 219 50 = some (.iload_n 2, 51, 0, 0) := by decide +kernel
theorem i219_51 : ins 219 51 = some (.iadd, 52, 0, 0) := by decide +kernel
theorem i219_52 : ins 219 52 = some (.iload 4, 54, 0, 0) := by decide +kernel
theorem i219_54 : ins 219 54 = some (.iastore, 55, 0, 0) := by decide +kernel
theorem i219_55 : ins 219 55 = some (.iconst (0), 56, 0, 0) := by decide +kernel
theorem i219_56 : ins 219 56 = some (.istore 6, 58, 0, 0) := by decide +kernel
theorem i219_58 : ins 219 58 = some (.iconst (0), 59, 0, 0) := by decide +kernel
theorem i219_59 : ins 219 59 = some (.istore 7, 61, 0, 0) := by decide +kernel
theorem i219_61 : ins 219 61 = some (.iload 7, 63, 0, 0) := by decide +kernel
theorem i219_63 : ins 219 63 = some (.aload_n 0, 64, 0, 0) := by decide +kernel
theorem i219_64 : ins 219 64 = some (.getfield 64, 67, 12, 29) := by decide +kernel
theorem i219_67 : ins 219 67 = some (.aload_n 0, 68, 0, 0) := by decide +kernel
theorem i219_68 : ins 219 68 = some (.getfield 228, 71, 12, 18) := by decide +kernel
theorem i219_71 : ins 219 71 = some (.iaload, 72, 0, 0) := by decide +kernel
theorem i219_72 : ins 219 72 = some (.if_icmp .ge (23), 75, 95, 0) := by decide +kernel
theorem i219_75 : ins 219 75 = some (.iload 6, 77, 0, 0) := by decide +kernel
theorem i219_77 : ins 219 77 = some (.aload_n 0, 78, 0, 0) := by decide +kernel
theorem i219_78 : ins 219 78 = some (.iload 7, 80, 0, 0) := by decide +kernel
theorem i219_80 : ins 219 80 = some (.iload_n 2, 81, 0, 0) := by decide +kernel
theorem i219_81 : ins 219 81 = some (.iload 5, 83, 0, 0) := by decide +kernel
theorem i219_83 : ins 219 83 = some (.invokevirtual 359, 86, 198, 0) := by decide +kernel
theorem i219_86 : ins 219 86 = some (.iadd, 87, 0, 0) := by decide +kernel
theorem i219_87 : ins 219 87 = some (.istore 6, 89, 0, 0) := by decide +kernel
theorem i219_89 : ins 219 89 = some (.iinc 7 (1), 92, 0, 1) := by decide +kernel
theorem i219_92 : ins 219 92 = some (.goto (-31), 95, 61, 0) := by decide +kernel
theorem i219_95 : ins 219 95 = some (.iload 6, 97, 0, 0) := by decide +kernel
theorem i219_97 : ins 219 97 = some (.ireturn, 98, 0, 0) := by decide +kernel
theorem i220_0 : ins 220 0 = some (.aload_n 0, 1, 0, 0) := by decide +kernel
theorem i220_1 : ins 220 1 = some (.getfield 46, 4, 12, 23) := by decide +kernel
theorem i220_4 : ins 220 4 = some (.aload_n 0, 5, 0, 0) := by decide +kernel
theorem i220_5 : ins 220 5 = some (.getfield 228, 8, 12, 18) := by decide +kernel
theorem i220_8 : ins 220 8 = some (.iaload, 9, 0, 0) := by decide +kernel
theorem i220_9 : ins 220 9 = some (.istore_n 3, 10, 0, 0) := by decide +kernel
theorem i220_10 : ins 220 10 = some (.iload_n 3, 11, 0, 0) := by decide +kernel
theorem i220_11 : ins 220 11 = some (.ifCond .ne (5), 14, 16, 0) := by decide +kernel
theorem i220_14 : ins 220 14 = some (.iconst (0), 15, 0, 0) := by decide +kernel
theorem i220_15 : ins 220 15 = some (.ireturn, 16, 0, 0) := by decide +kernel
theorem i220_16 : ins 220 16 = some (.iconst (0), 17, 0, 0) := by decide +kernel
theorem i220_17 : ins 220 17 = some (.istore 4, 19, 0, 0) := by decide +kernel
theorem i220_19 : ins 220 19 = some (.iload 4, 21, 0, 0) := by decide +kernel
theorem i220_21 : ins 220 21 = some (.iload_n 3, 22, 0, 0) := by decide +kernel
theorem i220_22 : ins 220 22 = some (.if_icmp .ge (46), 25, 68, 0) := by decide +kernel
theorem i220_25 : ins 220 25 = some (.iconst (0), 26, 0, 0) := by decide +kernel
theorem i220_26 : ins 220 26 = some (.istore 5, 28, 0, 0) := by decide +kernel
theorem i220_28 : ins 220 28 = some (.iload 5, 30, 0, 0) := by decide +kernel
theorem i220_30 : ins 220 30 = some (.iload_n 2, 31, 0, 0) := by decide +kernel
theorem i220_31 : ins 220 31 = some (.if_icmp .gt (31), 34, 62, 0) := by decide +kernel
theorem i220_34 : ins 220 34 = some (.aload_n 0, 35, 0, 0) := by decide +kernel
theorem i220_35 : ins 220 35 = some (.getfield 135, 38, 12, 62) := by decide +kernel
theorem i220_38 : ins 220 38 = some (.bipush (13), 40, 0, 13) := by decide +kernel
theorem i220_40 : ins 220 40 = some (.iload 4, 42, 0, 0) := by decide +kernel
theorem i220_42 : ins 220 42 = some (.imul, 43, 0, 0) := by decide +kernel
theorem i220_43 : ins 220 43 = some (.iload 5, 45, 0, 0) := by decide +kernel
theorem i220_45 : ins 220 45 = some (.iadd, 46, 0, 0) := by decide +kernel
theorem i220_46 : ins 220 46 = some (.aload_n 0, 47, 0, 0) := by decide +kernel
theorem i220_47 : ins 220 47 = some (.iload_n 1, 48, 0, 0) := by decide +kernel
theorem i220_48 : ins 220 48 = some (.iload 4, 50, 0, 0) := by decide +kernel
theorem i220_50 : ins 220 50 = some (.iload 5, 52, 0, 0) := by decide +kernel
theorem i220_52 : ins 220 52 = some (.invokevirtual 409, 55, 219, 0) := by decide +kernel
theorem i220_55 : ins 220 55 = some (.iastore, 56, 0, 0) := by decide +kernel
theorem i220_56 : ins 220 56 = some (.iinc 5 (1), 59, 0, 1) := by decide +kernel
theorem i220_59 : ins 220 59 = some (.goto (-31), 62, 28, 0) := by decide +kernel
theorem i220_62 : ins 220 62 = some (.iinc 4 (1), 65, 0, 1) := by decide +kernel
theorem i220_65 : ins 220 65 = some (.goto (-46), 68, 19, 0) := by decide +kernel
theorem i220_68 : ins 220 68 = some (.iconst (0), 69, 0, 0) := by decide +kernel
theorem i220_69 : ins 220 69 = some (.istore 4, 71, 0, 0) := by decide +kernel
theorem i220_71 : ins 220 71 = some (.iload 4, 73, 0, 0) := by decide +kernel
theorem i220_73 : ins 220 73 = some (.iload_n 2, 74, 0, 0) := by decide +kernel
theorem i220_74 : ins 220 74 = some (.if_icmp .gt (33), 77, 107, 0) := by decide +kernel
theorem i220_77 : ins 220 77 = some (.aload_n 0, 78, 0, 0) := by decide +kernel
theorem i220_78 : ins 220 78 = some (.getfield 129, 81, 12, 60) := by decide +kernel
theorem i220_81 : ins 220 81 = some (.bipush (13), 83, 0, 13) := by decide +kernel
theorem i220_83 : ins 220 83 = some (.iload_n 3, 84, 0, 0) := by decide +kernel
theorem i220_84 : ins 220 84 = some (.imul, 85, 0, 0) := by decide +kernel
theorem i220_85 : ins 220 85 = some (.iload 4, 87, 0, 0) := by decide +kernel
theorem i220_87 : ins 220 87 = some (.iadd, 88, 0, 0) := by decide +kernel
theorem i220_88 : ins 220 88 = some (.iload 4, 90, 0, 0) := by decide +kernel
theorem i220_90 : ins 220 90 = some (.ifCond .ne (7), 93, 97, 0) := by decide +kernel
theorem i220_93 : ins 220 93 = some (.iconst (0), 94, 0, 0) := by decide +kernel
theorem i220_94 : ins 220 94 = some (.goto (6), 97, 100, 0) := by decide +kernel
theorem i220_97 : ins 220 97 = some (.ldc_w 412, 100, 0, 1000000) := by decide +kernel
theorem i220_100 : ins 220 100 = some (.iastore, 101, 0, 0) := by decide +kernel
theorem i220_101 : ins 220 101 = some (.iinc 4 (1), 104, 0, 1) := by decide +kernel
theorem i220_104 : ins 220 104 = some (.goto (-33), 107, 71, 0) := by decide +kernel
theorem i220_107 : ins 220 107 = some (.iload_n 3, 108, 0, 0) := by decide +kernel
theorem i220_108 : ins 220 108 = some (.iconst (1), 109, 0, 1) := by decide +kernel
theorem i220_109 : ins 220 109 = some (.isub, 110, 0, 0) := by decide +kernel
theorem i220_110 : ins 220 110 = some (.istore 4, 112, 0, 0) := by decide +kernel
theorem i220_112 : ins 220 112 = some (.iload 4, 114, 0, 0) := by decide +kernel
theorem i220_114 : ins 220 114 = some (.ifCond .lt (105), 117, 219, 0) := by decide +kernel
theorem i220_117 : ins 220 117 = some (.iconst (0), 118, 0, 0) := by decide +kernel
theorem i220_118 : ins 220 118 = some (.istore 5, 120, 0, 0) := by decide +kernel
theorem i220_120 : ins 220 120 = some (.iload 5, 122, 0, 0) := by decide +kernel
theorem i220_122 : ins 220 122 = some (.iload_n 2, 123, 0, 0) := by decide +kernel
theorem i220_123 : ins 220 123 = some (.if_icmp .gt (90), 126, 213, 0) := by decide +kernel
theorem i220_126 : ins 220 126 = some (.ldc_w 412, 129, 0, 1000000) := by decide +kernel
theorem i220_129 : ins 220 129 = some (.istore 6, 131, 0, 0) := by decide +kernel
theorem i220_131 : ins 220 131 = some (.iconst (0), 132, 0, 0) := by decide +kernel
theorem i220_132 : ins 220 132 = some (.istore 7, 134, 0, 0) := by decide +kernel
theorem i220_134 : ins 220 134 = some (.iload 7, 136, 0, 0) := by decide +kernel
theorem i220_136 : ins 220 136 = some (.iload 5, 138, 0, 0) := by decide +kernel
theorem i220_138 : ins 220 138 = some (.if_icmp .gt (54), 141, 192, 0) := by decide +kernel
theorem i220_141 : ins 220 141 = some (.aload_n 0, 142, 0, 0) := by decide +kernel
theorem i220_142 : ins 220 142 = some (.getfield 135, 145, 12, 62) := by decide +kernel
theorem i220_145 : ins 220 145 = some (.bipush (13), 147, 0, 13) := by decide +kernel
theorem i220_147 : ins 220 147 = some (.iload 4, 149, 0, 0) := by decide +kernel
theorem i220_149 : ins 220 149 = some (.imul, 150, 0, 0) := by decide +kernel
theorem i220_150 : ins 220 150 = some (.iload 7, 152, 0, 0) := by decide +kernel
theorem i220_152 : ins 220 152 = some (.iadd, 153, 0, 0) := by decide +kernel
theorem i220_153 : ins 220 153 = some (.iaload, 154, 0, 0) := by decide +kernel
theorem i220_154 : ins 220 154 = some (.aload_n 0, 155, 0, 0) := by decide +kernel
theorem i220_155 : ins 220 155 = some (.getfield 129, 158, 12, 60) := by decide +kernel
theorem i220_158 : ins 220 158 = some (.bipush (13), 160, 0, 13) := by decide +kernel
theorem i220_160 : ins 220 160 = some (.iload 4, 162, 0, 0) := by decide +kernel
theorem i220_162 : ins 220 162 = some (.iconst (1), 163, 0, 1) := by decide +kernel
theorem i220_163 : ins 220 163 = some (.iadd, 164, 0, 0) := by decide +kernel
theorem i220_164 : ins 220 164 = some (.imul, 165, 0, 0) := by decide +kernel
theorem i220_165 : ins 220 165 = some (.iload 5, 167, 0, 0) := by decide +kernel
theorem i220_167 : ins 220 167 = some (.iadd, 168, 0, 0) := by decide +kernel
theorem i220_168 : ins 220 168 = some (.iload 7, 170, 0, 0) := by decide +kernel
theorem i220_170 : ins 220 170 = some (.isub, 171, 0, 0) := by decide +kernel
theorem i220_171 : ins 220 171 = some (.iaload, 172, 0, 0) := by decide +kernel
theorem i220_172 : ins 220 172 = some (.iadd, 173, 0, 0) := by decide +kernel
theorem i220_173 : ins 220 173 = some (.istore 8, 175, 0, 0) := by decide +kernel
theorem i220_175 : ins 220 175 = some (.iload 8, 177, 0, 0) := by decide +kernel
theorem i220_177 : ins 220 177 = some (.iload 6, 179, 0, 0) := by decide +kernel
theorem i220_179 : ins 220 179 = some (.if_icmp .ge (7), 182, 186, 0) := by decide +kernel
theorem i220_182 : ins 220 182 = some (.iload 8, 184, 0, 0) := by decide +kernel
theorem i220_184 : ins 220 184 = some (.istore 6, 186, 0, 0) := by decide +kernel
theorem i220_186 : ins 220 186 = some (.iinc 7 (1), 189, 0, 1) := by decide +kernel
theorem i220_189 : ins 220 189 = some (.goto (-55), 192, 134, 0) := by decide +kernel
theorem i220_192 : ins 220 192 = some (.aload_n 0, 193, 0, 0) := by decide +kernel
theorem i220_193 : ins 220 193 = some (.getfield 129, 196, 12, 60) := by decide +kernel
theorem i220_196 : ins 220 196 = some (.bipush (13), 198, 0, 13) := by decide +kernel
theorem i220_198 : ins 220 198 = some (.iload 4, 200, 0, 0) := by decide +kernel
theorem i220_200 : ins 220 200 = some (.imul, 201, 0, 0) := by decide +kernel
theorem i220_201 : ins 220 201 = some (.iload 5, 203, 0, 0) := by decide +kernel
theorem i220_203 : ins 220 203 = some (.iadd, 204, 0, 0) := by decide +kernel
theorem i220_204 : ins 220 204 = some (.iload 6, 206, 0, 0) := by decide +kernel
theorem i220_206 : ins 220 206 = some (.iastore, 207, 0, 0) := by decide +kernel
theorem i220_207 : ins 220 207 = some (.iinc 5 (1), 210, 0, 1) := by decide +kernel
theorem i220_210 : ins 220 210 = some (.goto (-90), 213, 120, 0) := by decide +kernel
theorem i220_213 : ins 220 213 = some (.iinc 4 (-1), 216, 0, -1) := by decide +kernel
theorem i220_216 : ins 220 216 = some (.goto (-104), 219, 112, 0) := by decide +kernel
theorem i220_219 : ins 220 219 = some (.iload_n 2, 220, 0, 0) := by decide +kernel
theorem i220_220 : ins 220 220 = some (.istore 4, 222, 0, 0) := by decide +kernel
theorem i220_222 : ins 220 222 = some (.iconst (0), 223, 0, 0) := by decide +kernel
theorem i220_223 : ins 220 223 = some (.istore 5, 225, 0, 0) := by decide +kernel
theorem i220_225 : ins 220 225 = some (.iload 5, 227, 0, 0) := by decide +kernel
theorem i220_227 : ins 220 227 = some (.iload_n 3, 228, 0, 0) := by decide +kernel
theorem i220_228 : ins 220 228 = some (.if_icmp .ge (83), 231, 311, 0) := by decide +kernel
theorem i220_231 : ins 220 231 = some (.iload 4, 233, 0, 0) := by decide +kernel
theorem i220_233 : ins 220 233 = some (.istore 6, 235, 0, 0) := by decide +kernel
theorem i220_235 : ins 220 235 = some (.aload_n 0, 236, 0, 0) := by decide +kernel
theorem i220_236 : ins 220 236 = some (.getfield 135, 239, 12, 62) := by decide +kernel
theorem i220_239 : ins 220 239 = some (.bipush (13), 241, 0, 13) := by decide +kernel
theorem i220_241 : ins 220 241 = some (.iload 5, 243, 0, 0) := by decide +kernel
theorem i220_243 : ins 220 243 = some (.imul, 244, 0, 0) := by decide +kernel
theorem i220_244 : ins 220 244 = some (.iload 6, 246, 0, 0) := by decide +kernel
theorem i220_246 : ins 220 246 = some (.iadd, 247, 0, 0) := by decide +kernel
theorem i220_247 : ins 220 247 = some (.iaload, 248, 0, 0) := by decide +kernel
theorem i220_248 : ins 220 248 = some (.aload_n 0, 249, 0, 0) := by decide +kernel
theorem i220_249 : ins 220 249 = some (.getfield 129, 252, 12, 60) := by decide +kernel
theorem i220_252 : ins 220 252 = some (.bipush (13), 254, 0, 13) := by decide +kernel
theorem i220_254 : ins 220 254 = some (.iload 5, 256, 0, 0) := by decide +kernel
theorem i220_256 : ins 220 256 = some (.iconst (1), 257, 0, 1) := by decide +kernel
theorem i220_257 : ins 220 257 = some (.iadd, 258, 0, 0) := by decide +kernel
theorem i220_258 : ins 220 258 = some (.imul, 259, 0, 0) := by decide +kernel
theorem i220_259 : ins 220 259 = some (.iload 4, 261, 0, 0) := by decide +kernel
theorem i220_261 : ins 220 261 = some (.iadd, 262, 0, 0) := by decide +kernel
theorem i220_262 : ins 220 262 = some (.iload 6, 264, 0, 0) := by decide +kernel
theorem i220_264 : ins 220 264 = some (.isub, 265, 0, 0) := by decide +kernel
theorem i220_265 : ins 220 265 = some (.iaload, 266, 0, 0) := by decide +kernel
theorem i220_266 : ins 220 266 = some (.iadd, 267, 0, 0) := by decide +kernel
theorem i220_267 : ins 220 267 = some (.aload_n 0, 268, 0, 0) := by decide +kernel
theorem i220_268 : ins 220 268 = some (.getfield 129, 271, 12, 60) := by decide +kernel
theorem i220_271 : ins 220 271 = some (.bipush (13), 273, 0, 13) := by decide +kernel
theorem i220_273 : ins 220 273 = some (.iload 5, 275, 0, 0) := by decide +kernel
theorem i220_275 : ins 220 275 = some (.imul, 276, 0, 0) := by decide +kernel
theorem i220_276 : ins 220 276 = some (.iload 4, 278, 0, 0) := by decide +kernel
theorem i220_278 : ins 220 278 = some (.iadd, 279, 0, 0) := by decide +kernel
theorem i220_279 : ins 220 279 = some (.iaload, 280, 0, 0) := by decide +kernel
theorem i220_280 : ins 220 280 = some (.if_icmp .eq (9), 283, 289, 0) := by decide +kernel
theorem i220_283 : ins 220 283 = some (.iinc 6 (-1), 286, 0, -1) := by decide +kernel
theorem i220_286 : ins 220 286 = some (.goto (-51), 289, 235, 0) := by decide +kernel
theorem i220_289 : ins 220 289 = some (.aload_n 0, 290, 0, 0) := by decide +kernel
theorem i220_290 : ins 220 290 = some (.getfield 132, 293, 12, 61) := by decide +kernel
theorem i220_293 : ins 220 293 = some (.iload 5, 295, 0, 0) := by decide +kernel
theorem i220_295 : ins 220 295 = some (.iload 6, 297, 0, 0) := by decide +kernel
theorem i220_297 : ins 220 297 = some (.iastore, 298, 0, 0) := by decide +kernel
theorem i220_298 : ins 220 298 = some (.iload 4, 300, 0, 0) := by decide +kernel
theorem i220_300 : ins 220 300 = some (.iload 6, 302, 0, 0) := by decide +kernel
theorem i220_302 : ins 220 302 = some (.isub, 303, 0, 0) := by decide +kernel
theorem i220_303 : ins 220 303 = some (.istore 4, 305, 0, 0) := by decide +kernel
theorem i220_305 : ins 220 305 = some (.iinc 5 (1), 308, 0, 1) := by decide +kernel
theorem i220_308 : ins 220 308 = some (.goto (-83), 311, 225, 0) := by decide +kernel
theorem i220_311 : ins 220 311 = some (.aload_n 0, 312, 0, 0) := by decide +kernel
theorem i220_312 : ins 220 312 = some (.getfield 129, 315, 12, 60) := by decide +kernel
theorem i220_315 : ins 220 315 = some (.iload_n 2, 316, 0, 0) := by decide +kernel
theorem i220_316 : ins 220 316 = some (.iaload, 317, 0, 0) := by decide +kernel
theorem i220_317 : ins 220 317 = some (.ireturn, 318, 0, 0) := by decide +kernel
theorem i221_0 : ins 221 0 = some (.aload_n 0, 1, 0, 0) := by decide +kernel
theorem i221_1 : ins 221 1 = some (.iload_n 1, 2, 0, 0) := by decide +kernel
theorem i221_2 : ins 221 2 = some (.invokevirtual 387, 5, 185, 0) := by decide +kernel
theorem i221_5 : ins 221 5 = some (.ifCond .eq (13), 8, 18, 0) := by decide +kernel
theorem i221_8 : ins 221 8 = some (.iload_n 2, 9, 0, 0) := by decide +kernel
theorem i221_9 : ins 221 9 = some (.iconst (0), 10, 0, 0) := by decide +kernel
theorem i221_10 : ins 221 10 = some (.bipush (12), 12, 0, 12) := by decide +kernel
theorem i221_12 : ins 221 12 = some (.invokestatic 311, 15, 183, 0) := by decide +kernel
theorem i221_15 : ins 221 15 = some (.ifCond .ne (5), 18, 20, 0) := by decide +kernel
theorem i221_18 : ins 221 18 = some (.iconst (-1), 19, 0, -1) := by decide +kernel
theorem i221_19 : ins 221 19 = some (.ireturn, 20, 0, 0) := by decide +kernel
theorem i221_20 : ins 221 20 = some (.aload_n 0, 21, 0, 0) := by decide +kernel
theorem i221_21 : ins 221 21 = some (.invokevirtual 390, 24, 189, 0) := by decide +kernel
theorem i221_24 : ins 221 24 = some (.aload_n 0, 25, 0, 0) := by decide +kernel
theorem i221_25 : ins 221 25 = some (.iload_n 1, 26, 0, 0) := by decide +kernel
theorem i221_26 : ins 221 26 = some (.iload_n 2, 27, 0, 0) := by decide +kernel
theorem i221_27 : ins 221 27 = some (.invokevirtual 413, 30, 220, 0) := by decide +kernel
theorem i221_30 : ins 221 30 = some (.ireturn, 31, 0, 0) := by decide +kernel
theorem i222_0 : ins 222 0 = some (.aload_n 0, 1, 0, 0) := by decide +kernel
theorem i222_1 : ins 222 1 = some (.iload_n 1, 2, 0, 0) := by decide +kernel
theorem i222_2 : ins 222 2 = some (.invokevirtual 387, 5, 185, 0) := by decide +kernel
theorem i222_5 : ins 222 5 = some (.ifCond .eq (21), 8, 26, 0) := by decide +kernel
theorem i222_8 : ins 222 8 = some (.iload_n 2, 9, 0, 0) := by decide +kernel
theorem i222_9 : ins 222 9 = some (.iconst (0), 10, 0, 0) := by decide +kernel
theorem i222_10 : ins 222 10 = some (.bipush (12), 12, 0, 12) := by decide +kernel
theorem i222_12 : ins 222 12 = some (.invokestatic 311, 15, 183, 0) := by decide +kernel
theorem i222_15 : ins 222 15 = some (.ifCond .eq (11), 18, 26, 0) := by decide +kernel
theorem i222_18 : ins 222 18 = some (.aload_n 0, 19, 0, 0) := by decide +kernel
theorem i222_19 : ins 222 19 = some (.iload_n 3, 20, 0, 0) := by decide +kernel
theorem i222_20 : ins 222 20 = some (.invokevirtual 384, 23, 184, 0) := by decide +kernel
theorem i222_23 : ins 222 23 = some (.ifCond .ne (5), 26, 28, 0) := by decide +kernel
theorem i222_26 : ins 222 26 = some (.iconst (-1), 27, 0, -1) := by decide +kernel
theorem i222_27 : ins 222 27 = some (.ireturn, 28, 0, 0) := by decide +kernel
theorem i222_28 : ins 222 28 = some (.aload_n 0, 29, 0, 0) := by decide +kernel
theorem i222_29 : ins 222 29 = some (.invokevirtual 390, 32, 189, 0) := by decide +kernel
theorem i222_32 : ins 222 32 = some (.aload_n 0, 33, 0, 0) := by decide +kernel
theorem i222_33 : ins 222 33 = some (.iload_n 1, 34, 0, 0) := by decide +kernel
theorem i222_34 : ins 222 34 = some (.iload_n 2, 35, 0, 0) := by decide +kernel
theorem i222_35 : ins 222 35 = some (.invokevirtual 413, 38, 220, 0) := by decide +kernel
theorem i222_38 : ins 222 38 = some (.pop, 39, 0, 0) := by decide +kernel
theorem i222_39 : ins 222 39 = some (.aload_n 0, 40, 0, 0) := by decide +kernel
theorem i222_40 : ins 222 40 = some (.getfield 132, 43, 12, 61) := by decide +kernel
theorem i222_43 : ins 222 43 = some (.iload_n 3, 44, 0, 0) := by decide +kernel
theorem i222_44 : ins 222 44 = some (.iaload, 45, 0, 0) := by decide +kernel
theorem i222_45 : ins 222 45 = some (.ireturn, 46, 0, 0) := by decide +kernel
theorem i223_0 : ins 223 0 = some (.aload_n 0, 1, 0, 0) := by decide +kernel
theorem i223_1 : ins 223 1 = some (.iload_n 1, 2, 0, 0) := by decide +kernel
theorem i223_2 : ins 223 2 = some (.invokevirtual 387, 5, 185, 0) := by decide +kernel
theorem i223_5 : ins 223 5 = some (.ifCond .ne (5), 8, 10, 0) := by decide +kernel
theorem i223_8 : ins 223 8 = some (.iconst (-1), 9, 0, -1) := by decide +kernel
theorem i223_9 : ins 223 9 = some (.ireturn, 10, 0, 0) := by decide +kernel
theorem i223_10 : ins 223 10 = some (.iconst (0), 11, 0, 0) := by decide +kernel
theorem i223_11 : ins 223 11 = some (.istore_n 2, 12, 0, 0) := by decide +kernel
theorem i223_12 : ins 223 12 = some (.iload_n 2, 13, 0, 0) := by decide +kernel
theorem i223_13 : ins 223 13 = some (.bipush (12), 15, 0, 12) := by decide +kernel
theorem i223_15 : ins 223 15 = some (.if_icmp .gt (63), 18, 78, 0) := by decide +kernel
theorem i223_18 : ins 223 18 = some (.aload_n 0, 19, 0, 0) := by decide +kernel
theorem i223_19 : ins 223 19 = some (.invokevirtual 390, 22, 189, 0) := by decide +kernel
theorem i223_22 : ins 223 22 = some (.aload_n 0, 23, 0, 0) := by decide +kernel
theorem i223_23 : ins 223 23 = some (.iload_n 1, 24, 0, 0) := by decide +kernel
theorem i223_24 : ins 223 24 = some (.iload_n 2, 25, 0, 0) := by decide +kernel
theorem i223_25 : ins 223 25 = some (.invokevirtual 413, 28, 220, 0) := by decide +kernel
theorem i223_28 : ins 223 28 = some (.pop, 29, 0, 0) := by decide +kernel
theorem i223_29 : ins 223 29 = some (.iconst (0), 30, 0, 0) := by decide +kernel
theorem i223_30 : ins 223 30 = some (.istore_n 3, 31, 0, 0) := by decide +kernel
theorem i223_31 : ins 223 31 = some (.iload_n 3, 32, 0, 0) := by decide +kernel
theorem i223_32 : ins 223 32 = some (.aload_n 0, 33, 0, 0) := by decide +kernel
theorem i223_33 : ins 223 33 = some (.getfield 46, 36, 12, 23) := by decide +kernel
theorem i223_36 : ins 223 36 = some (.aload_n 0, 37, 0, 0) := by decide +kernel
theorem i223_37 : ins 223 37 = some (.getfield 228, 40, 12, 18) := by decide +kernel
theorem i223_40 : ins 223 40 = some (.iaload, 41, 0, 0) := by decide +kernel
theorem i223_41 : ins 223 41 = some (.if_icmp .ge (21), 44, 62, 0) := by decide +kernel
theorem i223_44 : ins 223 44 = some (.aload_n 0, 45, 0, 0) := by decide +kernel
theorem i223_45 : ins 223 45 = some (.iload_n 1, 46, 0, 0) := by decide +kernel
theorem i223_46 : ins 223 46 = some (.iload_n 3, 47, 0, 0) := by decide +kernel
theorem i223_47 : ins 223 47 = some (.aload_n 0, 48, 0, 0) := by decide +kernel
theorem i223_48 : ins 223 48 = some (.getfield 132, 51, 12, 61) := by decide +kernel
theorem i223_51 : ins 223 51 = some (.iload_n 3, 52, 0, 0) := by decide +kernel
theorem i223_52 : ins 223 52 = some (.iaload, 53, 0, 0) := by decide +kernel
theorem i223_53 : ins 223 53 = some (.invokevirtual 374, 56, 204, 0) := by decide +kernel
theorem i223_56 : ins 223 56 = some (.iinc 3 (1), 59, 0, 1) := by decide +kernel
theorem i223_59 : ins 223 59 = some (.goto (-28), 62, 31, 0) := by decide +kernel
theorem i223_62 : ins 223 62 = some (.aload_n 0, 63, 0, 0) := by decide +kernel
theorem i223_63 : ins 223 63 = some (.invokevirtual 378, 66, 202, 0) := by decide +kernel
theorem i223_66 : ins 223 66 = some (.iload_n 1, 67, 0, 0) := by decide +kernel
theorem i223_67 : ins 223 67 = some (.if_icmp .ne (5), 70, 72, 0) := by decide +kernel
theorem i223_70 : ins 223 70 = some (.iload_n 2, 71, 0, 0) := by decide +kernel
theorem i223_71 : ins 223 71 = some (.ireturn, 72, 0, 0) := by decide +kernel
theorem i223_72 : ins 223 72 = some (.iinc 2 (1), 75, 0, 1) := by decide +kernel
theorem i223_75 : ins 223 75 = some (.goto (-63), 78, 12, 0) := by decide +kernel
theorem i223_78 : ins 223 78 = some (.bipush (-2), 80, 0, -2) := by decide +kernel
theorem i223_80 : ins 223 80 = some (.ireturn, 81, 0, 0) := by decide +kernel
theorem i224_0 : ins 224 0 = some (.aload_n 0, 1, 0, 0) := by decide +kernel
theorem i224_1 : ins 224 1 = some (.iload_n 1, 2, 0, 0) := by decide +kernel
theorem i224_2 : ins 224 2 = some (.invokevirtual 393, 5, 186, 0) := by decide +kernel
theorem i224_5 : ins 224 5 = some (.ifCond .ne (5), 8, 10, 0) := by decide +kernel
theorem i224_8 : ins 224 8 = some (.iconst (-1), 9, 0, -1) := by decide +kernel
theorem i224_9 : ins 224 9 = some (.ireturn, 10, 0, 0) := by decide +kernel
theorem i224_10 : ins 224 10 = some (.aload_n 0, 11, 0, 0) := by decide +kernel
theorem i224_11 : ins 224 11 = some (.invokevirtual 390, 14, 189, 0) := by decide +kernel
theorem i224_14 : ins 224 14 = some (.aload_n 0, 15, 0, 0) := by decide +kernel
theorem i224_15 : ins 224 15 = some (.iload_n 1, 16, 0, 0) := by decide +kernel
theorem i224_16 : ins 224 16 = some (.putfield 318, 19, 12, 52) := by decide +kernel
theorem i224_19 : ins 224 19 = some (.aload_n 0, 20, 0, 0) := by decide +kernel
theorem i224_20 : ins 224 20 = some (.invokevirtual 378, 23, 202, 0) := by decide +kernel
theorem i224_23 : ins 224 23 = some (.invokestatic 396, 26, 211, 0) := by decide +kernel
theorem i224_26 : ins 224 26 = some (.ireturn, 27, 0, 0) := by decide +kernel
def Mo_unlikeOf_62 (s0 : Int) (w : Wd) : Option (Int × Wd) :=
  some (s0, w)
theorem s_Mo_unlikeOf_62 {g : Gp} {l : Launch} {D : Nat} (hD : 2 ≤ D) (s0 : Int) (w : Wd) (r : Int × Wd) (h : Mo_unlikeOf_62 s0 w = some r) : Rn g l D 198 62 [] [.inl s0] w (some (.inl r.1)) r.2 := by
  unfold Mo_unlikeOf_62 at h
  obtain rfl := Option.some.inj h
  exact rn_retI i198_62 mr198
def Mo_unlikeOf_0 (a0 : Nat) (x1 : Int) (x2 : Int) (x3 : Int) (w : Wd) : Option (Int × Wd) :=
  (fgR w a0 12 50).bind fun v3 =>
  (rdI w v3 x2).bind fun v7 =>
  (Mo_apart x3 v7 w).bind fun r8 =>
  (fgR r8.2 a0 12 50).bind fun v13 =>
  (rdI r8.2 v13 44).bind fun v18 =>
  (fgR r8.2 a0 12 50).bind fun v21 =>
  (rdI r8.2 v21 x2).bind fun v25 =>
  (Mo_setsOf a0 (r8.1) x2 v18 x3 v25 0 r8.2).bind fun r27 =>
  (Mo_tells a0 x1 r27).bind fun r32 =>
  if (0 : Int) ≤ r32.1 then
    if (r32.1 : Int) ≤ 999 then
      Mo_unlikeOf_62 r32.1 r32.2
    else
      Mo_unlikeOf_62 999 r32.2
  else
    Mo_unlikeOf_62 0 r32.2
theorem s_Mo_unlikeOf_0 {g : Gp} {l : Launch} {D : Nat} (hD : 2 ≤ D) (a0 : Nat) (x1 : Int) (x2 : Int) (x3 : Int) (w : Wd) (r : Int × Wd) (h : Mo_unlikeOf_0 a0 x1 x2 x3 w = some r) : Rn g l D 198 0 [(0, .inr (.inr a0)), (1, .inl x1), (2, .inl x2), (3, .inl x3)] [] w (some (.inl r.1)) r.2 := by
  obtain ⟨D, rfl⟩ : ∃ D1, D = D1 + 1 := ⟨D - 1, by omega⟩
  unfold Mo_unlikeOf_0 at h
  refine fr_aload_n i198_0 rfl ?_
  refine rn_iload_n i198_1 rfl ?_
  refine fr_aload_n i198_2 rfl ?_
  obtain ⟨v3, h3, h⟩ := Option.bind_eq_some_iff.mp h
  refine fr_gR (k := 50) i198_3 tf12_50 h3 ?_
  refine rn_iload_n i198_6 rfl ?_
  obtain ⟨v7, h7, h⟩ := Option.bind_eq_some_iff.mp h
  refine rn_iald i198_7 h7 ?_
  obtain ⟨r8, h8, h⟩ := Option.bind_eq_some_iff.mp h
  refine fr_callS (nst := 0) (As := [.inl x3, .inl v7]) (st := [.inr (.inr a0)]) i198_8 (cq193 x3 v7) rfl (Nat.le_of_ble_eq_true rfl) (S_Mo_apart x3 v7 w r8 h8 _ (by omega)) ?_
  show Rn _ _ _ _ _ _ [.inl r8.1, .inr (.inr a0)] _ _ _
  refine rn_iload_n i198_11 rfl ?_
  refine fr_aload_n i198_12 rfl ?_
  obtain ⟨v13, h13, h⟩ := Option.bind_eq_some_iff.mp h
  refine fr_gR (k := 50) i198_13 tf12_50 h13 ?_
  refine rn_bipush i198_16 ?_
  obtain ⟨v18, h18, h⟩ := Option.bind_eq_some_iff.mp h
  refine rn_iald i198_18 h18 ?_
  refine rn_iload_n i198_19 rfl ?_
  refine fr_aload_n i198_20 rfl ?_
  obtain ⟨v21, h21, h⟩ := Option.bind_eq_some_iff.mp h
  refine fr_gR (k := 50) i198_21 tf12_50 h21 ?_
  refine rn_iload_n i198_24 rfl ?_
  obtain ⟨v25, h25, h⟩ := Option.bind_eq_some_iff.mp h
  refine rn_iald i198_25 h25 ?_
  refine rn_iconst i198_26 ?_
  obtain ⟨r27, h27, h⟩ := Option.bind_eq_some_iff.mp h
  obtain ⟨g27, c27⟩ := S_Mo_setsOf a0 (r8.1) x2 v18 x3 v25 0 r8.2 r27 h27
  refine fr_callV (a := a0) (As := [.inl r8.1, .inl x2, .inl v18, .inl x3, .inl v25, .inl 0]) (st := []) i198_27 (cq197 a0 (r8.1) x2 v18 x3 v25 0) rfl (Nat.le_of_ble_eq_true rfl) g27 (c27 _ (by omega)) ?_
  refine fr_aload_n i198_30 rfl ?_
  refine rn_iload_n i198_31 rfl ?_
  obtain ⟨r32, h32, h⟩ := Option.bind_eq_some_iff.mp h
  obtain ⟨g32, c32⟩ := S_Mo_tells a0 x1 r27 r32 h32
  refine fr_callV (a := a0) (As := [.inl x1]) (st := []) i198_32 (cq196 a0 x1) rfl (Nat.le_of_ble_eq_true rfl) g32 (c32 _ (by omega)) ?_
  show Rn _ _ _ _ _ _ [.inl r32.1] _ _ _
  refine rn_istore (ls1 := [(4, .inl r32.1), (0, .inr (.inr a0)), (1, .inl x1), (2, .inl x2), (3, .inl x3)]) i198_35 rfl ?_
  refine rn_iload i198_37 rfl ?_
  by_cases c39 : (0 : Int) ≤ r32.1
  · rw [if_pos c39] at h
    refine rn_if_ge_t i198_39 c39 ?_
    refine rn_iload i198_46 rfl ?_
    refine rn_sipush i198_48 ?_
    by_cases c51 : (r32.1 : Int) ≤ 999
    · rw [if_pos c51] at h
      refine rn_icmp_le_t i198_51 c51 ?_
      refine rn_iload i198_60 rfl ?_
      exact rn_sub [] rfl (s_Mo_unlikeOf_62 hD r32.1 r32.2 r h)
    · rw [if_neg c51] at h
      refine rn_icmp_le_f i198_51 c51 ?_
      refine rn_sipush i198_54 ?_
      refine rn_goto i198_57 ?_
      exact rn_sub [] rfl (s_Mo_unlikeOf_62 hD 999 r32.2 r h)
  · rw [if_neg c39] at h
    refine rn_if_ge_f i198_39 c39 ?_
    refine rn_iconst i198_42 ?_
    refine rn_goto i198_43 ?_
    exact rn_sub [] rfl (s_Mo_unlikeOf_62 hD 0 r32.2 r h)
/-- HandHeirsModel.unlikeOf(III)I -/
def Mo_unlikeOf (a0 : Nat) (x1 : Int) (x2 : Int) (x3 : Int) (w : Wd) : Option (Int × Wd) := gd 12 w a0 (Mo_unlikeOf_0 a0 x1 x2 x3 w)
theorem S_Mo_unlikeOf {g : Gp} {l : Launch} (a0 : Nat) (x1 : Int) (x2 : Int) (x3 : Int) (w : Wd) (r : Int × Wd) (h : Mo_unlikeOf a0 x1 x2 x3 w = some r) : (wsh w a0).1 = 12 ∧ ∀ D, 2 ≤ D → Rn g l D 198 0 [(0, .inr (.inr a0)), (1, .inl x1), (2, .inl x2), (3, .inl x3)] [] w (some (.inl r.1)) r.2 := by
  obtain ⟨hg, h⟩ := gd_some h
  exact ⟨hg, fun D hD => rn_sub [0, 1, 2, 3] rfl (s_Mo_unlikeOf_0 hD a0 x1 x2 x3 w r h)⟩
def Mo_unlikeTo_5 : Nat → Nat → Int → Int → Int → Int → Wd → Option (Int × Wd)
  | 0, _, _, _, _, _, _ => none
  | n + 1, a0, x1, x2, x3, x4, w =>
    (fgR w a0 12 23).bind fun v8 =>
    (fgI w a0 12 18).bind fun v12 =>
    (rdI w v8 v12).bind fun v15 =>
    if (v15 : Int) ≤ x4 then
      some (x3, w)
    else
      (Mo_writes a0 x1 x4 w).bind fun r28 =>
      (Mo_unlikeOf a0 x2 x4 (r28.1) r28.2).bind fun r31 =>
      Mo_unlikeTo_5 n a0 x1 x2 (w32 (x3 + r31.1)) (w32 (x4 + 1)) r31.2
theorem s_Mo_unlikeTo_5 {g : Gp} {l : Launch} {D : Nat} (hD : 3 ≤ D) : ∀ (n : Nat) (a0 : Nat) (x1 : Int) (x2 : Int) (x3 : Int) (x4 : Int) (w : Wd) (r : Int × Wd), Mo_unlikeTo_5 n a0 x1 x2 x3 x4 w = some r → Rn g l D 199 5 [(0, .inr (.inr a0)), (1, .inl x1), (2, .inl x2), (3, .inl x3), (4, .inl x4)] [] w (some (.inl r.1)) r.2 := by
  obtain ⟨D, rfl⟩ : ∃ D1, D = D1 + 1 := ⟨D - 1, by omega⟩
  intro n
  induction n with
  | zero => intro a0 x1 x2 x3 x4 w r h; cases (show (none : Option (Int × Wd)) = some r from h)
  | succ n ih =>
    intro a0 x1 x2 x3 x4 w r h
    unfold Mo_unlikeTo_5 at h
    refine rn_iload i199_5 rfl ?_
    refine fr_aload_n i199_7 rfl ?_
    obtain ⟨v8, h8, h⟩ := Option.bind_eq_some_iff.mp h
    refine fr_gR (k := 23) i199_8 tf12_23 h8 ?_
    refine fr_aload_n i199_11 rfl ?_
    obtain ⟨v12, h12, h⟩ := Option.bind_eq_some_iff.mp h
    refine fr_gI (k := 18) i199_12 tf12_18 h12 ?_
    obtain ⟨v15, h15, h⟩ := Option.bind_eq_some_iff.mp h
    refine rn_iald i199_15 h15 ?_
    by_cases c16 : (v15 : Int) ≤ x4
    · rw [if_pos c16] at h
      refine rn_icmp_ge_t i199_16 c16 ?_
      refine rn_iload_n i199_42 rfl ?_
      obtain rfl := Option.some.inj h
      exact rn_retI i199_43 mr199
    · rw [if_neg c16] at h
      refine rn_icmp_ge_f i199_16 c16 ?_
      refine rn_iload_n i199_19 rfl ?_
      refine fr_aload_n i199_20 rfl ?_
      refine rn_iload_n i199_21 rfl ?_
      refine rn_iload i199_22 rfl ?_
      refine fr_aload_n i199_24 rfl ?_
      refine rn_iload_n i199_25 rfl ?_
      refine rn_iload i199_26 rfl ?_
      obtain ⟨r28, h28, h⟩ := Option.bind_eq_some_iff.mp h
      obtain ⟨g28, c28⟩ := S_Mo_writes a0 x1 x4 w r28 h28
      refine fr_callV (a := a0) (As := [.inl x1, .inl x4]) (st := [.inl x4, .inl x2, .inr (.inr a0), .inl x3]) i199_28 (cq195 a0 x1 x4) rfl (Nat.le_of_ble_eq_true rfl) g28 (c28 _ (by omega)) ?_
      show Rn _ _ _ _ _ _ [.inl r28.1, .inl x4, .inl x2, .inr (.inr a0), .inl x3] _ _ _
      obtain ⟨r31, h31, h⟩ := Option.bind_eq_some_iff.mp h
      obtain ⟨g31, c31⟩ := S_Mo_unlikeOf a0 x2 x4 (r28.1) r28.2 r31 h31
      refine fr_callV (a := a0) (As := [.inl x2, .inl x4, .inl r28.1]) (st := [.inl x3]) i199_31 (cq198 a0 x2 x4 (r28.1)) rfl (Nat.le_of_ble_eq_true rfl) g31 (c31 _ (by omega)) ?_
      show Rn _ _ _ _ _ _ [.inl r31.1, .inl x3] _ _ _
      refine rn_iadd i199_34 ?_
      refine rn_istore_n (ls1 := [(3, .inl (w32 (x3 + r31.1))), (0, .inr (.inr a0)), (1, .inl x1), (2, .inl x2), (4, .inl x4)]) i199_35 rfl ?_
      refine rn_iinc (ls1 := [(4, .inl (w32 (x4 + 1))), (3, .inl (w32 (x3 + r31.1))), (0, .inr (.inr a0)), (1, .inl x1), (2, .inl x2)]) i199_36 rfl rfl ?_
      refine rn_goto i199_39 ?_
      exact rn_sub [2, 3, 4, 1, 0] rfl (ih a0 x1 x2 (w32 (x3 + r31.1)) (w32 (x4 + 1)) r31.2 r h)
def Mo_unlikeTo_0 (a0 : Nat) (x1 : Int) (x2 : Int) (w : Wd) : Option (Int × Wd) :=
  Mo_unlikeTo_5 FU a0 x1 x2 0 0 w
theorem s_Mo_unlikeTo_0 {g : Gp} {l : Launch} {D : Nat} (hD : 3 ≤ D) (a0 : Nat) (x1 : Int) (x2 : Int) (w : Wd) (r : Int × Wd) (h : Mo_unlikeTo_0 a0 x1 x2 w = some r) : Rn g l D 199 0 [(0, .inr (.inr a0)), (1, .inl x1), (2, .inl x2)] [] w (some (.inl r.1)) r.2 := by
  unfold Mo_unlikeTo_0 at h
  refine rn_iconst i199_0 ?_
  refine rn_istore_n (ls1 := [(3, .inl 0), (0, .inr (.inr a0)), (1, .inl x1), (2, .inl x2)]) i199_1 rfl ?_
  refine rn_iconst i199_2 ?_
  refine rn_istore (ls1 := [(4, .inl 0), (3, .inl 0), (0, .inr (.inr a0)), (1, .inl x1), (2, .inl x2)]) i199_3 rfl ?_
  exact rn_sub [2, 3, 4, 1, 0] rfl (s_Mo_unlikeTo_5 hD FU a0 x1 x2 0 0 w r h)
/-- HandHeirsModel.unlikeTo(II)I -/
def Mo_unlikeTo (a0 : Nat) (x1 : Int) (x2 : Int) (w : Wd) : Option (Int × Wd) := gd 12 w a0 (Mo_unlikeTo_0 a0 x1 x2 w)
theorem S_Mo_unlikeTo {g : Gp} {l : Launch} (a0 : Nat) (x1 : Int) (x2 : Int) (w : Wd) (r : Int × Wd) (h : Mo_unlikeTo a0 x1 x2 w = some r) : (wsh w a0).1 = 12 ∧ ∀ D, 3 ≤ D → Rn g l D 199 0 [(0, .inr (.inr a0)), (1, .inl x1), (2, .inl x2)] [] w (some (.inl r.1)) r.2 := by
  obtain ⟨hg, h⟩ := gd_some h
  exact ⟨hg, fun D hD => rn_sub [0, 1, 2] rfl (s_Mo_unlikeTo_0 hD a0 x1 x2 w r h)⟩
def Mo_unlikeAll_34 (k4 : Nat → Int → Int → Int → Wd → Option (Int × Wd)) (a0 : Nat) (x1 : Int) (x2 : Int) (x3 : Int) (w : Wd) : Option (Int × Wd) :=
  k4 a0 x1 x2 (w32 (x3 + 1)) w
theorem s_Mo_unlikeAll_34 {g : Gp} {l : Launch} {D : Nat} (hD : 4 ≤ D) (k4 : Nat → Int → Int → Int → Wd → Option (Int × Wd)) (hk4 : ∀ (a0 : Nat) (x1 : Int) (x2 : Int) (x3 : Int) (w : Wd) (r : Int × Wd), k4 a0 x1 x2 x3 w = some r → Rn g l D 200 4 [(0, .inr (.inr a0)), (1, .inl x1), (2, .inl x2), (3, .inl x3)] [] w (some (.inl r.1)) r.2) (a0 : Nat) (x1 : Int) (x2 : Int) (x3 : Int) (w : Wd) (r : Int × Wd) (h : Mo_unlikeAll_34 k4 a0 x1 x2 x3 w = some r) : Rn g l D 200 34 [(0, .inr (.inr a0)), (1, .inl x1), (2, .inl x2), (3, .inl x3)] [] w (some (.inl r.1)) r.2 := by
  unfold Mo_unlikeAll_34 at h
  refine rn_iinc (ls1 := [(3, .inl (w32 (x3 + 1))), (0, .inr (.inr a0)), (1, .inl x1), (2, .inl x2)]) i200_34 rfl rfl ?_
  refine rn_goto i200_37 ?_
  exact rn_sub [1, 2, 3, 0] rfl (hk4 a0 x1 x2 (w32 (x3 + 1)) w r h)
def Mo_unlikeAll_4 : Nat → Nat → Int → Int → Int → Wd → Option (Int × Wd)
  | 0, _, _, _, _, _ => none
  | n + 1, a0, x1, x2, x3, w =>
    (fgR w a0 12 29).bind fun v6 =>
    (fgI w a0 12 18).bind fun v10 =>
    (rdI w v6 v10).bind fun v13 =>
    if (v13 : Int) ≤ x3 then
      some (x2, w)
    else
      (fgI w a0 12 52).bind fun v19 =>
      if (x3 : Int) = v19 then
        Mo_unlikeAll_34 (Mo_unlikeAll_4 n) a0 x1 x2 x3 w
      else
        (Mo_unlikeTo a0 x1 x3 w).bind fun r29 =>
        Mo_unlikeAll_34 (Mo_unlikeAll_4 n) a0 x1 (w32 (x2 + r29.1)) x3 r29.2
theorem s_Mo_unlikeAll_4 {g : Gp} {l : Launch} {D : Nat} (hD : 4 ≤ D) : ∀ (n : Nat) (a0 : Nat) (x1 : Int) (x2 : Int) (x3 : Int) (w : Wd) (r : Int × Wd), Mo_unlikeAll_4 n a0 x1 x2 x3 w = some r → Rn g l D 200 4 [(0, .inr (.inr a0)), (1, .inl x1), (2, .inl x2), (3, .inl x3)] [] w (some (.inl r.1)) r.2 := by
  obtain ⟨D, rfl⟩ : ∃ D1, D = D1 + 1 := ⟨D - 1, by omega⟩
  intro n
  induction n with
  | zero => intro a0 x1 x2 x3 w r h; cases (show (none : Option (Int × Wd)) = some r from h)
  | succ n ih =>
    intro a0 x1 x2 x3 w r h
    unfold Mo_unlikeAll_4 at h
    refine rn_iload_n i200_4 rfl ?_
    refine fr_aload_n i200_5 rfl ?_
    obtain ⟨v6, h6, h⟩ := Option.bind_eq_some_iff.mp h
    refine fr_gR (k := 29) i200_6 tf12_29 h6 ?_
    refine fr_aload_n i200_9 rfl ?_
    obtain ⟨v10, h10, h⟩ := Option.bind_eq_some_iff.mp h
    refine fr_gI (k := 18) i200_10 tf12_18 h10 ?_
    obtain ⟨v13, h13, h⟩ := Option.bind_eq_some_iff.mp h
    refine rn_iald i200_13 h13 ?_
    by_cases c14 : (v13 : Int) ≤ x3
    · rw [if_pos c14] at h
      refine rn_icmp_ge_t i200_14 c14 ?_
      refine rn_iload_n i200_40 rfl ?_
      obtain rfl := Option.some.inj h
      exact rn_retI i200_41 mr200
    · rw [if_neg c14] at h
      refine rn_icmp_ge_f i200_14 c14 ?_
      refine rn_iload_n i200_17 rfl ?_
      refine fr_aload_n i200_18 rfl ?_
      obtain ⟨v19, h19, h⟩ := Option.bind_eq_some_iff.mp h
      refine fr_gI (k := 52) i200_19 tf12_52 h19 ?_
      by_cases c22 : (x3 : Int) = v19
      · rw [if_pos c22] at h
        refine rn_icmp_eq_t i200_22 c22 ?_
        exact rn_sub [0, 1, 2, 3] rfl (s_Mo_unlikeAll_34 hD (Mo_unlikeAll_4 n) ih a0 x1 x2 x3 w r h)
      · rw [if_neg c22] at h
        refine rn_icmp_eq_f i200_22 c22 ?_
        refine rn_iload_n i200_25 rfl ?_
        refine fr_aload_n i200_26 rfl ?_
        refine rn_iload_n i200_27 rfl ?_
        refine rn_iload_n i200_28 rfl ?_
        obtain ⟨r29, h29, h⟩ := Option.bind_eq_some_iff.mp h
        obtain ⟨g29, c29⟩ := S_Mo_unlikeTo a0 x1 x3 w r29 h29
        refine fr_callV (a := a0) (As := [.inl x1, .inl x3]) (st := [.inl x2]) i200_29 (cq199 a0 x1 x3) rfl (Nat.le_of_ble_eq_true rfl) g29 (c29 _ (by omega)) ?_
        show Rn _ _ _ _ _ _ [.inl r29.1, .inl x2] _ _ _
        refine rn_iadd i200_32 ?_
        refine rn_istore_n (ls1 := [(2, .inl (w32 (x2 + r29.1))), (0, .inr (.inr a0)), (1, .inl x1), (3, .inl x3)]) i200_33 rfl ?_
        exact rn_sub [1, 2, 0, 3] rfl (s_Mo_unlikeAll_34 hD (Mo_unlikeAll_4 n) ih a0 x1 (w32 (x2 + r29.1)) x3 r29.2 r h)
def Mo_unlikeAll_0 (a0 : Nat) (x1 : Int) (w : Wd) : Option (Int × Wd) :=
  Mo_unlikeAll_4 FU a0 x1 0 0 w
theorem s_Mo_unlikeAll_0 {g : Gp} {l : Launch} {D : Nat} (hD : 4 ≤ D) (a0 : Nat) (x1 : Int) (w : Wd) (r : Int × Wd) (h : Mo_unlikeAll_0 a0 x1 w = some r) : Rn g l D 200 0 [(0, .inr (.inr a0)), (1, .inl x1)] [] w (some (.inl r.1)) r.2 := by
  unfold Mo_unlikeAll_0 at h
  refine rn_iconst i200_0 ?_
  refine rn_istore_n (ls1 := [(2, .inl 0), (0, .inr (.inr a0)), (1, .inl x1)]) i200_1 rfl ?_
  refine rn_iconst i200_2 ?_
  refine rn_istore_n (ls1 := [(3, .inl 0), (2, .inl 0), (0, .inr (.inr a0)), (1, .inl x1)]) i200_3 rfl ?_
  exact rn_sub [2, 3, 1, 0] rfl (s_Mo_unlikeAll_4 hD FU a0 x1 0 0 w r h)
/-- HandHeirsModel.unlikeAll(I)I -/
def Mo_unlikeAll (a0 : Nat) (x1 : Int) (w : Wd) : Option (Int × Wd) := gd 12 w a0 (Mo_unlikeAll_0 a0 x1 w)
theorem S_Mo_unlikeAll {g : Gp} {l : Launch} (a0 : Nat) (x1 : Int) (w : Wd) (r : Int × Wd) (h : Mo_unlikeAll a0 x1 w = some r) : (wsh w a0).1 = 12 ∧ ∀ D, 4 ≤ D → Rn g l D 200 0 [(0, .inr (.inr a0)), (1, .inl x1)] [] w (some (.inl r.1)) r.2 := by
  obtain ⟨hg, h⟩ := gd_some h
  exact ⟨hg, fun D hD => rn_sub [0, 1] rfl (s_Mo_unlikeAll_0 hD a0 x1 w r h)⟩
def Mo_voteOf_61 (k7 : Nat → Int → Int → Int → Int → Wd → Option (Int × Wd)) (a0 : Nat) (x1 : Int) (x2 : Int) (x3 : Int) (x4 : Int) (w : Wd) : Option (Int × Wd) :=
  k7 a0 x1 x2 x3 (w32 (x4 + 1)) w
theorem s_Mo_voteOf_61 {g : Gp} {l : Launch} {D : Nat} (hD : 4 ≤ D) (k7 : Nat → Int → Int → Int → Int → Wd → Option (Int × Wd)) (hk7 : ∀ (a0 : Nat) (x1 : Int) (x2 : Int) (x3 : Int) (x4 : Int) (w : Wd) (r : Int × Wd), k7 a0 x1 x2 x3 x4 w = some r → Rn g l D 201 7 [(0, .inr (.inr a0)), (1, .inl x1), (2, .inl x2), (3, .inl x3), (4, .inl x4)] [] w (some (.inl r.1)) r.2) (a0 : Nat) (x1 : Int) (x2 : Int) (x3 : Int) (x4 : Int) (w : Wd) (r : Int × Wd) (h : Mo_voteOf_61 k7 a0 x1 x2 x3 x4 w = some r) : Rn g l D 201 61 [(0, .inr (.inr a0)), (1, .inl x1), (2, .inl x2), (3, .inl x3), (4, .inl x4)] [] w (some (.inl r.1)) r.2 := by
  unfold Mo_voteOf_61 at h
  refine rn_iinc (ls1 := [(4, .inl (w32 (x4 + 1))), (0, .inr (.inr a0)), (1, .inl x1), (2, .inl x2), (3, .inl x3)]) i201_61 rfl rfl ?_
  refine rn_goto i201_64 ?_
  exact rn_sub [1, 2, 3, 4, 0] rfl (hk7 a0 x1 x2 x3 (w32 (x4 + 1)) w r h)
def Mo_voteOf_55 (k7 : Nat → Int → Int → Int → Int → Wd → Option (Int × Wd)) (a0 : Nat) (x1 : Int) (x4 : Int) (x5 : Int) (w : Wd) : Option (Int × Wd) :=
  Mo_voteOf_61 k7 a0 x1 x4 x5 x4 w
theorem s_Mo_voteOf_55 {g : Gp} {l : Launch} {D : Nat} (hD : 4 ≤ D) (k7 : Nat → Int → Int → Int → Int → Wd → Option (Int × Wd)) (hk7 : ∀ (a0 : Nat) (x1 : Int) (x2 : Int) (x3 : Int) (x4 : Int) (w : Wd) (r : Int × Wd), k7 a0 x1 x2 x3 x4 w = some r → Rn g l D 201 7 [(0, .inr (.inr a0)), (1, .inl x1), (2, .inl x2), (3, .inl x3), (4, .inl x4)] [] w (some (.inl r.1)) r.2) (a0 : Nat) (x1 : Int) (x4 : Int) (x5 : Int) (w : Wd) (r : Int × Wd) (h : Mo_voteOf_55 k7 a0 x1 x4 x5 w = some r) : Rn g l D 201 55 [(0, .inr (.inr a0)), (1, .inl x1), (4, .inl x4), (5, .inl x5)] [] w (some (.inl r.1)) r.2 := by
  unfold Mo_voteOf_55 at h
  refine rn_iload i201_55 rfl ?_
  refine rn_istore_n (ls1 := [(2, .inl x4), (0, .inr (.inr a0)), (1, .inl x1), (4, .inl x4), (5, .inl x5)]) i201_57 rfl ?_
  refine rn_iload i201_58 rfl ?_
  refine rn_istore_n (ls1 := [(3, .inl x5), (2, .inl x4), (0, .inr (.inr a0)), (1, .inl x1), (4, .inl x4), (5, .inl x5)]) i201_60 rfl ?_
  exact rn_sub [2, 3, 1, 0, 4] rfl (s_Mo_voteOf_61 hD k7 hk7 a0 x1 x4 x5 x4 w r h)
def Mo_voteOf_7 : Nat → Nat → Int → Int → Int → Int → Wd → Option (Int × Wd)
  | 0, _, _, _, _, _, _ => none
  | n + 1, a0, x1, x2, x3, x4, w =>
    (fgR w a0 12 25).bind fun v10 =>
    (fgI w a0 12 18).bind fun v14 =>
    (rdI w v10 v14).bind fun v17 =>
    if (v17 : Int) ≤ x4 then
      some (x2, w)
    else
      (fgI w a0 12 53).bind fun v24 =>
      if (x4 : Int) = v24 then
        Mo_voteOf_61 (Mo_voteOf_7 n) a0 x1 x2 x3 x4 w
      else
        (Mo_unlikeTo a0 x4 x1 w).bind fun r37 =>
        if (x2 : Int) < 0 then
          Mo_voteOf_55 (Mo_voteOf_7 n) a0 x1 x4 r37.1 r37.2
        else
          if (r37.1 : Int) < x3 then
            Mo_voteOf_55 (Mo_voteOf_7 n) a0 x1 x4 r37.1 r37.2
          else
            Mo_voteOf_61 (Mo_voteOf_7 n) a0 x1 x2 x3 x4 r37.2
theorem s_Mo_voteOf_7 {g : Gp} {l : Launch} {D : Nat} (hD : 4 ≤ D) : ∀ (n : Nat) (a0 : Nat) (x1 : Int) (x2 : Int) (x3 : Int) (x4 : Int) (w : Wd) (r : Int × Wd), Mo_voteOf_7 n a0 x1 x2 x3 x4 w = some r → Rn g l D 201 7 [(0, .inr (.inr a0)), (1, .inl x1), (2, .inl x2), (3, .inl x3), (4, .inl x4)] [] w (some (.inl r.1)) r.2 := by
  obtain ⟨D, rfl⟩ : ∃ D1, D = D1 + 1 := ⟨D - 1, by omega⟩
  intro n
  induction n with
  | zero => intro a0 x1 x2 x3 x4 w r h; cases (show (none : Option (Int × Wd)) = some r from h)
  | succ n ih =>
    intro a0 x1 x2 x3 x4 w r h
    unfold Mo_voteOf_7 at h
    refine rn_iload i201_7 rfl ?_
    refine fr_aload_n i201_9 rfl ?_
    obtain ⟨v10, h10, h⟩ := Option.bind_eq_some_iff.mp h
    refine fr_gR (k := 25) i201_10 tf12_25 h10 ?_
    refine fr_aload_n i201_13 rfl ?_
    obtain ⟨v14, h14, h⟩ := Option.bind_eq_some_iff.mp h
    refine fr_gI (k := 18) i201_14 tf12_18 h14 ?_
    obtain ⟨v17, h17, h⟩ := Option.bind_eq_some_iff.mp h
    refine rn_iald i201_17 h17 ?_
    by_cases c18 : (v17 : Int) ≤ x4
    · rw [if_pos c18] at h
      refine rn_icmp_ge_t i201_18 c18 ?_
      refine rn_iload_n i201_67 rfl ?_
      obtain rfl := Option.some.inj h
      exact rn_retI i201_68 mr201
    · rw [if_neg c18] at h
      refine rn_icmp_ge_f i201_18 c18 ?_
      refine rn_iload i201_21 rfl ?_
      refine fr_aload_n i201_23 rfl ?_
      obtain ⟨v24, h24, h⟩ := Option.bind_eq_some_iff.mp h
      refine fr_gI (k := 53) i201_24 tf12_53 h24 ?_
      by_cases c27 : (x4 : Int) = v24
      · rw [if_pos c27] at h
        refine rn_icmp_ne_f i201_27 c27 ?_
        refine rn_goto i201_30 ?_
        exact rn_sub [0, 1, 2, 3, 4] rfl (s_Mo_voteOf_61 hD (Mo_voteOf_7 n) ih a0 x1 x2 x3 x4 w r h)
      · rw [if_neg c27] at h
        refine rn_icmp_ne_t i201_27 c27 ?_
        refine fr_aload_n i201_33 rfl ?_
        refine rn_iload i201_34 rfl ?_
        refine rn_iload_n i201_36 rfl ?_
        obtain ⟨r37, h37, h⟩ := Option.bind_eq_some_iff.mp h
        obtain ⟨g37, c37⟩ := S_Mo_unlikeTo a0 x4 x1 w r37 h37
        refine fr_callV (a := a0) (As := [.inl x4, .inl x1]) (st := []) i201_37 (cq199 a0 x4 x1) rfl (Nat.le_of_ble_eq_true rfl) g37 (c37 _ (by omega)) ?_
        show Rn _ _ _ _ _ _ [.inl r37.1] _ _ _
        refine rn_istore (ls1 := [(5, .inl r37.1), (0, .inr (.inr a0)), (1, .inl x1), (2, .inl x2), (3, .inl x3), (4, .inl x4)]) i201_40 rfl ?_
        refine rn_iload_n i201_42 rfl ?_
        by_cases c43 : (x2 : Int) < 0
        · rw [if_pos c43] at h
          refine rn_if_lt_t i201_43 c43 ?_
          exact rn_sub [1, 2, 5, 0] rfl (s_Mo_voteOf_55 hD (Mo_voteOf_7 n) ih a0 x1 x4 r37.1 r37.2 r h)
        · rw [if_neg c43] at h
          refine rn_if_lt_f i201_43 c43 ?_
          refine rn_iload i201_46 rfl ?_
          refine rn_iload_n i201_48 rfl ?_
          by_cases c49 : (r37.1 : Int) < x3
          · rw [if_pos c49] at h
            refine rn_icmp_lt_t i201_49 c49 ?_
            exact rn_sub [1, 2, 5, 0] rfl (s_Mo_voteOf_55 hD (Mo_voteOf_7 n) ih a0 x1 x4 r37.1 r37.2 r h)
          · rw [if_neg c49] at h
            refine rn_icmp_lt_f i201_49 c49 ?_
            refine rn_goto i201_52 ?_
            exact rn_sub [1, 2, 3, 4, 5] rfl (s_Mo_voteOf_61 hD (Mo_voteOf_7 n) ih a0 x1 x2 x3 x4 r37.2 r h)
def Mo_voteOf_0 (a0 : Nat) (x1 : Int) (w : Wd) : Option (Int × Wd) :=
  Mo_voteOf_7 FU a0 x1 (-1) 0 0 w
theorem s_Mo_voteOf_0 {g : Gp} {l : Launch} {D : Nat} (hD : 4 ≤ D) (a0 : Nat) (x1 : Int) (w : Wd) (r : Int × Wd) (h : Mo_voteOf_0 a0 x1 w = some r) : Rn g l D 201 0 [(0, .inr (.inr a0)), (1, .inl x1)] [] w (some (.inl r.1)) r.2 := by
  unfold Mo_voteOf_0 at h
  refine rn_iconst i201_0 ?_
  refine rn_istore_n (ls1 := [(2, .inl (-1)), (0, .inr (.inr a0)), (1, .inl x1)]) i201_1 rfl ?_
  refine rn_iconst i201_2 ?_
  refine rn_istore_n (ls1 := [(3, .inl 0), (2, .inl (-1)), (0, .inr (.inr a0)), (1, .inl x1)]) i201_3 rfl ?_
  refine rn_iconst i201_4 ?_
  refine rn_istore (ls1 := [(4, .inl 0), (3, .inl 0), (2, .inl (-1)), (0, .inr (.inr a0)), (1, .inl x1)]) i201_5 rfl ?_
  exact rn_sub [3, 4, 2, 1, 0] rfl (s_Mo_voteOf_7 hD FU a0 x1 (-1) 0 0 w r h)
/-- HandHeirsModel.voteOf(I)I -/
def Mo_voteOf (a0 : Nat) (x1 : Int) (w : Wd) : Option (Int × Wd) := gd 12 w a0 (Mo_voteOf_0 a0 x1 w)
theorem S_Mo_voteOf {g : Gp} {l : Launch} (a0 : Nat) (x1 : Int) (w : Wd) (r : Int × Wd) (h : Mo_voteOf a0 x1 w = some r) : (wsh w a0).1 = 12 ∧ ∀ D, 4 ≤ D → Rn g l D 201 0 [(0, .inr (.inr a0)), (1, .inl x1)] [] w (some (.inl r.1)) r.2 := by
  obtain ⟨hg, h⟩ := gd_some h
  exact ⟨hg, fun D hD => rn_sub [0, 1] rfl (s_Mo_voteOf_0 hD a0 x1 w r h)⟩
def Mo_judged_94 (k25 : Nat → Int → Int → Wd → Option (Int × Wd)) (a0 : Nat) (x1 : Int) (x2 : Int) (w : Wd) : Option (Int × Wd) :=
  k25 a0 x1 (w32 (x2 + 1)) w
theorem s_Mo_judged_94 {g : Gp} {l : Launch} {D : Nat} (hD : 5 ≤ D) (k25 : Nat → Int → Int → Wd → Option (Int × Wd)) (hk25 : ∀ (a0 : Nat) (x1 : Int) (x2 : Int) (w : Wd) (r : Int × Wd), k25 a0 x1 x2 w = some r → Rn g l D 202 25 [(0, .inr (.inr a0)), (1, .inl x1), (2, .inl x2)] [] w (some (.inl r.1)) r.2) (a0 : Nat) (x1 : Int) (x2 : Int) (w : Wd) (r : Int × Wd) (h : Mo_judged_94 k25 a0 x1 x2 w = some r) : Rn g l D 202 94 [(0, .inr (.inr a0)), (1, .inl x1), (2, .inl x2)] [] w (some (.inl r.1)) r.2 := by
  unfold Mo_judged_94 at h
  refine rn_iinc (ls1 := [(2, .inl (w32 (x2 + 1))), (0, .inr (.inr a0)), (1, .inl x1)]) i202_94 rfl rfl ?_
  refine rn_goto i202_97 ?_
  exact rn_sub [1, 2, 0] rfl (hk25 a0 x1 (w32 (x2 + 1)) w r h)
def Mo_judged_202 (k113 : Nat → Int → Int → Int → Wd → Option (Int × Wd)) (a0 : Nat) (x2 : Int) (x3 : Int) (x4 : Int) (w : Wd) : Option (Int × Wd) :=
  k113 a0 x2 x3 (w32 (x4 + 1)) w
theorem s_Mo_judged_202 {g : Gp} {l : Launch} {D : Nat} (hD : 5 ≤ D) (k113 : Nat → Int → Int → Int → Wd → Option (Int × Wd)) (hk113 : ∀ (a0 : Nat) (x2 : Int) (x3 : Int) (x4 : Int) (w : Wd) (r : Int × Wd), k113 a0 x2 x3 x4 w = some r → Rn g l D 202 113 [(0, .inr (.inr a0)), (2, .inl x2), (3, .inl x3), (4, .inl x4)] [] w (some (.inl r.1)) r.2) (a0 : Nat) (x2 : Int) (x3 : Int) (x4 : Int) (w : Wd) (r : Int × Wd) (h : Mo_judged_202 k113 a0 x2 x3 x4 w = some r) : Rn g l D 202 202 [(0, .inr (.inr a0)), (2, .inl x2), (3, .inl x3), (4, .inl x4)] [] w (some (.inl r.1)) r.2 := by
  unfold Mo_judged_202 at h
  refine rn_iinc (ls1 := [(4, .inl (w32 (x4 + 1))), (0, .inr (.inr a0)), (2, .inl x2), (3, .inl x3)]) i202_202 rfl rfl ?_
  refine rn_goto i202_205 ?_
  exact rn_sub [1, 2, 3, 0] rfl (hk113 a0 x2 x3 (w32 (x4 + 1)) w r h)
def Mo_judged_196 (k113 : Nat → Int → Int → Int → Wd → Option (Int × Wd)) (a0 : Nat) (x4 : Int) (x5 : Int) (w : Wd) : Option (Int × Wd) :=
  Mo_judged_202 k113 a0 x4 x5 x4 w
theorem s_Mo_judged_196 {g : Gp} {l : Launch} {D : Nat} (hD : 5 ≤ D) (k113 : Nat → Int → Int → Int → Wd → Option (Int × Wd)) (hk113 : ∀ (a0 : Nat) (x2 : Int) (x3 : Int) (x4 : Int) (w : Wd) (r : Int × Wd), k113 a0 x2 x3 x4 w = some r → Rn g l D 202 113 [(0, .inr (.inr a0)), (2, .inl x2), (3, .inl x3), (4, .inl x4)] [] w (some (.inl r.1)) r.2) (a0 : Nat) (x4 : Int) (x5 : Int) (w : Wd) (r : Int × Wd) (h : Mo_judged_196 k113 a0 x4 x5 w = some r) : Rn g l D 202 196 [(0, .inr (.inr a0)), (4, .inl x4), (5, .inl x5)] [] w (some (.inl r.1)) r.2 := by
  unfold Mo_judged_196 at h
  refine rn_iload i202_196 rfl ?_
  refine rn_istore_n (ls1 := [(2, .inl x4), (0, .inr (.inr a0)), (4, .inl x4), (5, .inl x5)]) i202_198 rfl ?_
  refine rn_iload i202_199 rfl ?_
  refine rn_istore_n (ls1 := [(3, .inl x5), (2, .inl x4), (0, .inr (.inr a0)), (4, .inl x4), (5, .inl x5)]) i202_201 rfl ?_
  exact rn_sub [2, 1, 0, 3] rfl (s_Mo_judged_202 hD k113 hk113 a0 x4 x5 x4 w r h)
def Mo_judged_159 (k113 : Nat → Int → Int → Int → Wd → Option (Int × Wd)) (a0 : Nat) (x2 : Int) (x3 : Int) (x4 : Int) (w : Wd) : Option (Int × Wd) :=
  (Mo_unlikeAll a0 x4 w).bind fun r162 =>
  if (x2 : Int) < 0 then
    Mo_judged_196 k113 a0 x4 r162.1 r162.2
  else
    (fgR r162.2 a0 12 56).bind fun v172 =>
    (rdI r162.2 v172 x4).bind fun v177 =>
    (fgR r162.2 a0 12 56).bind fun v179 =>
    (rdI r162.2 v179 x2).bind fun v183 =>
    if (v177 : Int) = v183 then
      if (r162.1 : Int) < x3 then
        Mo_judged_196 k113 a0 x4 r162.1 r162.2
      else
        Mo_judged_202 k113 a0 x2 x3 x4 r162.2
    else
      Mo_judged_196 k113 a0 x4 r162.1 r162.2
theorem s_Mo_judged_159 {g : Gp} {l : Launch} {D : Nat} (hD : 5 ≤ D) (k113 : Nat → Int → Int → Int → Wd → Option (Int × Wd)) (hk113 : ∀ (a0 : Nat) (x2 : Int) (x3 : Int) (x4 : Int) (w : Wd) (r : Int × Wd), k113 a0 x2 x3 x4 w = some r → Rn g l D 202 113 [(0, .inr (.inr a0)), (2, .inl x2), (3, .inl x3), (4, .inl x4)] [] w (some (.inl r.1)) r.2) (a0 : Nat) (x2 : Int) (x3 : Int) (x4 : Int) (w : Wd) (r : Int × Wd) (h : Mo_judged_159 k113 a0 x2 x3 x4 w = some r) : Rn g l D 202 159 [(0, .inr (.inr a0)), (2, .inl x2), (3, .inl x3), (4, .inl x4)] [] w (some (.inl r.1)) r.2 := by
  obtain ⟨D, rfl⟩ : ∃ D1, D = D1 + 1 := ⟨D - 1, by omega⟩
  unfold Mo_judged_159 at h
  refine fr_aload_n i202_159 rfl ?_
  refine rn_iload i202_160 rfl ?_
  obtain ⟨r162, h162, h⟩ := Option.bind_eq_some_iff.mp h
  obtain ⟨g162, c162⟩ := S_Mo_unlikeAll a0 x4 w r162 h162
  refine fr_callV (a := a0) (As := [.inl x4]) (st := []) i202_162 (cq200 a0 x4) rfl (Nat.le_of_ble_eq_true rfl) g162 (c162 _ (by omega)) ?_
  show Rn _ _ _ _ _ _ [.inl r162.1] _ _ _
  refine rn_istore (ls1 := [(5, .inl r162.1), (0, .inr (.inr a0)), (2, .inl x2), (3, .inl x3), (4, .inl x4)]) i202_165 rfl ?_
  refine rn_iload_n i202_167 rfl ?_
  by_cases c168 : (x2 : Int) < 0
  · rw [if_pos c168] at h
    refine rn_if_lt_t i202_168 c168 ?_
    exact rn_sub [1, 4, 0] rfl (s_Mo_judged_196 hD k113 hk113 a0 x4 r162.1 r162.2 r h)
  · rw [if_neg c168] at h
    refine rn_if_lt_f i202_168 c168 ?_
    refine fr_aload_n i202_171 rfl ?_
    obtain ⟨v172, h172, h⟩ := Option.bind_eq_some_iff.mp h
    refine fr_gR (k := 56) i202_172 tf12_56 h172 ?_
    refine rn_iload i202_175 rfl ?_
    obtain ⟨v177, h177, h⟩ := Option.bind_eq_some_iff.mp h
    refine rn_iald i202_177 h177 ?_
    refine fr_aload_n i202_178 rfl ?_
    obtain ⟨v179, h179, h⟩ := Option.bind_eq_some_iff.mp h
    refine fr_gR (k := 56) i202_179 tf12_56 h179 ?_
    refine rn_iload_n i202_182 rfl ?_
    obtain ⟨v183, h183, h⟩ := Option.bind_eq_some_iff.mp h
    refine rn_iald i202_183 h183 ?_
    by_cases c184 : (v177 : Int) = v183
    · rw [if_pos c184] at h
      refine rn_icmp_ne_f i202_184 c184 ?_
      refine rn_iload i202_187 rfl ?_
      refine rn_iload_n i202_189 rfl ?_
      by_cases c190 : (r162.1 : Int) < x3
      · rw [if_pos c190] at h
        refine rn_icmp_lt_t i202_190 c190 ?_
        exact rn_sub [1, 4, 0] rfl (s_Mo_judged_196 hD k113 hk113 a0 x4 r162.1 r162.2 r h)
      · rw [if_neg c190] at h
        refine rn_icmp_lt_f i202_190 c190 ?_
        refine rn_goto i202_193 ?_
        exact rn_sub [1, 2, 3, 4] rfl (s_Mo_judged_202 hD k113 hk113 a0 x2 x3 x4 r162.2 r h)
    · rw [if_neg c184] at h
      refine rn_icmp_ne_t i202_184 c184 ?_
      exact rn_sub [1, 4, 0] rfl (s_Mo_judged_196 hD k113 hk113 a0 x4 r162.1 r162.2 r h)
def Mo_judged_230 (s0 : Int) (w : Wd) : Option (Int × Wd) :=
  some (s0, w)
theorem s_Mo_judged_230 {g : Gp} {l : Launch} {D : Nat} (hD : 5 ≤ D) (s0 : Int) (w : Wd) (r : Int × Wd) (h : Mo_judged_230 s0 w = some r) : Rn g l D 202 230 [] [.inl s0] w (some (.inl r.1)) r.2 := by
  unfold Mo_judged_230 at h
  obtain rfl := Option.some.inj h
  exact rn_retI i202_230 mr202
def Mo_judged_229 (x2 : Int) (w : Wd) : Option (Int × Wd) :=
  Mo_judged_230 x2 w
theorem s_Mo_judged_229 {g : Gp} {l : Launch} {D : Nat} (hD : 5 ≤ D) (x2 : Int) (w : Wd) (r : Int × Wd) (h : Mo_judged_229 x2 w = some r) : Rn g l D 202 229 [(2, .inl x2)] [] w (some (.inl r.1)) r.2 := by
  unfold Mo_judged_229 at h
  refine rn_iload_n i202_229 rfl ?_
  exact rn_sub [] rfl (s_Mo_judged_230 hD x2 w r h)
def Mo_judged_208 (a0 : Nat) (x2 : Int) (x3 : Int) (w : Wd) : Option (Int × Wd) :=
  if (x2 : Int) < 0 then
    Mo_judged_229 x2 w
  else
    (fgR w a0 12 31).bind fun v214 =>
    (fgI w a0 12 18).bind fun v218 =>
    (rdI w v214 v218).bind fun v221 =>
    if (x3 : Int) ≤ v221 then
      Mo_judged_229 x2 w
    else
      Mo_judged_230 (-1) w
theorem s_Mo_judged_208 {g : Gp} {l : Launch} {D : Nat} (hD : 5 ≤ D) (a0 : Nat) (x2 : Int) (x3 : Int) (w : Wd) (r : Int × Wd) (h : Mo_judged_208 a0 x2 x3 w = some r) : Rn g l D 202 208 [(0, .inr (.inr a0)), (2, .inl x2), (3, .inl x3)] [] w (some (.inl r.1)) r.2 := by
  unfold Mo_judged_208 at h
  refine rn_iload_n i202_208 rfl ?_
  by_cases c209 : (x2 : Int) < 0
  · rw [if_pos c209] at h
    refine rn_if_lt_t i202_209 c209 ?_
    exact rn_sub [1] rfl (s_Mo_judged_229 hD x2 w r h)
  · rw [if_neg c209] at h
    refine rn_if_lt_f i202_209 c209 ?_
    refine rn_iload_n i202_212 rfl ?_
    refine fr_aload_n i202_213 rfl ?_
    obtain ⟨v214, h214, h⟩ := Option.bind_eq_some_iff.mp h
    refine fr_gR (k := 31) i202_214 tf12_31 h214 ?_
    refine fr_aload_n i202_217 rfl ?_
    obtain ⟨v218, h218, h⟩ := Option.bind_eq_some_iff.mp h
    refine fr_gI (k := 18) i202_218 tf12_18 h218 ?_
    obtain ⟨v221, h221, h⟩ := Option.bind_eq_some_iff.mp h
    refine rn_iald i202_221 h221 ?_
    by_cases c222 : (x3 : Int) ≤ v221
    · rw [if_pos c222] at h
      refine rn_icmp_le_t i202_222 c222 ?_
      exact rn_sub [1] rfl (s_Mo_judged_229 hD x2 w r h)
    · rw [if_neg c222] at h
      refine rn_icmp_le_f i202_222 c222 ?_
      refine rn_iconst i202_225 ?_
      refine rn_goto i202_226 ?_
      exact rn_sub [] rfl (s_Mo_judged_230 hD (-1) w r h)
def Mo_judged_113 : Nat → Nat → Int → Int → Int → Wd → Option (Int × Wd)
  | 0, _, _, _, _, _ => none
  | n + 1, a0, x2, x3, x4, w =>
    (fgR w a0 12 25).bind fun v116 =>
    (fgI w a0 12 18).bind fun v120 =>
    (rdI w v116 v120).bind fun v123 =>
    if (v123 : Int) ≤ x4 then
      Mo_judged_208 a0 x2 x3 w
    else
      (fgI w a0 12 53).bind fun v130 =>
      if (x4 : Int) = v130 then
        Mo_judged_202 (Mo_judged_113 n) a0 x2 x3 x4 w
      else
        if (x2 : Int) < 0 then
          Mo_judged_159 (Mo_judged_113 n) a0 x2 x3 x4 w
        else
          (fgR w a0 12 56).bind fun v141 =>
          (rdI w v141 x4).bind fun v146 =>
          (fgR w a0 12 56).bind fun v148 =>
          (rdI w v148 x2).bind fun v152 =>
          if (v152 : Int) ≤ v146 then
            Mo_judged_159 (Mo_judged_113 n) a0 x2 x3 x4 w
          else
            Mo_judged_202 (Mo_judged_113 n) a0 x2 x3 x4 w
theorem s_Mo_judged_113 {g : Gp} {l : Launch} {D : Nat} (hD : 5 ≤ D) : ∀ (n : Nat) (a0 : Nat) (x2 : Int) (x3 : Int) (x4 : Int) (w : Wd) (r : Int × Wd), Mo_judged_113 n a0 x2 x3 x4 w = some r → Rn g l D 202 113 [(0, .inr (.inr a0)), (2, .inl x2), (3, .inl x3), (4, .inl x4)] [] w (some (.inl r.1)) r.2 := by
  intro n
  induction n with
  | zero => intro a0 x2 x3 x4 w r h; cases (show (none : Option (Int × Wd)) = some r from h)
  | succ n ih =>
    intro a0 x2 x3 x4 w r h
    unfold Mo_judged_113 at h
    refine rn_iload i202_113 rfl ?_
    refine fr_aload_n i202_115 rfl ?_
    obtain ⟨v116, h116, h⟩ := Option.bind_eq_some_iff.mp h
    refine fr_gR (k := 25) i202_116 tf12_25 h116 ?_
    refine fr_aload_n i202_119 rfl ?_
    obtain ⟨v120, h120, h⟩ := Option.bind_eq_some_iff.mp h
    refine fr_gI (k := 18) i202_120 tf12_18 h120 ?_
    obtain ⟨v123, h123, h⟩ := Option.bind_eq_some_iff.mp h
    refine rn_iald i202_123 h123 ?_
    by_cases c124 : (v123 : Int) ≤ x4
    · rw [if_pos c124] at h
      refine rn_icmp_ge_t i202_124 c124 ?_
      exact rn_sub [0, 1, 2] rfl (s_Mo_judged_208 hD a0 x2 x3 w r h)
    · rw [if_neg c124] at h
      refine rn_icmp_ge_f i202_124 c124 ?_
      refine rn_iload i202_127 rfl ?_
      refine fr_aload_n i202_129 rfl ?_
      obtain ⟨v130, h130, h⟩ := Option.bind_eq_some_iff.mp h
      refine fr_gI (k := 53) i202_130 tf12_53 h130 ?_
      by_cases c133 : (x4 : Int) = v130
      · rw [if_pos c133] at h
        refine rn_icmp_eq_t i202_133 c133 ?_
        exact rn_sub [0, 1, 2, 3] rfl (s_Mo_judged_202 hD (Mo_judged_113 n) ih a0 x2 x3 x4 w r h)
      · rw [if_neg c133] at h
        refine rn_icmp_eq_f i202_133 c133 ?_
        refine rn_iload_n i202_136 rfl ?_
        by_cases c137 : (x2 : Int) < 0
        · rw [if_pos c137] at h
          refine rn_if_lt_t i202_137 c137 ?_
          exact rn_sub [0, 1, 2, 3] rfl (s_Mo_judged_159 hD (Mo_judged_113 n) ih a0 x2 x3 x4 w r h)
        · rw [if_neg c137] at h
          refine rn_if_lt_f i202_137 c137 ?_
          refine fr_aload_n i202_140 rfl ?_
          obtain ⟨v141, h141, h⟩ := Option.bind_eq_some_iff.mp h
          refine fr_gR (k := 56) i202_141 tf12_56 h141 ?_
          refine rn_iload i202_144 rfl ?_
          obtain ⟨v146, h146, h⟩ := Option.bind_eq_some_iff.mp h
          refine rn_iald i202_146 h146 ?_
          refine fr_aload_n i202_147 rfl ?_
          obtain ⟨v148, h148, h⟩ := Option.bind_eq_some_iff.mp h
          refine fr_gR (k := 56) i202_148 tf12_56 h148 ?_
          refine rn_iload_n i202_151 rfl ?_
          obtain ⟨v152, h152, h⟩ := Option.bind_eq_some_iff.mp h
          refine rn_iald i202_152 h152 ?_
          by_cases c153 : (v152 : Int) ≤ v146
          · rw [if_pos c153] at h
            refine rn_icmp_ge_t i202_153 c153 ?_
            exact rn_sub [0, 1, 2, 3] rfl (s_Mo_judged_159 hD (Mo_judged_113 n) ih a0 x2 x3 x4 w r h)
          · rw [if_neg c153] at h
            refine rn_icmp_ge_f i202_153 c153 ?_
            refine rn_goto i202_156 ?_
            exact rn_sub [0, 1, 2, 3] rfl (s_Mo_judged_202 hD (Mo_judged_113 n) ih a0 x2 x3 x4 w r h)
def Mo_judged_100 (a0 : Nat) (x1 : Int) (w : Wd) : Option (Int × Wd) :=
  if (x1 : Int) = 0 then
    some ((-1), w)
  else
    Mo_judged_113 FU a0 (-1) 0 0 w
theorem s_Mo_judged_100 {g : Gp} {l : Launch} {D : Nat} (hD : 5 ≤ D) (a0 : Nat) (x1 : Int) (w : Wd) (r : Int × Wd) (h : Mo_judged_100 a0 x1 w = some r) : Rn g l D 202 100 [(0, .inr (.inr a0)), (1, .inl x1)] [] w (some (.inl r.1)) r.2 := by
  unfold Mo_judged_100 at h
  refine rn_iload_n i202_100 rfl ?_
  by_cases c101 : (x1 : Int) = 0
  · rw [if_pos c101] at h
    refine rn_if_ne_f i202_101 c101 ?_
    refine rn_iconst i202_104 ?_
    obtain rfl := Option.some.inj h
    exact rn_retI i202_105 mr202
  · rw [if_neg c101] at h
    refine rn_if_ne_t i202_101 c101 ?_
    refine rn_iconst i202_106 ?_
    refine rn_istore_n (ls1 := [(2, .inl (-1)), (0, .inr (.inr a0)), (1, .inl x1)]) i202_107 rfl ?_
    refine rn_iconst i202_108 ?_
    refine rn_istore_n (ls1 := [(3, .inl 0), (2, .inl (-1)), (0, .inr (.inr a0)), (1, .inl x1)]) i202_109 rfl ?_
    refine rn_iconst i202_110 ?_
    refine rn_istore (ls1 := [(4, .inl 0), (3, .inl 0), (2, .inl (-1)), (0, .inr (.inr a0)), (1, .inl x1)]) i202_111 rfl ?_
    exact rn_sub [3, 2, 1, 0] rfl (s_Mo_judged_113 hD FU a0 (-1) 0 0 w r h)
def Mo_judged_25 : Nat → Nat → Int → Int → Wd → Option (Int × Wd)
  | 0, _, _, _, _ => none
  | n + 1, a0, x1, x2, w =>
    (fgR w a0 12 29).bind fun v27 =>
    (fgI w a0 12 18).bind fun v31 =>
    (rdI w v27 v31).bind fun v34 =>
    if (v34 : Int) ≤ x2 then
      Mo_judged_100 a0 x1 w
    else
      (fgR w a0 12 57).bind fun v39 =>
      (wrI w v39 x2 (-1)).bind fun w44 =>
      (fgI w44 a0 12 52).bind fun v47 =>
      if (x2 : Int) = v47 then
        Mo_judged_94 (Mo_judged_25 n) a0 x1 x2 w44
      else
        (fgR w44 a0 12 57).bind fun v60 =>
        (Mo_voteOf a0 x2 w44).bind fun r66 =>
        (wrI r66.2 v60 x2 r66.1).bind fun w69 =>
        (fgR w69 a0 12 57).bind fun v71 =>
        (rdI w69 v71 x2).bind fun v75 =>
        if (v75 : Int) < 0 then
          Mo_judged_94 (Mo_judged_25 n) a0 (w32 (x1 + 1)) x2 w69
        else
          (fgR w69 a0 12 56).bind fun v80 =>
          (fgR w69 a0 12 57).bind fun v84 =>
          (rdI w69 v84 x2).bind fun v88 =>
          (rdI w69 v80 v88).bind fun v90 =>
          (wrI w69 v80 v88 (w32 (v90 + 1))).bind fun w93 =>
          Mo_judged_94 (Mo_judged_25 n) a0 (w32 (x1 + 1)) x2 w93
theorem s_Mo_judged_25 {g : Gp} {l : Launch} {D : Nat} (hD : 5 ≤ D) : ∀ (n : Nat) (a0 : Nat) (x1 : Int) (x2 : Int) (w : Wd) (r : Int × Wd), Mo_judged_25 n a0 x1 x2 w = some r → Rn g l D 202 25 [(0, .inr (.inr a0)), (1, .inl x1), (2, .inl x2)] [] w (some (.inl r.1)) r.2 := by
  obtain ⟨D, rfl⟩ : ∃ D1, D = D1 + 1 := ⟨D - 1, by omega⟩
  intro n
  induction n with
  | zero => intro a0 x1 x2 w r h; cases (show (none : Option (Int × Wd)) = some r from h)
  | succ n ih =>
    intro a0 x1 x2 w r h
    unfold Mo_judged_25 at h
    refine rn_iload_n i202_25 rfl ?_
    refine fr_aload_n i202_26 rfl ?_
    obtain ⟨v27, h27, h⟩ := Option.bind_eq_some_iff.mp h
    refine fr_gR (k := 29) i202_27 tf12_29 h27 ?_
    refine fr_aload_n i202_30 rfl ?_
    obtain ⟨v31, h31, h⟩ := Option.bind_eq_some_iff.mp h
    refine fr_gI (k := 18) i202_31 tf12_18 h31 ?_
    obtain ⟨v34, h34, h⟩ := Option.bind_eq_some_iff.mp h
    refine rn_iald i202_34 h34 ?_
    by_cases c35 : (v34 : Int) ≤ x2
    · rw [if_pos c35] at h
      refine rn_icmp_ge_t i202_35 c35 ?_
      exact rn_sub [0, 1] rfl (s_Mo_judged_100 hD a0 x1 w r h)
    · rw [if_neg c35] at h
      refine rn_icmp_ge_f i202_35 c35 ?_
      refine fr_aload_n i202_38 rfl ?_
      obtain ⟨v39, h39, h⟩ := Option.bind_eq_some_iff.mp h
      refine fr_gR (k := 57) i202_39 tf12_57 h39 ?_
      refine rn_iload_n i202_42 rfl ?_
      refine rn_iconst i202_43 ?_
      obtain ⟨w44, h44, h⟩ := Option.bind_eq_some_iff.mp h
      refine rn_iast i202_44 h44 ?_
      refine rn_iload_n i202_45 rfl ?_
      refine fr_aload_n i202_46 rfl ?_
      obtain ⟨v47, h47, h⟩ := Option.bind_eq_some_iff.mp h
      refine fr_gI (k := 52) i202_47 tf12_52 h47 ?_
      by_cases c50 : (x2 : Int) = v47
      · rw [if_pos c50] at h
        refine rn_icmp_ne_f i202_50 c50 ?_
        refine rn_goto i202_53 ?_
        exact rn_sub [0, 1, 2] rfl (s_Mo_judged_94 hD (Mo_judged_25 n) ih a0 x1 x2 w44 r h)
      · rw [if_neg c50] at h
        refine rn_icmp_ne_t i202_50 c50 ?_
        refine rn_iinc (ls1 := [(1, .inl (w32 (x1 + 1))), (0, .inr (.inr a0)), (2, .inl x2)]) i202_56 rfl rfl ?_
        refine fr_aload_n i202_59 rfl ?_
        obtain ⟨v60, h60, h⟩ := Option.bind_eq_some_iff.mp h
        refine fr_gR (k := 57) i202_60 tf12_57 h60 ?_
        refine rn_iload_n i202_63 rfl ?_
        refine fr_aload_n i202_64 rfl ?_
        refine rn_iload_n i202_65 rfl ?_
        obtain ⟨r66, h66, h⟩ := Option.bind_eq_some_iff.mp h
        obtain ⟨g66, c66⟩ := S_Mo_voteOf a0 x2 w44 r66 h66
        refine fr_callV (a := a0) (As := [.inl x2]) (st := [.inl x2, .inr (.inr v60)]) i202_66 (cq201 a0 x2) rfl (Nat.le_of_ble_eq_true rfl) g66 (c66 _ (by omega)) ?_
        show Rn _ _ _ _ _ _ [.inl r66.1, .inl x2, .inr (.inr v60)] _ _ _
        obtain ⟨w69, h69, h⟩ := Option.bind_eq_some_iff.mp h
        refine rn_iast i202_69 h69 ?_
        refine fr_aload_n i202_70 rfl ?_
        obtain ⟨v71, h71, h⟩ := Option.bind_eq_some_iff.mp h
        refine fr_gR (k := 57) i202_71 tf12_57 h71 ?_
        refine rn_iload_n i202_74 rfl ?_
        obtain ⟨v75, h75, h⟩ := Option.bind_eq_some_iff.mp h
        refine rn_iald i202_75 h75 ?_
        by_cases c76 : (v75 : Int) < 0
        · rw [if_pos c76] at h
          refine rn_if_lt_t i202_76 c76 ?_
          exact rn_sub [1, 0, 2] rfl (s_Mo_judged_94 hD (Mo_judged_25 n) ih a0 (w32 (x1 + 1)) x2 w69 r h)
        · rw [if_neg c76] at h
          refine rn_if_lt_f i202_76 c76 ?_
          refine fr_aload_n i202_79 rfl ?_
          obtain ⟨v80, h80, h⟩ := Option.bind_eq_some_iff.mp h
          refine fr_gR (k := 56) i202_80 tf12_56 h80 ?_
          refine fr_aload_n i202_83 rfl ?_
          obtain ⟨v84, h84, h⟩ := Option.bind_eq_some_iff.mp h
          refine fr_gR (k := 57) i202_84 tf12_57 h84 ?_
          refine rn_iload_n i202_87 rfl ?_
          obtain ⟨v88, h88, h⟩ := Option.bind_eq_some_iff.mp h
          refine rn_iald i202_88 h88 ?_
          refine rn_dup2 i202_89 rfl rfl ?_
          obtain ⟨v90, h90, h⟩ := Option.bind_eq_some_iff.mp h
          refine rn_iald i202_90 h90 ?_
          refine rn_iconst i202_91 ?_
          refine rn_iadd i202_92 ?_
          obtain ⟨w93, h93, h⟩ := Option.bind_eq_some_iff.mp h
          refine rn_iast i202_93 h93 ?_
          exact rn_sub [1, 0, 2] rfl (s_Mo_judged_94 hD (Mo_judged_25 n) ih a0 (w32 (x1 + 1)) x2 w93 r h)
def Mo_judged_21 (a0 : Nat) (w : Wd) : Option (Int × Wd) :=
  Mo_judged_25 FU a0 0 0 w
theorem s_Mo_judged_21 {g : Gp} {l : Launch} {D : Nat} (hD : 5 ≤ D) (a0 : Nat) (w : Wd) (r : Int × Wd) (h : Mo_judged_21 a0 w = some r) : Rn g l D 202 21 [(0, .inr (.inr a0))] [] w (some (.inl r.1)) r.2 := by
  unfold Mo_judged_21 at h
  refine rn_iconst i202_21 ?_
  refine rn_istore_n (ls1 := [(1, .inl 0), (0, .inr (.inr a0))]) i202_22 rfl ?_
  refine rn_iconst i202_23 ?_
  refine rn_istore_n (ls1 := [(2, .inl 0), (1, .inl 0), (0, .inr (.inr a0))]) i202_24 rfl ?_
  exact rn_sub [2, 1, 0] rfl (s_Mo_judged_25 hD FU a0 0 0 w r h)
def Mo_judged_2 : Nat → Nat → Int → Wd → Option (Int × Wd)
  | 0, _, _, _ => none
  | n + 1, a0, x1, w =>
    if (6 : Int) ≤ x1 then
      Mo_judged_21 a0 w
    else
      (fgR w a0 12 56).bind fun v9 =>
      (wrI w v9 x1 0).bind fun w14 =>
      Mo_judged_2 n a0 (w32 (x1 + 1)) w14
theorem s_Mo_judged_2 {g : Gp} {l : Launch} {D : Nat} (hD : 5 ≤ D) : ∀ (n : Nat) (a0 : Nat) (x1 : Int) (w : Wd) (r : Int × Wd), Mo_judged_2 n a0 x1 w = some r → Rn g l D 202 2 [(0, .inr (.inr a0)), (1, .inl x1)] [] w (some (.inl r.1)) r.2 := by
  intro n
  induction n with
  | zero => intro a0 x1 w r h; cases (show (none : Option (Int × Wd)) = some r from h)
  | succ n ih =>
    intro a0 x1 w r h
    unfold Mo_judged_2 at h
    refine rn_iload_n i202_2 rfl ?_
    refine rn_bipush i202_3 ?_
    by_cases c5 : (6 : Int) ≤ x1
    · rw [if_pos c5] at h
      refine rn_icmp_ge_t i202_5 c5 ?_
      exact rn_sub [0] rfl (s_Mo_judged_21 hD a0 w r h)
    · rw [if_neg c5] at h
      refine rn_icmp_ge_f i202_5 c5 ?_
      refine fr_aload_n i202_8 rfl ?_
      obtain ⟨v9, h9, h⟩ := Option.bind_eq_some_iff.mp h
      refine fr_gR (k := 56) i202_9 tf12_56 h9 ?_
      refine rn_iload_n i202_12 rfl ?_
      refine rn_iconst i202_13 ?_
      obtain ⟨w14, h14, h⟩ := Option.bind_eq_some_iff.mp h
      refine rn_iast i202_14 h14 ?_
      refine rn_iinc (ls1 := [(1, .inl (w32 (x1 + 1))), (0, .inr (.inr a0))]) i202_15 rfl rfl ?_
      refine rn_goto i202_18 ?_
      exact rn_sub [1, 0] rfl (ih a0 (w32 (x1 + 1)) w14 r h)
def Mo_judged_0 (a0 : Nat) (w : Wd) : Option (Int × Wd) :=
  Mo_judged_2 FU a0 0 w
theorem s_Mo_judged_0 {g : Gp} {l : Launch} {D : Nat} (hD : 5 ≤ D) (a0 : Nat) (w : Wd) (r : Int × Wd) (h : Mo_judged_0 a0 w = some r) : Rn g l D 202 0 [(0, .inr (.inr a0))] [] w (some (.inl r.1)) r.2 := by
  unfold Mo_judged_0 at h
  refine rn_iconst i202_0 ?_
  refine rn_istore_n (ls1 := [(1, .inl 0), (0, .inr (.inr a0))]) i202_1 rfl ?_
  exact rn_sub [1, 0] rfl (s_Mo_judged_2 hD FU a0 0 w r h)
/-- HandHeirsModel.judged()I -/
def Mo_judged (a0 : Nat) (w : Wd) : Option (Int × Wd) := gd 12 w a0 (Mo_judged_0 a0 w)
theorem S_Mo_judged {g : Gp} {l : Launch} (a0 : Nat) (w : Wd) (r : Int × Wd) (h : Mo_judged a0 w = some r) : (wsh w a0).1 = 12 ∧ ∀ D, 5 ≤ D → Rn g l D 202 0 [(0, .inr (.inr a0))] [] w (some (.inl r.1)) r.2 := by
  obtain ⟨hg, h⟩ := gd_some h
  exact ⟨hg, fun D hD => rn_sub [0] rfl (s_Mo_judged_0 hD a0 w r h)⟩
def Mo_learns_94 (s0 : Int) (w : Wd) : Option (Int × Wd) :=
  some (s0, w)
theorem s_Mo_learns_94 {g : Gp} {l : Launch} {D : Nat} (hD : 2 ≤ D) (s0 : Int) (w : Wd) (r : Int × Wd) (h : Mo_learns_94 s0 w = some r) : Rn g l D 203 94 [] [.inl s0] w (some (.inl r.1)) r.2 := by
  unfold Mo_learns_94 at h
  obtain rfl := Option.some.inj h
  exact rn_retI i203_94 mr203
def Mo_learns_156 (k101 : Nat → Int → Int → Int → Wd → Option (Int × Wd)) (a0 : Nat) (x1 : Int) (x4 : Int) (x5 : Int) (w : Wd) : Option (Int × Wd) :=
  k101 a0 x1 x4 (w32 (x5 + 1)) w
theorem s_Mo_learns_156 {g : Gp} {l : Launch} {D : Nat} (hD : 2 ≤ D) (k101 : Nat → Int → Int → Int → Wd → Option (Int × Wd)) (hk101 : ∀ (a0 : Nat) (x1 : Int) (x4 : Int) (x5 : Int) (w : Wd) (r : Int × Wd), k101 a0 x1 x4 x5 w = some r → Rn g l D 203 101 [(0, .inr (.inr a0)), (1, .inl x1), (4, .inl x4), (5, .inl x5)] [] w (some (.inl r.1)) r.2) (a0 : Nat) (x1 : Int) (x4 : Int) (x5 : Int) (w : Wd) (r : Int × Wd) (h : Mo_learns_156 k101 a0 x1 x4 x5 w = some r) : Rn g l D 203 156 [(0, .inr (.inr a0)), (1, .inl x1), (4, .inl x4), (5, .inl x5)] [] w (some (.inl r.1)) r.2 := by
  unfold Mo_learns_156 at h
  refine rn_iinc (ls1 := [(5, .inl (w32 (x5 + 1))), (0, .inr (.inr a0)), (1, .inl x1), (4, .inl x4)]) i203_156 rfl rfl ?_
  refine rn_goto i203_159 ?_
  exact rn_sub [1, 2, 3, 0] rfl (hk101 a0 x1 x4 (w32 (x5 + 1)) w r h)
def Mo_learns_101 : Nat → Nat → Int → Int → Int → Wd → Option (Int × Wd)
  | 0, _, _, _, _, _ => none
  | n + 1, a0, x1, x4, x5, w =>
    (fgR w a0 12 23).bind fun v104 =>
    (fgI w a0 12 18).bind fun v108 =>
    (rdI w v104 v108).bind fun v111 =>
    if (v111 : Int) ≤ x5 then
      some (x4, w)
    else
      (Mo_shapeOf a0 x1 x5 w).bind fun r119 =>
      (fgR r119.2 a0 12 50).bind fun v123 =>
      (rdI r119.2 v123 x5).bind fun v128 =>
      (Mo_apart (r119.1) v128 r119.2).bind fun r129 =>
      (Mo_shapeOf a0 x1 x4 r129.2).bind fun r136 =>
      (fgR r136.2 a0 12 50).bind fun v140 =>
      (rdI r136.2 v140 x4).bind fun v145 =>
      (Mo_apart (r136.1) v145 r136.2).bind fun r146 =>
      if (r129.1 : Int) ≤ r146.1 then
        Mo_learns_156 (Mo_learns_101 n) a0 x1 x4 x5 r146.2
      else
        Mo_learns_156 (Mo_learns_101 n) a0 x1 x5 x5 r146.2
theorem s_Mo_learns_101 {g : Gp} {l : Launch} {D : Nat} (hD : 2 ≤ D) : ∀ (n : Nat) (a0 : Nat) (x1 : Int) (x4 : Int) (x5 : Int) (w : Wd) (r : Int × Wd), Mo_learns_101 n a0 x1 x4 x5 w = some r → Rn g l D 203 101 [(0, .inr (.inr a0)), (1, .inl x1), (4, .inl x4), (5, .inl x5)] [] w (some (.inl r.1)) r.2 := by
  obtain ⟨D, rfl⟩ : ∃ D1, D = D1 + 1 := ⟨D - 1, by omega⟩
  intro n
  induction n with
  | zero => intro a0 x1 x4 x5 w r h; cases (show (none : Option (Int × Wd)) = some r from h)
  | succ n ih =>
    intro a0 x1 x4 x5 w r h
    unfold Mo_learns_101 at h
    refine rn_iload i203_101 rfl ?_
    refine fr_aload_n i203_103 rfl ?_
    obtain ⟨v104, h104, h⟩ := Option.bind_eq_some_iff.mp h
    refine fr_gR (k := 23) i203_104 tf12_23 h104 ?_
    refine fr_aload_n i203_107 rfl ?_
    obtain ⟨v108, h108, h⟩ := Option.bind_eq_some_iff.mp h
    refine fr_gI (k := 18) i203_108 tf12_18 h108 ?_
    obtain ⟨v111, h111, h⟩ := Option.bind_eq_some_iff.mp h
    refine rn_iald i203_111 h111 ?_
    by_cases c112 : (v111 : Int) ≤ x5
    · rw [if_pos c112] at h
      refine rn_icmp_ge_t i203_112 c112 ?_
      refine rn_iload i203_162 rfl ?_
      obtain rfl := Option.some.inj h
      exact rn_retI i203_164 mr203
    · rw [if_neg c112] at h
      refine rn_icmp_ge_f i203_112 c112 ?_
      refine fr_aload_n i203_115 rfl ?_
      refine rn_iload_n i203_116 rfl ?_
      refine rn_iload i203_117 rfl ?_
      obtain ⟨r119, h119, h⟩ := Option.bind_eq_some_iff.mp h
      obtain ⟨g119, c119⟩ := S_Mo_shapeOf a0 x1 x5 w r119 h119
      refine fr_callV (a := a0) (As := [.inl x1, .inl x5]) (st := []) i203_119 (cq194 a0 x1 x5) rfl (Nat.le_of_ble_eq_true rfl) g119 (c119 _ (by omega)) ?_
      show Rn _ _ _ _ _ _ [.inl r119.1] _ _ _
      refine fr_aload_n i203_122 rfl ?_
      obtain ⟨v123, h123, h⟩ := Option.bind_eq_some_iff.mp h
      refine fr_gR (k := 50) i203_123 tf12_50 h123 ?_
      refine rn_iload i203_126 rfl ?_
      obtain ⟨v128, h128, h⟩ := Option.bind_eq_some_iff.mp h
      refine rn_iald i203_128 h128 ?_
      obtain ⟨r129, h129, h⟩ := Option.bind_eq_some_iff.mp h
      refine fr_callS (nst := 0) (As := [.inl r119.1, .inl v128]) (st := []) i203_129 (cq193 (r119.1) v128) rfl (Nat.le_of_ble_eq_true rfl) (S_Mo_apart (r119.1) v128 r119.2 r129 h129 _ (by omega)) ?_
      show Rn _ _ _ _ _ _ [.inl r129.1] _ _ _
      refine fr_aload_n i203_132 rfl ?_
      refine rn_iload_n i203_133 rfl ?_
      refine rn_iload i203_134 rfl ?_
      obtain ⟨r136, h136, h⟩ := Option.bind_eq_some_iff.mp h
      obtain ⟨g136, c136⟩ := S_Mo_shapeOf a0 x1 x4 r129.2 r136 h136
      refine fr_callV (a := a0) (As := [.inl x1, .inl x4]) (st := [.inl r129.1]) i203_136 (cq194 a0 x1 x4) rfl (Nat.le_of_ble_eq_true rfl) g136 (c136 _ (by omega)) ?_
      show Rn _ _ _ _ _ _ [.inl r136.1, .inl r129.1] _ _ _
      refine fr_aload_n i203_139 rfl ?_
      obtain ⟨v140, h140, h⟩ := Option.bind_eq_some_iff.mp h
      refine fr_gR (k := 50) i203_140 tf12_50 h140 ?_
      refine rn_iload i203_143 rfl ?_
      obtain ⟨v145, h145, h⟩ := Option.bind_eq_some_iff.mp h
      refine rn_iald i203_145 h145 ?_
      obtain ⟨r146, h146, h⟩ := Option.bind_eq_some_iff.mp h
      refine fr_callS (nst := 0) (As := [.inl r136.1, .inl v145]) (st := [.inl r129.1]) i203_146 (cq193 (r136.1) v145) rfl (Nat.le_of_ble_eq_true rfl) (S_Mo_apart (r136.1) v145 r136.2 r146 h146 _ (by omega)) ?_
      show Rn _ _ _ _ _ _ [.inl r146.1, .inl r129.1] _ _ _
      by_cases c149 : (r129.1 : Int) ≤ r146.1
      · rw [if_pos c149] at h
        refine rn_icmp_le_t i203_149 c149 ?_
        exact rn_sub [0, 1, 2, 3] rfl (s_Mo_learns_156 hD (Mo_learns_101 n) ih a0 x1 x4 x5 r146.2 r h)
      · rw [if_neg c149] at h
        refine rn_icmp_le_f i203_149 c149 ?_
        refine rn_iload i203_152 rfl ?_
        refine rn_istore (ls1 := [(4, .inl x5), (0, .inr (.inr a0)), (1, .inl x1), (5, .inl x5)]) i203_154 rfl ?_
        exact rn_sub [1, 2, 0, 3] rfl (s_Mo_learns_156 hD (Mo_learns_101 n) ih a0 x1 x5 x5 r146.2 r h)
def Mo_learns_0 (a0 : Nat) (x1 : Int) (x2 : Int) (w : Wd) : Option (Int × Wd) :=
  (fgR w a0 12 23).bind fun v1 =>
  (fgI w a0 12 18).bind fun v5 =>
  (rdI w v1 v5).bind fun v8 =>
  if (v8 : Int) = 0 then
    some ((-1), w)
  else
    (fgI w a0 12 54).bind fun v16 =>
    if (x1 : Int) = v16 then
      (fgI w a0 12 55).bind fun v23 =>
      some (v23, w)
    else
      (fgI w a0 12 18).bind fun v30 =>
      (fgR w a0 12 33).bind fun v40 =>
      (rdI w v40 (w32 ((w32 ((w32 (10 * v30)) + 3)) + x1))).bind fun v44 =>
      (fgR w a0 12 34).bind fun v46 =>
      (rdI w v46 (w32 ((w32 ((w32 (10 * v30)) + 3)) + x1))).bind fun v50 =>
      if (v50 : Int) ≤ v44 then
        Mo_learns_101 FU a0 x1 0 1 w
      else
        (Mo_setsOf a0 0 0 0 0 0 x2 w).bind fun r61 =>
        (Mo_tells a0 (w32 (3 + x1)) r61).bind fun r68 =>
        if (0 : Int) ≤ r68.1 then
          (fgR r68.2 a0 12 23).bind fun v85 =>
          (fgI r68.2 a0 12 18).bind fun v89 =>
          (rdI r68.2 v85 v89).bind fun v92 =>
          (irm r68.1 v92).bind fun v93 =>
          Mo_learns_94 v93 r68.2
        else
          Mo_learns_94 (-1) r68.2
theorem s_Mo_learns_0 {g : Gp} {l : Launch} {D : Nat} (hD : 2 ≤ D) (a0 : Nat) (x1 : Int) (x2 : Int) (w : Wd) (r : Int × Wd) (h : Mo_learns_0 a0 x1 x2 w = some r) : Rn g l D 203 0 [(0, .inr (.inr a0)), (1, .inl x1), (2, .inl x2)] [] w (some (.inl r.1)) r.2 := by
  obtain ⟨D, rfl⟩ : ∃ D1, D = D1 + 1 := ⟨D - 1, by omega⟩
  unfold Mo_learns_0 at h
  refine fr_aload_n i203_0 rfl ?_
  obtain ⟨v1, h1, h⟩ := Option.bind_eq_some_iff.mp h
  refine fr_gR (k := 23) i203_1 tf12_23 h1 ?_
  refine fr_aload_n i203_4 rfl ?_
  obtain ⟨v5, h5, h⟩ := Option.bind_eq_some_iff.mp h
  refine fr_gI (k := 18) i203_5 tf12_18 h5 ?_
  obtain ⟨v8, h8, h⟩ := Option.bind_eq_some_iff.mp h
  refine rn_iald i203_8 h8 ?_
  by_cases c9 : (v8 : Int) = 0
  · rw [if_pos c9] at h
    refine rn_if_ne_f i203_9 c9 ?_
    refine rn_iconst i203_12 ?_
    obtain rfl := Option.some.inj h
    exact rn_retI i203_13 mr203
  · rw [if_neg c9] at h
    refine rn_if_ne_t i203_9 c9 ?_
    refine rn_iload_n i203_14 rfl ?_
    refine fr_aload_n i203_15 rfl ?_
    obtain ⟨v16, h16, h⟩ := Option.bind_eq_some_iff.mp h
    refine fr_gI (k := 54) i203_16 tf12_54 h16 ?_
    by_cases c19 : (x1 : Int) = v16
    · rw [if_pos c19] at h
      refine rn_icmp_ne_f i203_19 c19 ?_
      refine fr_aload_n i203_22 rfl ?_
      obtain ⟨v23, h23, h⟩ := Option.bind_eq_some_iff.mp h
      refine fr_gI (k := 55) i203_23 tf12_55 h23 ?_
      obtain rfl := Option.some.inj h
      exact rn_retI i203_26 mr203
    · rw [if_neg c19] at h
      refine rn_icmp_ne_t i203_19 c19 ?_
      refine rn_bipush i203_27 ?_
      refine fr_aload_n i203_29 rfl ?_
      obtain ⟨v30, h30, h⟩ := Option.bind_eq_some_iff.mp h
      refine fr_gI (k := 18) i203_30 tf12_18 h30 ?_
      refine rn_imul i203_33 ?_
      refine rn_iconst i203_34 ?_
      refine rn_iadd i203_35 ?_
      refine rn_iload_n i203_36 rfl ?_
      refine rn_iadd i203_37 ?_
      refine rn_istore_n (ls1 := [(3, .inl (w32 ((w32 ((w32 (10 * v30)) + 3)) + x1))), (0, .inr (.inr a0)), (1, .inl x1), (2, .inl x2)]) i203_38 rfl ?_
      refine fr_aload_n i203_39 rfl ?_
      obtain ⟨v40, h40, h⟩ := Option.bind_eq_some_iff.mp h
      refine fr_gR (k := 33) i203_40 tf12_33 h40 ?_
      refine rn_iload_n i203_43 rfl ?_
      obtain ⟨v44, h44, h⟩ := Option.bind_eq_some_iff.mp h
      refine rn_iald i203_44 h44 ?_
      refine fr_aload_n i203_45 rfl ?_
      obtain ⟨v46, h46, h⟩ := Option.bind_eq_some_iff.mp h
      refine fr_gR (k := 34) i203_46 tf12_34 h46 ?_
      refine rn_iload_n i203_49 rfl ?_
      obtain ⟨v50, h50, h⟩ := Option.bind_eq_some_iff.mp h
      refine rn_iald i203_50 h50 ?_
      by_cases c51 : (v50 : Int) ≤ v44
      · rw [if_pos c51] at h
        refine rn_icmp_ge_t i203_51 c51 ?_
        refine rn_iconst i203_95 ?_
        refine rn_istore (ls1 := [(4, .inl 0), (3, .inl (w32 ((w32 ((w32 (10 * v30)) + 3)) + x1))), (0, .inr (.inr a0)), (1, .inl x1), (2, .inl x2)]) i203_96 rfl ?_
        refine rn_iconst i203_98 ?_
        refine rn_istore (ls1 := [(5, .inl 1), (4, .inl 0), (3, .inl (w32 ((w32 ((w32 (10 * v30)) + 3)) + x1))), (0, .inr (.inr a0)), (1, .inl x1), (2, .inl x2)]) i203_99 rfl ?_
        exact rn_sub [3, 4, 1, 0] rfl (s_Mo_learns_101 hD FU a0 x1 0 1 w r h)
      · rw [if_neg c51] at h
        refine rn_icmp_ge_f i203_51 c51 ?_
        refine fr_aload_n i203_54 rfl ?_
        refine rn_iconst i203_55 ?_
        refine rn_iconst i203_56 ?_
        refine rn_iconst i203_57 ?_
        refine rn_iconst i203_58 ?_
        refine rn_iconst i203_59 ?_
        refine rn_iload_n i203_60 rfl ?_
        obtain ⟨r61, h61, h⟩ := Option.bind_eq_some_iff.mp h
        obtain ⟨g61, c61⟩ := S_Mo_setsOf a0 0 0 0 0 0 x2 w r61 h61
        refine fr_callV (a := a0) (As := [.inl 0, .inl 0, .inl 0, .inl 0, .inl 0, .inl x2]) (st := []) i203_61 (cq197 a0 0 0 0 0 0 x2) rfl (Nat.le_of_ble_eq_true rfl) g61 (c61 _ (by omega)) ?_
        refine fr_aload_n i203_64 rfl ?_
        refine rn_iconst i203_65 ?_
        refine rn_iload_n i203_66 rfl ?_
        refine rn_iadd i203_67 ?_
        obtain ⟨r68, h68, h⟩ := Option.bind_eq_some_iff.mp h
        obtain ⟨g68, c68⟩ := S_Mo_tells a0 (w32 (3 + x1)) r61 r68 h68
        refine fr_callV (a := a0) (As := [.inl (w32 (3 + x1))]) (st := []) i203_68 (cq196 a0 (w32 (3 + x1))) rfl (Nat.le_of_ble_eq_true rfl) g68 (c68 _ (by omega)) ?_
        show Rn _ _ _ _ _ _ [.inl r68.1] _ _ _
        refine rn_istore (ls1 := [(4, .inl r68.1), (3, .inl (w32 ((w32 ((w32 (10 * v30)) + 3)) + x1))), (0, .inr (.inr a0)), (1, .inl x1), (2, .inl x2)]) i203_71 rfl ?_
        refine rn_iload i203_73 rfl ?_
        by_cases c75 : (0 : Int) ≤ r68.1
        · rw [if_pos c75] at h
          refine rn_if_ge_t i203_75 c75 ?_
          refine rn_iload i203_82 rfl ?_
          refine fr_aload_n i203_84 rfl ?_
          obtain ⟨v85, h85, h⟩ := Option.bind_eq_some_iff.mp h
          refine fr_gR (k := 23) i203_85 tf12_23 h85 ?_
          refine fr_aload_n i203_88 rfl ?_
          obtain ⟨v89, h89, h⟩ := Option.bind_eq_some_iff.mp h
          refine fr_gI (k := 18) i203_89 tf12_18 h89 ?_
          obtain ⟨v92, h92, h⟩ := Option.bind_eq_some_iff.mp h
          refine rn_iald i203_92 h92 ?_
          obtain ⟨v93, h93, h⟩ := Option.bind_eq_some_iff.mp h
          refine fr_irm i203_93 h93 ?_
          exact rn_sub [] rfl (s_Mo_learns_94 hD v93 r68.2 r h)
        · rw [if_neg c75] at h
          refine rn_if_ge_f i203_75 c75 ?_
          refine rn_iconst i203_78 ?_
          refine rn_goto i203_79 ?_
          exact rn_sub [] rfl (s_Mo_learns_94 hD (-1) r68.2 r h)
/-- HandHeirsModel.learns(II)I -/
def Mo_learns (a0 : Nat) (x1 : Int) (x2 : Int) (w : Wd) : Option (Int × Wd) := gd 12 w a0 (Mo_learns_0 a0 x1 x2 w)
theorem S_Mo_learns {g : Gp} {l : Launch} (a0 : Nat) (x1 : Int) (x2 : Int) (w : Wd) (r : Int × Wd) (h : Mo_learns a0 x1 x2 w = some r) : (wsh w a0).1 = 12 ∧ ∀ D, 2 ≤ D → Rn g l D 203 0 [(0, .inr (.inr a0)), (1, .inl x1), (2, .inl x2)] [] w (some (.inl r.1)) r.2 := by
  obtain ⟨hg, h⟩ := gd_some h
  exact ⟨hg, fun D hD => rn_sub [0, 1, 2] rfl (s_Mo_learns_0 hD a0 x1 x2 w r h)⟩
def Mo_lessons_110 (k14 : Nat → Int → Int → Int → Int → Int → Wd → Option (Wd)) (a0 : Nat) (x1 : Int) (x2 : Int) (x3 : Int) (x4 : Int) (x5 : Int) (s0 : Int) (s1 : Int) (s2 : Int) (s3 : Nat) (w : Wd) : Option (Wd) :=
  (wrI w s3 s2 (w32 (s1 + s0))).bind fun w111 =>
  k14 a0 x1 x2 x3 x4 (w32 (x5 + 1)) w111
theorem s_Mo_lessons_110 {g : Gp} {l : Launch} {D : Nat} (hD : 1 ≤ D) (k14 : Nat → Int → Int → Int → Int → Int → Wd → Option (Wd)) (hk14 : ∀ (a0 : Nat) (x1 : Int) (x2 : Int) (x3 : Int) (x4 : Int) (x5 : Int) (w : Wd) (r : Wd), k14 a0 x1 x2 x3 x4 x5 w = some r → Rn g l D 204 14 [(0, .inr (.inr a0)), (1, .inl x1), (2, .inl x2), (3, .inl x3), (4, .inl x4), (5, .inl x5)] [] w none r) (a0 : Nat) (x1 : Int) (x2 : Int) (x3 : Int) (x4 : Int) (x5 : Int) (s0 : Int) (s1 : Int) (s2 : Int) (s3 : Nat) (w : Wd) (r : Wd) (h : Mo_lessons_110 k14 a0 x1 x2 x3 x4 x5 s0 s1 s2 s3 w = some r) : Rn g l D 204 110 [(0, .inr (.inr a0)), (1, .inl x1), (2, .inl x2), (3, .inl x3), (4, .inl x4), (5, .inl x5)] [.inl s0, .inl s1, .inl s2, .inr (.inr s3)] w none r := by
  unfold Mo_lessons_110 at h
  refine rn_iadd i204_110 ?_
  obtain ⟨w111, h111, h⟩ := Option.bind_eq_some_iff.mp h
  refine rn_iast i204_111 h111 ?_
  refine rn_iinc (ls1 := [(5, .inl (w32 (x5 + 1))), (0, .inr (.inr a0)), (1, .inl x1), (2, .inl x2), (3, .inl x3), (4, .inl x4)]) i204_112 rfl rfl ?_
  refine rn_goto i204_115 ?_
  exact rn_sub [1, 2, 3, 4, 5, 0] rfl (hk14 a0 x1 x2 x3 x4 (w32 (x5 + 1)) w111 r h)
def Mo_lessons_76 (k14 : Nat → Int → Int → Int → Int → Int → Wd → Option (Wd)) (a0 : Nat) (x1 : Int) (x2 : Int) (x3 : Int) (x4 : Int) (x5 : Int) (s0 : Int) (w : Wd) : Option (Wd) :=
  (fgR w a0 12 50).bind fun v79 =>
  (rdI w v79 x4).bind fun v85 =>
  (fgR w a0 12 50).bind fun v87 =>
  (rdI w v87 x4).bind fun v92 =>
  (fgR w a0 12 50).bind fun v94 =>
  (rdI w v94 x2).bind fun v98 =>
  if (v98 : Int) ≤ v92 then
    Mo_lessons_110 k14 a0 x1 x2 x3 x4 x5 (w32 (-s0)) v85 x4 v79 w
  else
    Mo_lessons_110 k14 a0 x1 x2 x3 x4 x5 s0 v85 x4 v79 w
theorem s_Mo_lessons_76 {g : Gp} {l : Launch} {D : Nat} (hD : 1 ≤ D) (k14 : Nat → Int → Int → Int → Int → Int → Wd → Option (Wd)) (hk14 : ∀ (a0 : Nat) (x1 : Int) (x2 : Int) (x3 : Int) (x4 : Int) (x5 : Int) (w : Wd) (r : Wd), k14 a0 x1 x2 x3 x4 x5 w = some r → Rn g l D 204 14 [(0, .inr (.inr a0)), (1, .inl x1), (2, .inl x2), (3, .inl x3), (4, .inl x4), (5, .inl x5)] [] w none r) (a0 : Nat) (x1 : Int) (x2 : Int) (x3 : Int) (x4 : Int) (x5 : Int) (s0 : Int) (w : Wd) (r : Wd) (h : Mo_lessons_76 k14 a0 x1 x2 x3 x4 x5 s0 w = some r) : Rn g l D 204 76 [(0, .inr (.inr a0)), (1, .inl x1), (2, .inl x2), (3, .inl x3), (4, .inl x4), (5, .inl x5)] [.inl s0] w none r := by
  unfold Mo_lessons_76 at h
  refine rn_istore (ls1 := [(7, .inl s0), (0, .inr (.inr a0)), (1, .inl x1), (2, .inl x2), (3, .inl x3), (4, .inl x4), (5, .inl x5)]) i204_76 rfl ?_
  refine fr_aload_n i204_78 rfl ?_
  obtain ⟨v79, h79, h⟩ := Option.bind_eq_some_iff.mp h
  refine fr_gR (k := 50) i204_79 tf12_50 h79 ?_
  refine rn_iload i204_82 rfl ?_
  refine rn_dup2 i204_84 rfl rfl ?_
  obtain ⟨v85, h85, h⟩ := Option.bind_eq_some_iff.mp h
  refine rn_iald i204_85 h85 ?_
  refine fr_aload_n i204_86 rfl ?_
  obtain ⟨v87, h87, h⟩ := Option.bind_eq_some_iff.mp h
  refine fr_gR (k := 50) i204_87 tf12_50 h87 ?_
  refine rn_iload i204_90 rfl ?_
  obtain ⟨v92, h92, h⟩ := Option.bind_eq_some_iff.mp h
  refine rn_iald i204_92 h92 ?_
  refine fr_aload_n i204_93 rfl ?_
  obtain ⟨v94, h94, h⟩ := Option.bind_eq_some_iff.mp h
  refine fr_gR (k := 50) i204_94 tf12_50 h94 ?_
  refine rn_iload_n i204_97 rfl ?_
  obtain ⟨v98, h98, h⟩ := Option.bind_eq_some_iff.mp h
  refine rn_iald i204_98 h98 ?_
  by_cases c99 : (v98 : Int) ≤ v92
  · rw [if_pos c99] at h
    refine rn_icmp_ge_t i204_99 c99 ?_
    refine rn_iload i204_107 rfl ?_
    refine rn_ineg i204_109 ?_
    exact rn_sub [1, 2, 3, 4, 5, 6] rfl (s_Mo_lessons_110 hD k14 hk14 a0 x1 x2 x3 x4 x5 (w32 (-s0)) v85 x4 v79 w r h)
  · rw [if_neg c99] at h
    refine rn_icmp_ge_f i204_99 c99 ?_
    refine rn_iload i204_102 rfl ?_
    refine rn_goto i204_104 ?_
    exact rn_sub [1, 2, 3, 4, 5, 6] rfl (s_Mo_lessons_110 hD k14 hk14 a0 x1 x2 x3 x4 x5 s0 v85 x4 v79 w r h)
def Mo_lessons_14 : Nat → Nat → Int → Int → Int → Int → Int → Wd → Option (Wd)
  | 0, _, _, _, _, _, _, _ => none
  | n + 1, a0, x1, x2, x3, x4, x5, w =>
    if (x3 : Int) ≤ x5 then
      some w
    else
      (fgR w a0 12 50).bind fun v21 =>
      (rdI w v21 x4).bind fun v26 =>
      (fgR w a0 12 50).bind fun v28 =>
      (rdI w v28 x2).bind fun v32 =>
      (Mo_apart v26 v32 w).bind fun r33 =>
      (fgR r33.2 a0 12 26).bind fun v39 =>
      (fgI r33.2 a0 12 18).bind fun v45 =>
      (rdI r33.2 v39 (w32 ((w32 (6 * v45)) + x1))).bind fun v51 =>
      if (r33.1 : Int) ≤ v51 then
        Mo_lessons_76 (Mo_lessons_14 n) a0 x1 x2 x3 x4 x5 r33.1 r33.2
      else
        (fgR r33.2 a0 12 26).bind fun v58 =>
        (fgI r33.2 a0 12 18).bind fun v64 =>
        (rdI r33.2 v58 (w32 ((w32 (6 * v64)) + x1))).bind fun v70 =>
        Mo_lessons_76 (Mo_lessons_14 n) a0 x1 x2 x3 x4 x5 v70 r33.2
theorem s_Mo_lessons_14 {g : Gp} {l : Launch} {D : Nat} (hD : 1 ≤ D) : ∀ (n : Nat) (a0 : Nat) (x1 : Int) (x2 : Int) (x3 : Int) (x4 : Int) (x5 : Int) (w : Wd) (r : Wd), Mo_lessons_14 n a0 x1 x2 x3 x4 x5 w = some r → Rn g l D 204 14 [(0, .inr (.inr a0)), (1, .inl x1), (2, .inl x2), (3, .inl x3), (4, .inl x4), (5, .inl x5)] [] w none r := by
  obtain ⟨D, rfl⟩ : ∃ D1, D = D1 + 1 := ⟨D - 1, by omega⟩
  intro n
  induction n with
  | zero => intro a0 x1 x2 x3 x4 x5 w r h; cases (show (none : Option (Wd)) = some r from h)
  | succ n ih =>
    intro a0 x1 x2 x3 x4 x5 w r h
    unfold Mo_lessons_14 at h
    refine rn_iload i204_14 rfl ?_
    refine rn_iload_n i204_16 rfl ?_
    by_cases c17 : (x3 : Int) ≤ x5
    · rw [if_pos c17] at h
      refine rn_icmp_ge_t i204_17 c17 ?_
      obtain rfl := Option.some.inj h
      exact rn_ret i204_118 mr204
    · rw [if_neg c17] at h
      refine rn_icmp_ge_f i204_17 c17 ?_
      refine fr_aload_n i204_20 rfl ?_
      obtain ⟨v21, h21, h⟩ := Option.bind_eq_some_iff.mp h
      refine fr_gR (k := 50) i204_21 tf12_50 h21 ?_
      refine rn_iload i204_24 rfl ?_
      obtain ⟨v26, h26, h⟩ := Option.bind_eq_some_iff.mp h
      refine rn_iald i204_26 h26 ?_
      refine fr_aload_n i204_27 rfl ?_
      obtain ⟨v28, h28, h⟩ := Option.bind_eq_some_iff.mp h
      refine fr_gR (k := 50) i204_28 tf12_50 h28 ?_
      refine rn_iload_n i204_31 rfl ?_
      obtain ⟨v32, h32, h⟩ := Option.bind_eq_some_iff.mp h
      refine rn_iald i204_32 h32 ?_
      obtain ⟨r33, h33, h⟩ := Option.bind_eq_some_iff.mp h
      refine fr_callS (nst := 0) (As := [.inl v26, .inl v32]) (st := []) i204_33 (cq193 v26 v32) rfl (Nat.le_of_ble_eq_true rfl) (S_Mo_apart v26 v32 w r33 h33 _ (by omega)) ?_
      show Rn _ _ _ _ _ _ [.inl r33.1] _ _ _
      refine rn_istore (ls1 := [(6, .inl r33.1), (0, .inr (.inr a0)), (1, .inl x1), (2, .inl x2), (3, .inl x3), (4, .inl x4), (5, .inl x5)]) i204_36 rfl ?_
      refine fr_aload_n i204_38 rfl ?_
      obtain ⟨v39, h39, h⟩ := Option.bind_eq_some_iff.mp h
      refine fr_gR (k := 26) i204_39 tf12_26 h39 ?_
      refine rn_bipush i204_42 ?_
      refine fr_aload_n i204_44 rfl ?_
      obtain ⟨v45, h45, h⟩ := Option.bind_eq_some_iff.mp h
      refine fr_gI (k := 18) i204_45 tf12_18 h45 ?_
      refine rn_imul i204_48 ?_
      refine rn_iload_n i204_49 rfl ?_
      refine rn_iadd i204_50 ?_
      obtain ⟨v51, h51, h⟩ := Option.bind_eq_some_iff.mp h
      refine rn_iald i204_51 h51 ?_
      refine rn_iload i204_52 rfl ?_
      by_cases c54 : (r33.1 : Int) ≤ v51
      · rw [if_pos c54] at h
        refine rn_icmp_ge_t i204_54 c54 ?_
        refine rn_iload i204_74 rfl ?_
        exact rn_sub [1, 2, 3, 4, 5, 6] rfl (s_Mo_lessons_76 hD (Mo_lessons_14 n) ih a0 x1 x2 x3 x4 x5 r33.1 r33.2 r h)
      · rw [if_neg c54] at h
        refine rn_icmp_ge_f i204_54 c54 ?_
        refine fr_aload_n i204_57 rfl ?_
        obtain ⟨v58, h58, h⟩ := Option.bind_eq_some_iff.mp h
        refine fr_gR (k := 26) i204_58 tf12_26 h58 ?_
        refine rn_bipush i204_61 ?_
        refine fr_aload_n i204_63 rfl ?_
        obtain ⟨v64, h64, h⟩ := Option.bind_eq_some_iff.mp h
        refine fr_gI (k := 18) i204_64 tf12_18 h64 ?_
        refine rn_imul i204_67 ?_
        refine rn_iload_n i204_68 rfl ?_
        refine rn_iadd i204_69 ?_
        obtain ⟨v70, h70, h⟩ := Option.bind_eq_some_iff.mp h
        refine rn_iald i204_70 h70 ?_
        refine rn_goto i204_71 ?_
        exact rn_sub [1, 2, 3, 4, 5, 6] rfl (s_Mo_lessons_76 hD (Mo_lessons_14 n) ih a0 x1 x2 x3 x4 x5 v70 r33.2 r h)
def Mo_lessons_0 (a0 : Nat) (x1 : Int) (x2 : Int) (x3 : Int) (w : Wd) : Option (Wd) :=
  Mo_lessons_14 FU a0 x1 x2 x3 (w32 ((w32 (6 + (w32 (6 * x1)))) + x2)) 0 w
theorem s_Mo_lessons_0 {g : Gp} {l : Launch} {D : Nat} (hD : 1 ≤ D) (a0 : Nat) (x1 : Int) (x2 : Int) (x3 : Int) (w : Wd) (r : Wd) (h : Mo_lessons_0 a0 x1 x2 x3 w = some r) : Rn g l D 204 0 [(0, .inr (.inr a0)), (1, .inl x1), (2, .inl x2), (3, .inl x3)] [] w none r := by
  unfold Mo_lessons_0 at h
  refine rn_bipush i204_0 ?_
  refine rn_bipush i204_2 ?_
  refine rn_iload_n i204_4 rfl ?_
  refine rn_imul i204_5 ?_
  refine rn_iadd i204_6 ?_
  refine rn_iload_n i204_7 rfl ?_
  refine rn_iadd i204_8 ?_
  refine rn_istore (ls1 := [(4, .inl (w32 ((w32 (6 + (w32 (6 * x1)))) + x2))), (0, .inr (.inr a0)), (1, .inl x1), (2, .inl x2), (3, .inl x3)]) i204_9 rfl ?_
  refine rn_iconst i204_11 ?_
  refine rn_istore (ls1 := [(5, .inl 0), (4, .inl (w32 ((w32 (6 + (w32 (6 * x1)))) + x2))), (0, .inr (.inr a0)), (1, .inl x1), (2, .inl x2), (3, .inl x3)]) i204_12 rfl ?_
  exact rn_sub [2, 3, 4, 5, 1, 0] rfl (s_Mo_lessons_14 hD FU a0 x1 x2 x3 (w32 ((w32 (6 + (w32 (6 * x1)))) + x2)) 0 w r h)
/-- HandHeirsModel.lessons(III)V -/
def Mo_lessons (a0 : Nat) (x1 : Int) (x2 : Int) (x3 : Int) (w : Wd) : Option (Wd) := gd 12 w a0 (Mo_lessons_0 a0 x1 x2 x3 w)
theorem S_Mo_lessons {g : Gp} {l : Launch} (a0 : Nat) (x1 : Int) (x2 : Int) (x3 : Int) (w : Wd) (r : Wd) (h : Mo_lessons a0 x1 x2 x3 w = some r) : (wsh w a0).1 = 12 ∧ ∀ D, 1 ≤ D → Rn g l D 204 0 [(0, .inr (.inr a0)), (1, .inl x1), (2, .inl x2), (3, .inl x3)] [] w none r := by
  obtain ⟨hg, h⟩ := gd_some h
  exact ⟨hg, fun D hD => rn_sub [0, 1, 2, 3] rfl (s_Mo_lessons_0 hD a0 x1 x2 x3 w r h)⟩
def Mo_drifts_106 (s0 : Int) (s1 : Int) (s2 : Nat) (w : Wd) : Option (Wd) :=
  (wrI w s2 s1 s0).bind fun w106 =>
  some w106
theorem s_Mo_drifts_106 {g : Gp} {l : Launch} {D : Nat} (hD : 2 ≤ D) (s0 : Int) (s1 : Int) (s2 : Nat) (w : Wd) (r : Wd) (h : Mo_drifts_106 s0 s1 s2 w = some r) : Rn g l D 206 106 [] [.inl s0, .inl s1, .inr (.inr s2)] w none r := by
  unfold Mo_drifts_106 at h
  obtain ⟨w106, h106, h⟩ := Option.bind_eq_some_iff.mp h
  refine rn_iast i206_106 h106 ?_
  obtain rfl := Option.some.inj h
  exact rn_ret i206_107 mr206
def Mo_drifts_65 (a0 : Nat) (x2 : Int) (s0 : Int) (w : Wd) : Option (Wd) :=
  (fgR w a0 12 50).bind fun v70 =>
  (rdI w v70 x2).bind fun v74 =>
  (fgR w a0 12 50).bind fun v79 =>
  if (0 : Int) ≤ (w32 (s0 + v74)) then
    if ((w32 (s0 + v74)) : Int) ≤ 99 then
      Mo_drifts_106 (w32 (s0 + v74)) x2 v79 w
    else
      Mo_drifts_106 99 x2 v79 w
  else
    Mo_drifts_106 0 x2 v79 w
theorem s_Mo_drifts_65 {g : Gp} {l : Launch} {D : Nat} (hD : 2 ≤ D) (a0 : Nat) (x2 : Int) (s0 : Int) (w : Wd) (r : Wd) (h : Mo_drifts_65 a0 x2 s0 w = some r) : Rn g l D 206 65 [(0, .inr (.inr a0)), (2, .inl x2)] [.inl s0] w none r := by
  unfold Mo_drifts_65 at h
  refine rn_istore (ls1 := [(4, .inl s0), (0, .inr (.inr a0)), (2, .inl x2)]) i206_65 rfl ?_
  refine rn_iload i206_67 rfl ?_
  refine fr_aload_n i206_69 rfl ?_
  obtain ⟨v70, h70, h⟩ := Option.bind_eq_some_iff.mp h
  refine fr_gR (k := 50) i206_70 tf12_50 h70 ?_
  refine rn_iload_n i206_73 rfl ?_
  obtain ⟨v74, h74, h⟩ := Option.bind_eq_some_iff.mp h
  refine rn_iald i206_74 h74 ?_
  refine rn_iadd i206_75 ?_
  refine rn_istore (ls1 := [(4, .inl (w32 (s0 + v74))), (0, .inr (.inr a0)), (2, .inl x2)]) i206_76 rfl ?_
  refine fr_aload_n i206_78 rfl ?_
  obtain ⟨v79, h79, h⟩ := Option.bind_eq_some_iff.mp h
  refine fr_gR (k := 50) i206_79 tf12_50 h79 ?_
  refine rn_iload_n i206_82 rfl ?_
  refine rn_iload i206_83 rfl ?_
  by_cases c85 : (0 : Int) ≤ (w32 (s0 + v74))
  · rw [if_pos c85] at h
    refine rn_if_ge_t i206_85 c85 ?_
    refine rn_iload i206_92 rfl ?_
    refine rn_bipush i206_94 ?_
    by_cases c96 : ((w32 (s0 + v74)) : Int) ≤ 99
    · rw [if_pos c96] at h
      refine rn_icmp_le_t i206_96 c96 ?_
      refine rn_iload i206_104 rfl ?_
      exact rn_sub [] rfl (s_Mo_drifts_106 hD (w32 (s0 + v74)) x2 v79 w r h)
    · rw [if_neg c96] at h
      refine rn_icmp_le_f i206_96 c96 ?_
      refine rn_bipush i206_99 ?_
      refine rn_goto i206_101 ?_
      exact rn_sub [] rfl (s_Mo_drifts_106 hD 99 x2 v79 w r h)
  · rw [if_neg c85] at h
    refine rn_if_ge_f i206_85 c85 ?_
    refine rn_iconst i206_88 ?_
    refine rn_goto i206_89 ?_
    exact rn_sub [] rfl (s_Mo_drifts_106 hD 0 x2 v79 w r h)
def Mo_drifts_0 (a0 : Nat) (x1 : Int) (x2 : Int) (w : Wd) : Option (Wd) :=
  (Mo_shapeOf a0 x1 x2 w).bind fun r3 =>
  (fgR r3.2 a0 12 50).bind fun v10 =>
  (rdI r3.2 v10 x2).bind fun v14 =>
  (Mo_apart (r3.1) v14 r3.2).bind fun r15 =>
  (fgR r15.2 a0 12 50).bind fun v22 =>
  (rdI r15.2 v22 x2).bind fun v26 =>
  (Mo_setsOf a0 (r15.1) x2 0 (r3.1) v26 0 r15.2).bind fun r28 =>
  (Mo_tells a0 9 r28).bind fun r34 =>
  if ((-9) : Int) ≤ r34.1 then
    if (r34.1 : Int) ≤ 9 then
      Mo_drifts_65 a0 x2 r34.1 r34.2
    else
      Mo_drifts_65 a0 x2 9 r34.2
  else
    Mo_drifts_65 a0 x2 (-9) r34.2
theorem s_Mo_drifts_0 {g : Gp} {l : Launch} {D : Nat} (hD : 2 ≤ D) (a0 : Nat) (x1 : Int) (x2 : Int) (w : Wd) (r : Wd) (h : Mo_drifts_0 a0 x1 x2 w = some r) : Rn g l D 206 0 [(0, .inr (.inr a0)), (1, .inl x1), (2, .inl x2)] [] w none r := by
  obtain ⟨D, rfl⟩ : ∃ D1, D = D1 + 1 := ⟨D - 1, by omega⟩
  unfold Mo_drifts_0 at h
  refine fr_aload_n i206_0 rfl ?_
  refine rn_iload_n i206_1 rfl ?_
  refine rn_iload_n i206_2 rfl ?_
  obtain ⟨r3, h3, h⟩ := Option.bind_eq_some_iff.mp h
  obtain ⟨g3, c3⟩ := S_Mo_shapeOf a0 x1 x2 w r3 h3
  refine fr_callV (a := a0) (As := [.inl x1, .inl x2]) (st := []) i206_3 (cq194 a0 x1 x2) rfl (Nat.le_of_ble_eq_true rfl) g3 (c3 _ (by omega)) ?_
  show Rn _ _ _ _ _ _ [.inl r3.1] _ _ _
  refine rn_istore_n (ls1 := [(3, .inl r3.1), (0, .inr (.inr a0)), (1, .inl x1), (2, .inl x2)]) i206_6 rfl ?_
  refine fr_aload_n i206_7 rfl ?_
  refine rn_iload_n i206_8 rfl ?_
  refine fr_aload_n i206_9 rfl ?_
  obtain ⟨v10, h10, h⟩ := Option.bind_eq_some_iff.mp h
  refine fr_gR (k := 50) i206_10 tf12_50 h10 ?_
  refine rn_iload_n i206_13 rfl ?_
  obtain ⟨v14, h14, h⟩ := Option.bind_eq_some_iff.mp h
  refine rn_iald i206_14 h14 ?_
  obtain ⟨r15, h15, h⟩ := Option.bind_eq_some_iff.mp h
  refine fr_callS (nst := 0) (As := [.inl r3.1, .inl v14]) (st := [.inr (.inr a0)]) i206_15 (cq193 (r3.1) v14) rfl (Nat.le_of_ble_eq_true rfl) (S_Mo_apart (r3.1) v14 r3.2 r15 h15 _ (by omega)) ?_
  show Rn _ _ _ _ _ _ [.inl r15.1, .inr (.inr a0)] _ _ _
  refine rn_iload_n i206_18 rfl ?_
  refine rn_iconst i206_19 ?_
  refine rn_iload_n i206_20 rfl ?_
  refine fr_aload_n i206_21 rfl ?_
  obtain ⟨v22, h22, h⟩ := Option.bind_eq_some_iff.mp h
  refine fr_gR (k := 50) i206_22 tf12_50 h22 ?_
  refine rn_iload_n i206_25 rfl ?_
  obtain ⟨v26, h26, h⟩ := Option.bind_eq_some_iff.mp h
  refine rn_iald i206_26 h26 ?_
  refine rn_iconst i206_27 ?_
  obtain ⟨r28, h28, h⟩ := Option.bind_eq_some_iff.mp h
  obtain ⟨g28, c28⟩ := S_Mo_setsOf a0 (r15.1) x2 0 (r3.1) v26 0 r15.2 r28 h28
  refine fr_callV (a := a0) (As := [.inl r15.1, .inl x2, .inl 0, .inl r3.1, .inl v26, .inl 0]) (st := []) i206_28 (cq197 a0 (r15.1) x2 0 (r3.1) v26 0) rfl (Nat.le_of_ble_eq_true rfl) g28 (c28 _ (by omega)) ?_
  refine fr_aload_n i206_31 rfl ?_
  refine rn_bipush i206_32 ?_
  obtain ⟨r34, h34, h⟩ := Option.bind_eq_some_iff.mp h
  obtain ⟨g34, c34⟩ := S_Mo_tells a0 9 r28 r34 h34
  refine fr_callV (a := a0) (As := [.inl 9]) (st := []) i206_34 (cq196 a0 9) rfl (Nat.le_of_ble_eq_true rfl) g34 (c34 _ (by omega)) ?_
  show Rn _ _ _ _ _ _ [.inl r34.1] _ _ _
  refine rn_istore (ls1 := [(4, .inl r34.1), (3, .inl r3.1), (0, .inr (.inr a0)), (1, .inl x1), (2, .inl x2)]) i206_37 rfl ?_
  refine rn_iload i206_39 rfl ?_
  refine rn_bipush i206_41 ?_
  by_cases c43 : ((-9) : Int) ≤ r34.1
  · rw [if_pos c43] at h
    refine rn_icmp_ge_t i206_43 c43 ?_
    refine rn_iload i206_51 rfl ?_
    refine rn_bipush i206_53 ?_
    by_cases c55 : (r34.1 : Int) ≤ 9
    · rw [if_pos c55] at h
      refine rn_icmp_le_t i206_55 c55 ?_
      refine rn_iload i206_63 rfl ?_
      exact rn_sub [2, 4] rfl (s_Mo_drifts_65 hD a0 x2 r34.1 r34.2 r h)
    · rw [if_neg c55] at h
      refine rn_icmp_le_f i206_55 c55 ?_
      refine rn_bipush i206_58 ?_
      refine rn_goto i206_60 ?_
      exact rn_sub [2, 4] rfl (s_Mo_drifts_65 hD a0 x2 9 r34.2 r h)
  · rw [if_neg c43] at h
    refine rn_icmp_ge_f i206_43 c43 ?_
    refine rn_bipush i206_46 ?_
    refine rn_goto i206_48 ?_
    exact rn_sub [2, 4] rfl (s_Mo_drifts_65 hD a0 x2 (-9) r34.2 r h)
/-- HandHeirsModel.drifts(II)V -/
def Mo_drifts (a0 : Nat) (x1 : Int) (x2 : Int) (w : Wd) : Option (Wd) := gd 12 w a0 (Mo_drifts_0 a0 x1 x2 w)
theorem S_Mo_drifts {g : Gp} {l : Launch} (a0 : Nat) (x1 : Int) (x2 : Int) (w : Wd) (r : Wd) (h : Mo_drifts a0 x1 x2 w = some r) : (wsh w a0).1 = 12 ∧ ∀ D, 2 ≤ D → Rn g l D 206 0 [(0, .inr (.inr a0)), (1, .inl x1), (2, .inl x2)] [] w none r := by
  obtain ⟨hg, h⟩ := gd_some h
  exact ⟨hg, fun D hD => rn_sub [0, 1, 2] rfl (s_Mo_drifts_0 hD a0 x1 x2 w r h)⟩
def Mo_yearGoes_48 (k2 : Nat → Int → Wd → Option (Wd)) (k17 : Nat → Int → Int → Wd → Option (Wd)) (a0 : Nat) (x1 : Int) (x2 : Int) (w : Wd) : Option (Wd) :=
  k17 a0 x1 (w32 (x2 + 1)) w
theorem s_Mo_yearGoes_48 {g : Gp} {l : Launch} {D : Nat} (hD : 6 ≤ D) (k2 : Nat → Int → Wd → Option (Wd)) (hk2 : ∀ (a0 : Nat) (x1 : Int) (w : Wd) (r : Wd), k2 a0 x1 w = some r → Rn g l D 205 2 [(0, .inr (.inr a0)), (1, .inl x1)] [] w none r) (k17 : Nat → Int → Int → Wd → Option (Wd)) (hk17 : ∀ (a0 : Nat) (x1 : Int) (x2 : Int) (w : Wd) (r : Wd), k17 a0 x1 x2 w = some r → Rn g l D 205 17 [(0, .inr (.inr a0)), (1, .inl x1), (2, .inl x2)] [] w none r) (a0 : Nat) (x1 : Int) (x2 : Int) (w : Wd) (r : Wd) (h : Mo_yearGoes_48 k2 k17 a0 x1 x2 w = some r) : Rn g l D 205 48 [(0, .inr (.inr a0)), (1, .inl x1), (2, .inl x2)] [] w none r := by
  unfold Mo_yearGoes_48 at h
  refine rn_iinc (ls1 := [(2, .inl (w32 (x2 + 1))), (0, .inr (.inr a0)), (1, .inl x1)]) i205_48 rfl rfl ?_
  refine rn_goto i205_51 ?_
  exact rn_sub [1, 2, 0] rfl (hk17 a0 x1 (w32 (x2 + 1)) w r h)
def Mo_yearGoes_54 (k2 : Nat → Int → Wd → Option (Wd)) (a0 : Nat) (x1 : Int) (w : Wd) : Option (Wd) :=
  k2 a0 (w32 (x1 + 1)) w
theorem s_Mo_yearGoes_54 {g : Gp} {l : Launch} {D : Nat} (hD : 6 ≤ D) (k2 : Nat → Int → Wd → Option (Wd)) (hk2 : ∀ (a0 : Nat) (x1 : Int) (w : Wd) (r : Wd), k2 a0 x1 w = some r → Rn g l D 205 2 [(0, .inr (.inr a0)), (1, .inl x1)] [] w none r) (a0 : Nat) (x1 : Int) (w : Wd) (r : Wd) (h : Mo_yearGoes_54 k2 a0 x1 w = some r) : Rn g l D 205 54 [(0, .inr (.inr a0)), (1, .inl x1)] [] w none r := by
  unfold Mo_yearGoes_54 at h
  refine rn_iinc (ls1 := [(1, .inl (w32 (x1 + 1))), (0, .inr (.inr a0))]) i205_54 rfl rfl ?_
  refine rn_goto i205_57 ?_
  exact rn_sub [1, 0] rfl (hk2 a0 (w32 (x1 + 1)) w r h)
def Mo_yearGoes_17 (k2 : Nat → Int → Wd → Option (Wd)) : Nat → Nat → Int → Int → Wd → Option (Wd)
  | 0, _, _, _, _ => none
  | n + 1, a0, x1, x2, w =>
    (fgR w a0 12 25).bind fun v19 =>
    (fgI w a0 12 18).bind fun v23 =>
    (rdI w v19 v23).bind fun v26 =>
    if (v26 : Int) ≤ x2 then
      Mo_yearGoes_54 k2 a0 x1 w
    else
      (Mo_learns a0 x2 x1 w).bind fun r33 =>
      if (r33.1 : Int) < 0 then
        Mo_yearGoes_48 k2 (Mo_yearGoes_17 k2 n) a0 x1 x2 r33.2
      else
        (Mo_lessons a0 x2 (r33.1) 1 r33.2).bind fun r45 =>
        Mo_yearGoes_48 k2 (Mo_yearGoes_17 k2 n) a0 x1 x2 r45
theorem s_Mo_yearGoes_17 {g : Gp} {l : Launch} {D : Nat} (hD : 6 ≤ D) (k2 : Nat → Int → Wd → Option (Wd)) (hk2 : ∀ (a0 : Nat) (x1 : Int) (w : Wd) (r : Wd), k2 a0 x1 w = some r → Rn g l D 205 2 [(0, .inr (.inr a0)), (1, .inl x1)] [] w none r) : ∀ (n : Nat) (a0 : Nat) (x1 : Int) (x2 : Int) (w : Wd) (r : Wd), Mo_yearGoes_17 k2 n a0 x1 x2 w = some r → Rn g l D 205 17 [(0, .inr (.inr a0)), (1, .inl x1), (2, .inl x2)] [] w none r := by
  obtain ⟨D, rfl⟩ : ∃ D1, D = D1 + 1 := ⟨D - 1, by omega⟩
  intro n
  induction n with
  | zero => intro a0 x1 x2 w r h; cases (show (none : Option (Wd)) = some r from h)
  | succ n ih =>
    intro a0 x1 x2 w r h
    unfold Mo_yearGoes_17 at h
    refine rn_iload_n i205_17 rfl ?_
    refine fr_aload_n i205_18 rfl ?_
    obtain ⟨v19, h19, h⟩ := Option.bind_eq_some_iff.mp h
    refine fr_gR (k := 25) i205_19 tf12_25 h19 ?_
    refine fr_aload_n i205_22 rfl ?_
    obtain ⟨v23, h23, h⟩ := Option.bind_eq_some_iff.mp h
    refine fr_gI (k := 18) i205_23 tf12_18 h23 ?_
    obtain ⟨v26, h26, h⟩ := Option.bind_eq_some_iff.mp h
    refine rn_iald i205_26 h26 ?_
    by_cases c27 : (v26 : Int) ≤ x2
    · rw [if_pos c27] at h
      refine rn_icmp_ge_t i205_27 c27 ?_
      exact rn_sub [0, 1] rfl (s_Mo_yearGoes_54 hD k2 hk2 a0 x1 w r h)
    · rw [if_neg c27] at h
      refine rn_icmp_ge_f i205_27 c27 ?_
      refine fr_aload_n i205_30 rfl ?_
      refine rn_iload_n i205_31 rfl ?_
      refine rn_iload_n i205_32 rfl ?_
      obtain ⟨r33, h33, h⟩ := Option.bind_eq_some_iff.mp h
      obtain ⟨g33, c33⟩ := S_Mo_learns a0 x2 x1 w r33 h33
      refine fr_callV (a := a0) (As := [.inl x2, .inl x1]) (st := []) i205_33 (cq203 a0 x2 x1) rfl (Nat.le_of_ble_eq_true rfl) g33 (c33 _ (by omega)) ?_
      show Rn _ _ _ _ _ _ [.inl r33.1] _ _ _
      refine rn_istore_n (ls1 := [(3, .inl r33.1), (0, .inr (.inr a0)), (1, .inl x1), (2, .inl x2)]) i205_36 rfl ?_
      refine rn_iload_n i205_37 rfl ?_
      by_cases c38 : (r33.1 : Int) < 0
      · rw [if_pos c38] at h
        refine rn_if_lt_t i205_38 c38 ?_
        exact rn_sub [1, 2, 3] rfl (s_Mo_yearGoes_48 hD k2 hk2 (Mo_yearGoes_17 k2 n) ih a0 x1 x2 r33.2 r h)
      · rw [if_neg c38] at h
        refine rn_if_lt_f i205_38 c38 ?_
        refine fr_aload_n i205_41 rfl ?_
        refine rn_iload_n i205_42 rfl ?_
        refine rn_iload_n i205_43 rfl ?_
        refine rn_iconst i205_44 ?_
        obtain ⟨r45, h45, h⟩ := Option.bind_eq_some_iff.mp h
        obtain ⟨g45, c45⟩ := S_Mo_lessons a0 x2 (r33.1) 1 r33.2 r45 h45
        refine fr_callV (a := a0) (As := [.inl x2, .inl r33.1, .inl 1]) (st := []) i205_45 (cq204 a0 x2 (r33.1) 1) rfl (Nat.le_of_ble_eq_true rfl) g45 (c45 _ (by omega)) ?_
        exact rn_sub [1, 2, 3] rfl (s_Mo_yearGoes_48 hD k2 hk2 (Mo_yearGoes_17 k2 n) ih a0 x1 x2 r45 r h)
def Mo_yearGoes_204 (a0 : Nat) (w : Wd) : Option (Wd) :=
  (fgR w a0 12 50).bind fun v205 =>
  (rdI w v205 42).bind fun v211 =>
  (wrI w v205 42 (w32 (v211 + 1))).bind fun w214 =>
  some w214
theorem s_Mo_yearGoes_204 {g : Gp} {l : Launch} {D : Nat} (hD : 6 ≤ D) (a0 : Nat) (w : Wd) (r : Wd) (h : Mo_yearGoes_204 a0 w = some r) : Rn g l D 205 204 [(0, .inr (.inr a0))] [] w none r := by
  unfold Mo_yearGoes_204 at h
  refine fr_aload_n i205_204 rfl ?_
  obtain ⟨v205, h205, h⟩ := Option.bind_eq_some_iff.mp h
  refine fr_gR (k := 50) i205_205 tf12_50 h205 ?_
  refine rn_bipush i205_208 ?_
  refine rn_dup2 i205_210 rfl rfl ?_
  obtain ⟨v211, h211, h⟩ := Option.bind_eq_some_iff.mp h
  refine rn_iald i205_211 h211 ?_
  refine rn_iconst i205_212 ?_
  refine rn_iadd i205_213 ?_
  obtain ⟨w214, h214, h⟩ := Option.bind_eq_some_iff.mp h
  refine rn_iast i205_214 h214 ?_
  obtain rfl := Option.some.inj h
  exact rn_ret i205_215 mr205
def Mo_yearGoes_179 : Nat → Nat → Int → Int → Wd → Option (Wd)
  | 0, _, _, _, _ => none
  | n + 1, a0, x1, x3, w =>
    (fgR w a0 12 23).bind fun v181 =>
    (fgI w a0 12 18).bind fun v185 =>
    (rdI w v181 v185).bind fun v188 =>
    if (v188 : Int) ≤ x3 then
      Mo_yearGoes_204 a0 w
    else
      (Mo_drifts a0 x1 x3 w).bind fun r195 =>
      Mo_yearGoes_179 n a0 x1 (w32 (x3 + 1)) r195
theorem s_Mo_yearGoes_179 {g : Gp} {l : Launch} {D : Nat} (hD : 6 ≤ D) : ∀ (n : Nat) (a0 : Nat) (x1 : Int) (x3 : Int) (w : Wd) (r : Wd), Mo_yearGoes_179 n a0 x1 x3 w = some r → Rn g l D 205 179 [(0, .inr (.inr a0)), (1, .inl x1), (3, .inl x3)] [] w none r := by
  obtain ⟨D, rfl⟩ : ∃ D1, D = D1 + 1 := ⟨D - 1, by omega⟩
  intro n
  induction n with
  | zero => intro a0 x1 x3 w r h; cases (show (none : Option (Wd)) = some r from h)
  | succ n ih =>
    intro a0 x1 x3 w r h
    unfold Mo_yearGoes_179 at h
    refine rn_iload_n i205_179 rfl ?_
    refine fr_aload_n i205_180 rfl ?_
    obtain ⟨v181, h181, h⟩ := Option.bind_eq_some_iff.mp h
    refine fr_gR (k := 23) i205_181 tf12_23 h181 ?_
    refine fr_aload_n i205_184 rfl ?_
    obtain ⟨v185, h185, h⟩ := Option.bind_eq_some_iff.mp h
    refine fr_gI (k := 18) i205_185 tf12_18 h185 ?_
    obtain ⟨v188, h188, h⟩ := Option.bind_eq_some_iff.mp h
    refine rn_iald i205_188 h188 ?_
    by_cases c189 : (v188 : Int) ≤ x3
    · rw [if_pos c189] at h
      refine rn_icmp_ge_t i205_189 c189 ?_
      exact rn_sub [0] rfl (s_Mo_yearGoes_204 hD a0 w r h)
    · rw [if_neg c189] at h
      refine rn_icmp_ge_f i205_189 c189 ?_
      refine fr_aload_n i205_192 rfl ?_
      refine rn_iload_n i205_193 rfl ?_
      refine rn_iload_n i205_194 rfl ?_
      obtain ⟨r195, h195, h⟩ := Option.bind_eq_some_iff.mp h
      obtain ⟨g195, c195⟩ := S_Mo_drifts a0 x1 x3 w r195 h195
      refine fr_callV (a := a0) (As := [.inl x1, .inl x3]) (st := []) i205_195 (cq206 a0 x1 x3) rfl (Nat.le_of_ble_eq_true rfl) g195 (c195 _ (by omega)) ?_
      refine rn_iinc (ls1 := [(3, .inl (w32 (x3 + 1))), (0, .inr (.inr a0)), (1, .inl x1)]) i205_198 rfl rfl ?_
      refine rn_goto i205_201 ?_
      exact rn_sub [1, 2, 0] rfl (ih a0 x1 (w32 (x3 + 1)) r195 r h)
def Mo_yearGoes_152 (a0 : Nat) (x1 : Int) (w : Wd) : Option (Wd) :=
  (fgR w a0 12 50).bind fun v153 =>
  (wrI w v153 43 x1).bind fun w159 =>
  if (x1 : Int) < 0 then
    Mo_yearGoes_204 a0 w159
  else
    (fgR w159 a0 12 50).bind fun v165 =>
    (rdI w159 v165 (w32 (46 + x1))).bind fun v173 =>
    (wrI w159 v165 (w32 (46 + x1)) (w32 (v173 + 1))).bind fun w176 =>
    Mo_yearGoes_179 FU a0 x1 0 w176
theorem s_Mo_yearGoes_152 {g : Gp} {l : Launch} {D : Nat} (hD : 6 ≤ D) (a0 : Nat) (x1 : Int) (w : Wd) (r : Wd) (h : Mo_yearGoes_152 a0 x1 w = some r) : Rn g l D 205 152 [(0, .inr (.inr a0)), (1, .inl x1)] [] w none r := by
  unfold Mo_yearGoes_152 at h
  refine fr_aload_n i205_152 rfl ?_
  obtain ⟨v153, h153, h⟩ := Option.bind_eq_some_iff.mp h
  refine fr_gR (k := 50) i205_153 tf12_50 h153 ?_
  refine rn_bipush i205_156 ?_
  refine rn_iload_n i205_158 rfl ?_
  obtain ⟨w159, h159, h⟩ := Option.bind_eq_some_iff.mp h
  refine rn_iast i205_159 h159 ?_
  refine rn_iload_n i205_160 rfl ?_
  by_cases c161 : (x1 : Int) < 0
  · rw [if_pos c161] at h
    refine rn_if_lt_t i205_161 c161 ?_
    exact rn_sub [0] rfl (s_Mo_yearGoes_204 hD a0 w159 r h)
  · rw [if_neg c161] at h
    refine rn_if_lt_f i205_161 c161 ?_
    refine fr_aload_n i205_164 rfl ?_
    obtain ⟨v165, h165, h⟩ := Option.bind_eq_some_iff.mp h
    refine fr_gR (k := 50) i205_165 tf12_50 h165 ?_
    refine rn_bipush i205_168 ?_
    refine rn_iload_n i205_170 rfl ?_
    refine rn_iadd i205_171 ?_
    refine rn_dup2 i205_172 rfl rfl ?_
    obtain ⟨v173, h173, h⟩ := Option.bind_eq_some_iff.mp h
    refine rn_iald i205_173 h173 ?_
    refine rn_iconst i205_174 ?_
    refine rn_iadd i205_175 ?_
    obtain ⟨w176, h176, h⟩ := Option.bind_eq_some_iff.mp h
    refine rn_iast i205_176 h176 ?_
    refine rn_iconst i205_177 ?_
    refine rn_istore_n (ls1 := [(3, .inl 0), (0, .inr (.inr a0)), (1, .inl x1)]) i205_178 rfl ?_
    exact rn_sub [1, 2, 0] rfl (s_Mo_yearGoes_179 hD FU a0 x1 0 w176 r h)
def Mo_yearGoes_131 (a0 : Nat) (x1 : Int) (x2 : Int) (w : Wd) : Option (Wd) :=
  (fgR w a0 12 50).bind fun v132 =>
  (wrI w v132 (w32 (x2 + 6)) x1).bind fun w140 =>
  (fgR w140 a0 12 50).bind fun v142 =>
  (rdI w140 v142 45).bind fun v148 =>
  (wrI w140 v142 45 (w32 (v148 + 1))).bind fun w151 =>
  Mo_yearGoes_152 a0 x1 w151
theorem s_Mo_yearGoes_131 {g : Gp} {l : Launch} {D : Nat} (hD : 6 ≤ D) (a0 : Nat) (x1 : Int) (x2 : Int) (w : Wd) (r : Wd) (h : Mo_yearGoes_131 a0 x1 x2 w = some r) : Rn g l D 205 131 [(0, .inr (.inr a0)), (1, .inl x1), (2, .inl x2)] [] w none r := by
  unfold Mo_yearGoes_131 at h
  refine fr_aload_n i205_131 rfl ?_
  obtain ⟨v132, h132, h⟩ := Option.bind_eq_some_iff.mp h
  refine fr_gR (k := 50) i205_132 tf12_50 h132 ?_
  refine rn_iload_n i205_135 rfl ?_
  refine rn_bipush i205_136 ?_
  refine rn_iadd i205_138 ?_
  refine rn_iload_n i205_139 rfl ?_
  obtain ⟨w140, h140, h⟩ := Option.bind_eq_some_iff.mp h
  refine rn_iast i205_140 h140 ?_
  refine fr_aload_n i205_141 rfl ?_
  obtain ⟨v142, h142, h⟩ := Option.bind_eq_some_iff.mp h
  refine fr_gR (k := 50) i205_142 tf12_50 h142 ?_
  refine rn_bipush i205_145 ?_
  refine rn_dup2 i205_147 rfl rfl ?_
  obtain ⟨v148, h148, h⟩ := Option.bind_eq_some_iff.mp h
  refine rn_iald i205_148 h148 ?_
  refine rn_iconst i205_149 ?_
  refine rn_iadd i205_150 ?_
  obtain ⟨w151, h151, h⟩ := Option.bind_eq_some_iff.mp h
  refine rn_iast i205_151 h151 ?_
  exact rn_sub [0, 1] rfl (s_Mo_yearGoes_152 hD a0 x1 w151 r h)
def Mo_yearGoes_105 : Nat → Nat → Int → Int → Int → Wd → Option (Wd)
  | 0, _, _, _, _, _ => none
  | n + 1, a0, x1, x2, x3, w =>
    if (6 : Int) ≤ x3 then
      Mo_yearGoes_131 a0 x1 x2 w
    else
      (fgR w a0 12 50).bind fun v112 =>
      (fgR w a0 12 50).bind fun v119 =>
      (rdI w v119 x3).bind fun v123 =>
      (wrI w v112 (w32 (x2 + x3)) v123).bind fun w124 =>
      Mo_yearGoes_105 n a0 x1 x2 (w32 (x3 + 1)) w124
theorem s_Mo_yearGoes_105 {g : Gp} {l : Launch} {D : Nat} (hD : 6 ≤ D) : ∀ (n : Nat) (a0 : Nat) (x1 : Int) (x2 : Int) (x3 : Int) (w : Wd) (r : Wd), Mo_yearGoes_105 n a0 x1 x2 x3 w = some r → Rn g l D 205 105 [(0, .inr (.inr a0)), (1, .inl x1), (2, .inl x2), (3, .inl x3)] [] w none r := by
  intro n
  induction n with
  | zero => intro a0 x1 x2 x3 w r h; cases (show (none : Option (Wd)) = some r from h)
  | succ n ih =>
    intro a0 x1 x2 x3 w r h
    unfold Mo_yearGoes_105 at h
    refine rn_iload_n i205_105 rfl ?_
    refine rn_bipush i205_106 ?_
    by_cases c108 : (6 : Int) ≤ x3
    · rw [if_pos c108] at h
      refine rn_icmp_ge_t i205_108 c108 ?_
      exact rn_sub [0, 1, 2] rfl (s_Mo_yearGoes_131 hD a0 x1 x2 w r h)
    · rw [if_neg c108] at h
      refine rn_icmp_ge_f i205_108 c108 ?_
      refine fr_aload_n i205_111 rfl ?_
      obtain ⟨v112, h112, h⟩ := Option.bind_eq_some_iff.mp h
      refine fr_gR (k := 50) i205_112 tf12_50 h112 ?_
      refine rn_iload_n i205_115 rfl ?_
      refine rn_iload_n i205_116 rfl ?_
      refine rn_iadd i205_117 ?_
      refine fr_aload_n i205_118 rfl ?_
      obtain ⟨v119, h119, h⟩ := Option.bind_eq_some_iff.mp h
      refine fr_gR (k := 50) i205_119 tf12_50 h119 ?_
      refine rn_iload_n i205_122 rfl ?_
      obtain ⟨v123, h123, h⟩ := Option.bind_eq_some_iff.mp h
      refine rn_iald i205_123 h123 ?_
      obtain ⟨w124, h124, h⟩ := Option.bind_eq_some_iff.mp h
      refine rn_iast i205_124 h124 ?_
      refine rn_iinc (ls1 := [(3, .inl (w32 (x3 + 1))), (0, .inr (.inr a0)), (1, .inl x1), (2, .inl x2)]) i205_125 rfl rfl ?_
      refine rn_goto i205_128 ?_
      exact rn_sub [1, 2, 3, 0] rfl (ih a0 x1 x2 (w32 (x3 + 1)) w124 r h)
def Mo_yearGoes_60 (a0 : Nat) (w : Wd) : Option (Wd) :=
  (Mo_judged a0 w).bind fun r61 =>
  (fgR r61.2 a0 12 50).bind fun v66 =>
  (rdI r61.2 v66 44).bind fun v72 =>
  (wrI r61.2 v66 44 (w32 (v72 + 1))).bind fun w75 =>
  (fgR w75 a0 12 50).bind fun v81 =>
  (rdI w75 v81 45).bind fun v86 =>
  (fgR w75 a0 12 50).bind fun v91 =>
  (rdI w75 v91 45).bind fun v96 =>
  if (400 : Int) ≤ v96 then
    Mo_yearGoes_152 a0 r61.1 w75
  else
    Mo_yearGoes_105 FU a0 r61.1 (w32 (60 + (w32 (7 * v86)))) 0 w75
theorem s_Mo_yearGoes_60 {g : Gp} {l : Launch} {D : Nat} (hD : 6 ≤ D) (a0 : Nat) (w : Wd) (r : Wd) (h : Mo_yearGoes_60 a0 w = some r) : Rn g l D 205 60 [(0, .inr (.inr a0))] [] w none r := by
  obtain ⟨D, rfl⟩ : ∃ D1, D = D1 + 1 := ⟨D - 1, by omega⟩
  unfold Mo_yearGoes_60 at h
  refine fr_aload_n i205_60 rfl ?_
  obtain ⟨r61, h61, h⟩ := Option.bind_eq_some_iff.mp h
  obtain ⟨g61, c61⟩ := S_Mo_judged a0 w r61 h61
  refine fr_callV (a := a0) (As := []) (st := []) i205_61 (cq202 a0) rfl (Nat.le_of_ble_eq_true rfl) g61 (c61 _ (by omega)) ?_
  show Rn _ _ _ _ _ _ [.inl r61.1] _ _ _
  refine rn_istore_n (ls1 := [(1, .inl r61.1), (0, .inr (.inr a0))]) i205_64 rfl ?_
  refine fr_aload_n i205_65 rfl ?_
  obtain ⟨v66, h66, h⟩ := Option.bind_eq_some_iff.mp h
  refine fr_gR (k := 50) i205_66 tf12_50 h66 ?_
  refine rn_bipush i205_69 ?_
  refine rn_dup2 i205_71 rfl rfl ?_
  obtain ⟨v72, h72, h⟩ := Option.bind_eq_some_iff.mp h
  refine rn_iald i205_72 h72 ?_
  refine rn_iconst i205_73 ?_
  refine rn_iadd i205_74 ?_
  obtain ⟨w75, h75, h⟩ := Option.bind_eq_some_iff.mp h
  refine rn_iast i205_75 h75 ?_
  refine rn_bipush i205_76 ?_
  refine rn_bipush i205_78 ?_
  refine fr_aload_n i205_80 rfl ?_
  obtain ⟨v81, h81, h⟩ := Option.bind_eq_some_iff.mp h
  refine fr_gR (k := 50) i205_81 tf12_50 h81 ?_
  refine rn_bipush i205_84 ?_
  obtain ⟨v86, h86, h⟩ := Option.bind_eq_some_iff.mp h
  refine rn_iald i205_86 h86 ?_
  refine rn_imul i205_87 ?_
  refine rn_iadd i205_88 ?_
  refine rn_istore_n (ls1 := [(2, .inl (w32 (60 + (w32 (7 * v86))))), (1, .inl r61.1), (0, .inr (.inr a0))]) i205_89 rfl ?_
  refine fr_aload_n i205_90 rfl ?_
  obtain ⟨v91, h91, h⟩ := Option.bind_eq_some_iff.mp h
  refine fr_gR (k := 50) i205_91 tf12_50 h91 ?_
  refine rn_bipush i205_94 ?_
  obtain ⟨v96, h96, h⟩ := Option.bind_eq_some_iff.mp h
  refine rn_iald i205_96 h96 ?_
  refine rn_sipush i205_97 ?_
  by_cases c100 : (400 : Int) ≤ v96
  · rw [if_pos c100] at h
    refine rn_icmp_ge_t i205_100 c100 ?_
    exact rn_sub [2, 1] rfl (s_Mo_yearGoes_152 hD a0 r61.1 w75 r h)
  · rw [if_neg c100] at h
    refine rn_icmp_ge_f i205_100 c100 ?_
    refine rn_iconst i205_103 ?_
    refine rn_istore_n (ls1 := [(3, .inl 0), (2, .inl (w32 (60 + (w32 (7 * v86))))), (1, .inl r61.1), (0, .inr (.inr a0))]) i205_104 rfl ?_
    exact rn_sub [3, 2, 1, 0] rfl (s_Mo_yearGoes_105 hD FU a0 r61.1 (w32 (60 + (w32 (7 * v86)))) 0 w75 r h)
def Mo_yearGoes_2 : Nat → Nat → Int → Wd → Option (Wd)
  | 0, _, _, _ => none
  | n + 1, a0, x1, w =>
    (fgR w a0 12 30).bind fun v4 =>
    (fgI w a0 12 18).bind fun v8 =>
    (rdI w v4 v8).bind fun v11 =>
    if (v11 : Int) ≤ x1 then
      Mo_yearGoes_60 a0 w
    else
      Mo_yearGoes_17 (Mo_yearGoes_2 n) FU a0 x1 0 w
theorem s_Mo_yearGoes_2 {g : Gp} {l : Launch} {D : Nat} (hD : 6 ≤ D) : ∀ (n : Nat) (a0 : Nat) (x1 : Int) (w : Wd) (r : Wd), Mo_yearGoes_2 n a0 x1 w = some r → Rn g l D 205 2 [(0, .inr (.inr a0)), (1, .inl x1)] [] w none r := by
  intro n
  induction n with
  | zero => intro a0 x1 w r h; cases (show (none : Option (Wd)) = some r from h)
  | succ n ih =>
    intro a0 x1 w r h
    unfold Mo_yearGoes_2 at h
    refine rn_iload_n i205_2 rfl ?_
    refine fr_aload_n i205_3 rfl ?_
    obtain ⟨v4, h4, h⟩ := Option.bind_eq_some_iff.mp h
    refine fr_gR (k := 30) i205_4 tf12_30 h4 ?_
    refine fr_aload_n i205_7 rfl ?_
    obtain ⟨v8, h8, h⟩ := Option.bind_eq_some_iff.mp h
    refine fr_gI (k := 18) i205_8 tf12_18 h8 ?_
    obtain ⟨v11, h11, h⟩ := Option.bind_eq_some_iff.mp h
    refine rn_iald i205_11 h11 ?_
    by_cases c12 : (v11 : Int) ≤ x1
    · rw [if_pos c12] at h
      refine rn_icmp_ge_t i205_12 c12 ?_
      exact rn_sub [0] rfl (s_Mo_yearGoes_60 hD a0 w r h)
    · rw [if_neg c12] at h
      refine rn_icmp_ge_f i205_12 c12 ?_
      refine rn_iconst i205_15 ?_
      refine rn_istore_n (ls1 := [(2, .inl 0), (0, .inr (.inr a0)), (1, .inl x1)]) i205_16 rfl ?_
      exact rn_sub [1, 2, 0] rfl (s_Mo_yearGoes_17 hD (Mo_yearGoes_2 n) ih FU a0 x1 0 w r h)
def Mo_yearGoes_0 (a0 : Nat) (w : Wd) : Option (Wd) :=
  Mo_yearGoes_2 FU a0 0 w
theorem s_Mo_yearGoes_0 {g : Gp} {l : Launch} {D : Nat} (hD : 6 ≤ D) (a0 : Nat) (w : Wd) (r : Wd) (h : Mo_yearGoes_0 a0 w = some r) : Rn g l D 205 0 [(0, .inr (.inr a0))] [] w none r := by
  unfold Mo_yearGoes_0 at h
  refine rn_iconst i205_0 ?_
  refine rn_istore_n (ls1 := [(1, .inl 0), (0, .inr (.inr a0))]) i205_1 rfl ?_
  exact rn_sub [1, 0] rfl (s_Mo_yearGoes_2 hD FU a0 0 w r h)
/-- HandHeirsModel.yearGoes()V -/
def Mo_yearGoes (a0 : Nat) (w : Wd) : Option (Wd) := gd 12 w a0 (Mo_yearGoes_0 a0 w)
theorem S_Mo_yearGoes {g : Gp} {l : Launch} (a0 : Nat) (w : Wd) (r : Wd) (h : Mo_yearGoes a0 w = some r) : (wsh w a0).1 = 12 ∧ ∀ D, 6 ≤ D → Rn g l D 205 0 [(0, .inr (.inr a0))] [] w none r := by
  obtain ⟨hg, h⟩ := gd_some h
  exact ⟨hg, fun D hD => rn_sub [0] rfl (s_Mo_yearGoes_0 hD a0 w r h)⟩
def Mo_hand_18 (s0 : Int) (w : Wd) : Option (Int × Wd) :=
  some (s0, w)
theorem s_Mo_hand_18 {g : Gp} {l : Launch} {D : Nat} (hD : 2 ≤ D) (s0 : Int) (w : Wd) (r : Int × Wd) (h : Mo_hand_18 s0 w = some r) : Rn g l D 207 18 [] [.inl s0] w (some (.inl r.1)) r.2 := by
  unfold Mo_hand_18 at h
  obtain rfl := Option.some.inj h
  exact rn_retI i207_18 mr207
def Mo_hand_0 (a0 : Nat) (x1 : Int) (w : Wd) : Option (Int × Wd) :=
  (Mo_isLetterAt a0 x1 w).bind fun r2 =>
  if (r2.1 : Int) = 0 then
    Mo_hand_18 (-1) r2.2
  else
    (fgR r2.2 a0 12 49).bind fun v9 =>
    (rdI r2.2 v9 x1).bind fun v13 =>
    Mo_hand_18 v13 r2.2
theorem s_Mo_hand_0 {g : Gp} {l : Launch} {D : Nat} (hD : 2 ≤ D) (a0 : Nat) (x1 : Int) (w : Wd) (r : Int × Wd) (h : Mo_hand_0 a0 x1 w = some r) : Rn g l D 207 0 [(0, .inr (.inr a0)), (1, .inl x1)] [] w (some (.inl r.1)) r.2 := by
  obtain ⟨D, rfl⟩ : ∃ D1, D = D1 + 1 := ⟨D - 1, by omega⟩
  unfold Mo_hand_0 at h
  refine fr_aload_n i207_0 rfl ?_
  refine rn_iload_n i207_1 rfl ?_
  obtain ⟨r2, h2, h⟩ := Option.bind_eq_some_iff.mp h
  obtain ⟨g2, c2⟩ := S_Mo_isLetterAt a0 x1 w r2 h2
  refine fr_callV (a := a0) (As := [.inl x1]) (st := []) i207_2 (cq184 a0 x1) rfl (Nat.le_of_ble_eq_true rfl) g2 (c2 _ (by omega)) ?_
  show Rn _ _ _ _ _ _ [.inl r2.1] _ _ _
  by_cases c5 : (r2.1 : Int) = 0
  · rw [if_pos c5] at h
    refine rn_if_eq_t i207_5 c5 ?_
    refine rn_iconst i207_17 ?_
    exact rn_sub [] rfl (s_Mo_hand_18 hD (-1) r2.2 r h)
  · rw [if_neg c5] at h
    refine rn_if_eq_f i207_5 c5 ?_
    refine fr_aload_n i207_8 rfl ?_
    obtain ⟨v9, h9, h⟩ := Option.bind_eq_some_iff.mp h
    refine fr_gR (k := 49) i207_9 tf12_49 h9 ?_
    refine rn_iload_n i207_12 rfl ?_
    obtain ⟨v13, h13, h⟩ := Option.bind_eq_some_iff.mp h
    refine rn_iald i207_13 h13 ?_
    refine rn_goto i207_14 ?_
    exact rn_sub [] rfl (s_Mo_hand_18 hD v13 r2.2 r h)
/-- HandHeirsModel.hand(I)I -/
def Mo_hand (a0 : Nat) (x1 : Int) (w : Wd) : Option (Int × Wd) := gd 12 w a0 (Mo_hand_0 a0 x1 w)
theorem S_Mo_hand {g : Gp} {l : Launch} (a0 : Nat) (x1 : Int) (w : Wd) (r : Int × Wd) (h : Mo_hand a0 x1 w = some r) : (wsh w a0).1 = 12 ∧ ∀ D, 2 ≤ D → Rn g l D 207 0 [(0, .inr (.inr a0)), (1, .inl x1)] [] w (some (.inl r.1)) r.2 := by
  obtain ⟨hg, h⟩ := gd_some h
  exact ⟨hg, fun D hD => rn_sub [0, 1] rfl (s_Mo_hand_0 hD a0 x1 w r h)⟩
def Mo_shape_16 (w : Wd) : Option (Int × Wd) :=
  some ((-1), w)
theorem s_Mo_shape_16 {g : Gp} {l : Launch} {D : Nat} (hD : 3 ≤ D) (w : Wd) (r : Int × Wd) (h : Mo_shape_16 w = some r) : Rn g l D 208 16 [] [] w (some (.inl r.1)) r.2 := by
  unfold Mo_shape_16 at h
  refine rn_iconst i208_16 ?_
  obtain rfl := Option.some.inj h
  exact rn_retI i208_17 mr208
def Mo_shape_0 (a0 : Nat) (x1 : Int) (x2 : Int) (x3 : Int) (w : Wd) : Option (Int × Wd) :=
  (Mo_isHeir a0 x1 w).bind fun r2 =>
  if (r2.1 : Int) = 0 then
    Mo_shape_16 r2.2
  else
    (Mo_isLetterAt a0 x2 r2.2).bind fun r10 =>
    if (r10.1 : Int) = 0 then
      Mo_shape_16 r10.2
    else
      (Mo_copies a0 r10.2).bind fun r19 =>
      if (x3 : Int) = 0 then
        (Mo_shapeOf a0 x1 x2 r19).bind fun r51 =>
        some (r51.1, r51.2)
      else
        if (x3 : Int) = 1 then
          (Mo_writes a0 x1 x2 r19).bind fun r58 =>
          some (r58.1, r58.2)
        else
          if (x3 : Int) = 2 then
            (Mo_shapeOf a0 x1 x2 r19).bind fun r65 =>
            (fgR r65.2 a0 12 50).bind fun v69 =>
            (rdI r65.2 v69 x2).bind fun v73 =>
            (Mo_apart (r65.1) v73 r65.2).bind fun r74 =>
            some (r74.1, r74.2)
          else
            some ((-1), r19)
theorem s_Mo_shape_0 {g : Gp} {l : Launch} {D : Nat} (hD : 3 ≤ D) (a0 : Nat) (x1 : Int) (x2 : Int) (x3 : Int) (w : Wd) (r : Int × Wd) (h : Mo_shape_0 a0 x1 x2 x3 w = some r) : Rn g l D 208 0 [(0, .inr (.inr a0)), (1, .inl x1), (2, .inl x2), (3, .inl x3)] [] w (some (.inl r.1)) r.2 := by
  obtain ⟨D, rfl⟩ : ∃ D1, D = D1 + 1 := ⟨D - 1, by omega⟩
  unfold Mo_shape_0 at h
  refine fr_aload_n i208_0 rfl ?_
  refine rn_iload_n i208_1 rfl ?_
  obtain ⟨r2, h2, h⟩ := Option.bind_eq_some_iff.mp h
  obtain ⟨g2, c2⟩ := S_Mo_isHeir a0 x1 w r2 h2
  refine fr_callV (a := a0) (As := [.inl x1]) (st := []) i208_2 (cq185 a0 x1) rfl (Nat.le_of_ble_eq_true rfl) g2 (c2 _ (by omega)) ?_
  show Rn _ _ _ _ _ _ [.inl r2.1] _ _ _
  by_cases c5 : (r2.1 : Int) = 0
  · rw [if_pos c5] at h
    refine rn_if_eq_t i208_5 c5 ?_
    exact rn_sub [] rfl (s_Mo_shape_16 hD r2.2 r h)
  · rw [if_neg c5] at h
    refine rn_if_eq_f i208_5 c5 ?_
    refine fr_aload_n i208_8 rfl ?_
    refine rn_iload_n i208_9 rfl ?_
    obtain ⟨r10, h10, h⟩ := Option.bind_eq_some_iff.mp h
    obtain ⟨g10, c10⟩ := S_Mo_isLetterAt a0 x2 r2.2 r10 h10
    refine fr_callV (a := a0) (As := [.inl x2]) (st := []) i208_10 (cq184 a0 x2) rfl (Nat.le_of_ble_eq_true rfl) g10 (c10 _ (by omega)) ?_
    show Rn _ _ _ _ _ _ [.inl r10.1] _ _ _
    by_cases c13 : (r10.1 : Int) = 0
    · rw [if_pos c13] at h
      refine rn_if_ne_f i208_13 c13 ?_
      exact rn_sub [] rfl (s_Mo_shape_16 hD r10.2 r h)
    · rw [if_neg c13] at h
      refine rn_if_ne_t i208_13 c13 ?_
      refine fr_aload_n i208_18 rfl ?_
      obtain ⟨r19, h19, h⟩ := Option.bind_eq_some_iff.mp h
      obtain ⟨g19, c19⟩ := S_Mo_copies a0 r10.2 r19 h19
      refine fr_callV (a := a0) (As := []) (st := []) i208_19 (cq189 a0) rfl (Nat.le_of_ble_eq_true rfl) g19 (c19 _ (by omega)) ?_
      refine rn_iload_n i208_22 rfl ?_
      by_cases c23_0 : (x3 : Int) = 0
      · rw [if_pos c23_0] at h
        refine rn_tsw_in (tgt := 48) i208_23 0 (by omega) (by omega) rfl rfl ?_
        refine fr_aload_n i208_48 rfl ?_
        refine rn_iload_n i208_49 rfl ?_
        refine rn_iload_n i208_50 rfl ?_
        obtain ⟨r51, h51, h⟩ := Option.bind_eq_some_iff.mp h
        obtain ⟨g51, c51⟩ := S_Mo_shapeOf a0 x1 x2 r19 r51 h51
        refine fr_callV (a := a0) (As := [.inl x1, .inl x2]) (st := []) i208_51 (cq194 a0 x1 x2) rfl (Nat.le_of_ble_eq_true rfl) g51 (c51 _ (by omega)) ?_
        show Rn _ _ _ _ _ _ [.inl r51.1] _ _ _
        obtain rfl := Option.some.inj h
        exact rn_retI i208_54 mr208
      · rw [if_neg c23_0] at h
        by_cases c23_1 : (x3 : Int) = 1
        · rw [if_pos c23_1] at h
          refine rn_tsw_in (tgt := 55) i208_23 1 (by omega) (by omega) rfl rfl ?_
          refine fr_aload_n i208_55 rfl ?_
          refine rn_iload_n i208_56 rfl ?_
          refine rn_iload_n i208_57 rfl ?_
          obtain ⟨r58, h58, h⟩ := Option.bind_eq_some_iff.mp h
          obtain ⟨g58, c58⟩ := S_Mo_writes a0 x1 x2 r19 r58 h58
          refine fr_callV (a := a0) (As := [.inl x1, .inl x2]) (st := []) i208_58 (cq195 a0 x1 x2) rfl (Nat.le_of_ble_eq_true rfl) g58 (c58 _ (by omega)) ?_
          show Rn _ _ _ _ _ _ [.inl r58.1] _ _ _
          obtain rfl := Option.some.inj h
          exact rn_retI i208_61 mr208
        · rw [if_neg c23_1] at h
          by_cases c23_2 : (x3 : Int) = 2
          · rw [if_pos c23_2] at h
            refine rn_tsw_in (tgt := 62) i208_23 2 (by omega) (by omega) rfl rfl ?_
            refine fr_aload_n i208_62 rfl ?_
            refine rn_iload_n i208_63 rfl ?_
            refine rn_iload_n i208_64 rfl ?_
            obtain ⟨r65, h65, h⟩ := Option.bind_eq_some_iff.mp h
            obtain ⟨g65, c65⟩ := S_Mo_shapeOf a0 x1 x2 r19 r65 h65
            refine fr_callV (a := a0) (As := [.inl x1, .inl x2]) (st := []) i208_65 (cq194 a0 x1 x2) rfl (Nat.le_of_ble_eq_true rfl) g65 (c65 _ (by omega)) ?_
            show Rn _ _ _ _ _ _ [.inl r65.1] _ _ _
            refine fr_aload_n i208_68 rfl ?_
            obtain ⟨v69, h69, h⟩ := Option.bind_eq_some_iff.mp h
            refine fr_gR (k := 50) i208_69 tf12_50 h69 ?_
            refine rn_iload_n i208_72 rfl ?_
            obtain ⟨v73, h73, h⟩ := Option.bind_eq_some_iff.mp h
            refine rn_iald i208_73 h73 ?_
            obtain ⟨r74, h74, h⟩ := Option.bind_eq_some_iff.mp h
            refine fr_callS (nst := 0) (As := [.inl r65.1, .inl v73]) (st := []) i208_74 (cq193 (r65.1) v73) rfl (Nat.le_of_ble_eq_true rfl) (S_Mo_apart (r65.1) v73 r65.2 r74 h74 _ (by omega)) ?_
            show Rn _ _ _ _ _ _ [.inl r74.1] _ _ _
            obtain rfl := Option.some.inj h
            exact rn_retI i208_77 mr208
          · rw [if_neg c23_2] at h
            refine rn_tsw_out (tgt := 78) i208_23 (by omega) rfl ?_
            refine rn_iconst i208_78 ?_
            obtain rfl := Option.some.inj h
            exact rn_retI i208_79 mr208
/-- HandHeirsModel.shape(III)I -/
def Mo_shape (a0 : Nat) (x1 : Int) (x2 : Int) (x3 : Int) (w : Wd) : Option (Int × Wd) := gd 12 w a0 (Mo_shape_0 a0 x1 x2 x3 w)
theorem S_Mo_shape {g : Gp} {l : Launch} (a0 : Nat) (x1 : Int) (x2 : Int) (x3 : Int) (w : Wd) (r : Int × Wd) (h : Mo_shape a0 x1 x2 x3 w = some r) : (wsh w a0).1 = 12 ∧ ∀ D, 3 ≤ D → Rn g l D 208 0 [(0, .inr (.inr a0)), (1, .inl x1), (2, .inl x2), (3, .inl x3)] [] w (some (.inl r.1)) r.2 := by
  obtain ⟨hg, h⟩ := gd_some h
  exact ⟨hg, fun D hD => rn_sub [0, 1, 2, 3] rfl (s_Mo_shape_0 hD a0 x1 x2 x3 w r h)⟩
def Mo_heir_114 (s0 : Int) (w : Wd) : Option (Int × Wd) :=
  some (s0, w)
theorem s_Mo_heir_114 {g : Gp} {l : Launch} {D : Nat} (hD : 5 ≤ D) (s0 : Int) (w : Wd) (r : Int × Wd) (h : Mo_heir_114 s0 w = some r) : Rn g l D 209 114 [] [.inl s0] w (some (.inl r.1)) r.2 := by
  unfold Mo_heir_114 at h
  obtain rfl := Option.some.inj h
  exact rn_retI i209_114 mr209
def Mo_heir_0 (a0 : Nat) (x1 : Int) (x2 : Int) (w : Wd) : Option (Int × Wd) :=
  (Mo_isHeir a0 x1 w).bind fun r2 =>
  if (r2.1 : Int) = 0 then
    some ((-1), r2.2)
  else
    (Mo_copies a0 r2.2).bind fun r11 =>
    if (x2 : Int) = 0 then
      (fgR r11 a0 12 26).bind fun v49 =>
      (fgI r11 a0 12 18).bind fun v55 =>
      (rdI r11 v49 (w32 ((w32 (6 * v55)) + x1))).bind fun v61 =>
      some (v61, r11)
    else
      if (x2 : Int) = 1 then
        (fgR r11 a0 12 27).bind fun v64 =>
        (fgI r11 a0 12 18).bind fun v70 =>
        (rdI r11 v64 (w32 ((w32 (6 * v70)) + x1))).bind fun v76 =>
        some (v76, r11)
      else
        if (x2 : Int) = 2 then
          (Mo_unlikeAll a0 x1 r11).bind fun r80 =>
          some (r80.1, r80.2)
        else
          if (x2 : Int) = 3 then
            (fgR r11 a0 12 50).bind fun v85 =>
            (rdI r11 v85 (w32 (46 + x1))).bind fun v92 =>
            some (v92, r11)
          else
            if (x2 : Int) = 4 then
              (Mo_learns a0 x1 0 r11).bind fun r97 =>
              if (0 : Int) ≤ r97.1 then
                (Mo_learns a0 x1 0 r97.2).bind fun r111 =>
                Mo_heir_114 r111.1 r111.2
              else
                Mo_heir_114 (-2) r97.2
            else
              some ((-1), r11)
theorem s_Mo_heir_0 {g : Gp} {l : Launch} {D : Nat} (hD : 5 ≤ D) (a0 : Nat) (x1 : Int) (x2 : Int) (w : Wd) (r : Int × Wd) (h : Mo_heir_0 a0 x1 x2 w = some r) : Rn g l D 209 0 [(0, .inr (.inr a0)), (1, .inl x1), (2, .inl x2)] [] w (some (.inl r.1)) r.2 := by
  obtain ⟨D, rfl⟩ : ∃ D1, D = D1 + 1 := ⟨D - 1, by omega⟩
  unfold Mo_heir_0 at h
  refine fr_aload_n i209_0 rfl ?_
  refine rn_iload_n i209_1 rfl ?_
  obtain ⟨r2, h2, h⟩ := Option.bind_eq_some_iff.mp h
  obtain ⟨g2, c2⟩ := S_Mo_isHeir a0 x1 w r2 h2
  refine fr_callV (a := a0) (As := [.inl x1]) (st := []) i209_2 (cq185 a0 x1) rfl (Nat.le_of_ble_eq_true rfl) g2 (c2 _ (by omega)) ?_
  show Rn _ _ _ _ _ _ [.inl r2.1] _ _ _
  by_cases c5 : (r2.1 : Int) = 0
  · rw [if_pos c5] at h
    refine rn_if_ne_f i209_5 c5 ?_
    refine rn_iconst i209_8 ?_
    obtain rfl := Option.some.inj h
    exact rn_retI i209_9 mr209
  · rw [if_neg c5] at h
    refine rn_if_ne_t i209_5 c5 ?_
    refine fr_aload_n i209_10 rfl ?_
    obtain ⟨r11, h11, h⟩ := Option.bind_eq_some_iff.mp h
    obtain ⟨g11, c11⟩ := S_Mo_copies a0 r2.2 r11 h11
    refine fr_callV (a := a0) (As := []) (st := []) i209_11 (cq189 a0) rfl (Nat.le_of_ble_eq_true rfl) g11 (c11 _ (by omega)) ?_
    refine rn_iload_n i209_14 rfl ?_
    by_cases c15_0 : (x2 : Int) = 0
    · rw [if_pos c15_0] at h
      refine rn_tsw_in (tgt := 48) i209_15 0 (by omega) (by omega) rfl rfl ?_
      refine fr_aload_n i209_48 rfl ?_
      obtain ⟨v49, h49, h⟩ := Option.bind_eq_some_iff.mp h
      refine fr_gR (k := 26) i209_49 tf12_26 h49 ?_
      refine rn_bipush i209_52 ?_
      refine fr_aload_n i209_54 rfl ?_
      obtain ⟨v55, h55, h⟩ := Option.bind_eq_some_iff.mp h
      refine fr_gI (k := 18) i209_55 tf12_18 h55 ?_
      refine rn_imul i209_58 ?_
      refine rn_iload_n i209_59 rfl ?_
      refine rn_iadd i209_60 ?_
      obtain ⟨v61, h61, h⟩ := Option.bind_eq_some_iff.mp h
      refine rn_iald i209_61 h61 ?_
      obtain rfl := Option.some.inj h
      exact rn_retI i209_62 mr209
    · rw [if_neg c15_0] at h
      by_cases c15_1 : (x2 : Int) = 1
      · rw [if_pos c15_1] at h
        refine rn_tsw_in (tgt := 63) i209_15 1 (by omega) (by omega) rfl rfl ?_
        refine fr_aload_n i209_63 rfl ?_
        obtain ⟨v64, h64, h⟩ := Option.bind_eq_some_iff.mp h
        refine fr_gR (k := 27) i209_64 tf12_27 h64 ?_
        refine rn_bipush i209_67 ?_
        refine fr_aload_n i209_69 rfl ?_
        obtain ⟨v70, h70, h⟩ := Option.bind_eq_some_iff.mp h
        refine fr_gI (k := 18) i209_70 tf12_18 h70 ?_
        refine rn_imul i209_73 ?_
        refine rn_iload_n i209_74 rfl ?_
        refine rn_iadd i209_75 ?_
        obtain ⟨v76, h76, h⟩ := Option.bind_eq_some_iff.mp h
        refine rn_iald i209_76 h76 ?_
        obtain rfl := Option.some.inj h
        exact rn_retI i209_77 mr209
      · rw [if_neg c15_1] at h
        by_cases c15_2 : (x2 : Int) = 2
        · rw [if_pos c15_2] at h
          refine rn_tsw_in (tgt := 78) i209_15 2 (by omega) (by omega) rfl rfl ?_
          refine fr_aload_n i209_78 rfl ?_
          refine rn_iload_n i209_79 rfl ?_
          obtain ⟨r80, h80, h⟩ := Option.bind_eq_some_iff.mp h
          obtain ⟨g80, c80⟩ := S_Mo_unlikeAll a0 x1 r11 r80 h80
          refine fr_callV (a := a0) (As := [.inl x1]) (st := []) i209_80 (cq200 a0 x1) rfl (Nat.le_of_ble_eq_true rfl) g80 (c80 _ (by omega)) ?_
          show Rn _ _ _ _ _ _ [.inl r80.1] _ _ _
          obtain rfl := Option.some.inj h
          exact rn_retI i209_83 mr209
        · rw [if_neg c15_2] at h
          by_cases c15_3 : (x2 : Int) = 3
          · rw [if_pos c15_3] at h
            refine rn_tsw_in (tgt := 84) i209_15 3 (by omega) (by omega) rfl rfl ?_
            refine fr_aload_n i209_84 rfl ?_
            obtain ⟨v85, h85, h⟩ := Option.bind_eq_some_iff.mp h
            refine fr_gR (k := 50) i209_85 tf12_50 h85 ?_
            refine rn_bipush i209_88 ?_
            refine rn_iload_n i209_90 rfl ?_
            refine rn_iadd i209_91 ?_
            obtain ⟨v92, h92, h⟩ := Option.bind_eq_some_iff.mp h
            refine rn_iald i209_92 h92 ?_
            obtain rfl := Option.some.inj h
            exact rn_retI i209_93 mr209
          · rw [if_neg c15_3] at h
            by_cases c15_4 : (x2 : Int) = 4
            · rw [if_pos c15_4] at h
              refine rn_tsw_in (tgt := 94) i209_15 4 (by omega) (by omega) rfl rfl ?_
              refine fr_aload_n i209_94 rfl ?_
              refine rn_iload_n i209_95 rfl ?_
              refine rn_iconst i209_96 ?_
              obtain ⟨r97, h97, h⟩ := Option.bind_eq_some_iff.mp h
              obtain ⟨g97, c97⟩ := S_Mo_learns a0 x1 0 r11 r97 h97
              refine fr_callV (a := a0) (As := [.inl x1, .inl 0]) (st := []) i209_97 (cq203 a0 x1 0) rfl (Nat.le_of_ble_eq_true rfl) g97 (c97 _ (by omega)) ?_
              show Rn _ _ _ _ _ _ [.inl r97.1] _ _ _
              by_cases c100 : (0 : Int) ≤ r97.1
              · rw [if_pos c100] at h
                refine rn_if_ge_t i209_100 c100 ?_
                refine fr_aload_n i209_108 rfl ?_
                refine rn_iload_n i209_109 rfl ?_
                refine rn_iconst i209_110 ?_
                obtain ⟨r111, h111, h⟩ := Option.bind_eq_some_iff.mp h
                obtain ⟨g111, c111⟩ := S_Mo_learns a0 x1 0 r97.2 r111 h111
                refine fr_callV (a := a0) (As := [.inl x1, .inl 0]) (st := []) i209_111 (cq203 a0 x1 0) rfl (Nat.le_of_ble_eq_true rfl) g111 (c111 _ (by omega)) ?_
                show Rn _ _ _ _ _ _ [.inl r111.1] _ _ _
                exact rn_sub [] rfl (s_Mo_heir_114 hD r111.1 r111.2 r h)
              · rw [if_neg c100] at h
                refine rn_if_ge_f i209_100 c100 ?_
                refine rn_bipush i209_103 ?_
                refine rn_goto i209_105 ?_
                exact rn_sub [] rfl (s_Mo_heir_114 hD (-2) r97.2 r h)
            · rw [if_neg c15_4] at h
              refine rn_tsw_out (tgt := 115) i209_15 (by omega) rfl ?_
              refine rn_iconst i209_115 ?_
              obtain rfl := Option.some.inj h
              exact rn_retI i209_116 mr209
/-- HandHeirsModel.heir(II)I -/
def Mo_heir (a0 : Nat) (x1 : Int) (x2 : Int) (w : Wd) : Option (Int × Wd) := gd 12 w a0 (Mo_heir_0 a0 x1 x2 w)
theorem S_Mo_heir {g : Gp} {l : Launch} (a0 : Nat) (x1 : Int) (x2 : Int) (w : Wd) (r : Int × Wd) (h : Mo_heir a0 x1 x2 w = some r) : (wsh w a0).1 = 12 ∧ ∀ D, 5 ≤ D → Rn g l D 209 0 [(0, .inr (.inr a0)), (1, .inl x1), (2, .inl x2)] [] w (some (.inl r.1)) r.2 := by
  obtain ⟨hg, h⟩ := gd_some h
  exact ⟨hg, fun D hD => rn_sub [0, 1, 2] rfl (s_Mo_heir_0 hD a0 x1 x2 w r h)⟩
def Mo_unlike_16 (w : Wd) : Option (Int × Wd) :=
  some ((-1), w)
theorem s_Mo_unlike_16 {g : Gp} {l : Launch} {D : Nat} (hD : 4 ≤ D) (w : Wd) (r : Int × Wd) (h : Mo_unlike_16 w = some r) : Rn g l D 210 16 [] [] w (some (.inl r.1)) r.2 := by
  unfold Mo_unlike_16 at h
  refine rn_iconst i210_16 ?_
  obtain rfl := Option.some.inj h
  exact rn_retI i210_17 mr210
def Mo_unlike_0 (a0 : Nat) (x1 : Int) (x2 : Int) (w : Wd) : Option (Int × Wd) :=
  (Mo_isHeir a0 x1 w).bind fun r2 =>
  if (r2.1 : Int) = 0 then
    Mo_unlike_16 r2.2
  else
    (Mo_isMaster a0 x2 r2.2).bind fun r10 =>
    if (r10.1 : Int) = 0 then
      Mo_unlike_16 r10.2
    else
      (Mo_copies a0 r10.2).bind fun r19 =>
      (Mo_unlikeTo a0 x1 x2 r19).bind fun r25 =>
      some (r25.1, r25.2)
theorem s_Mo_unlike_0 {g : Gp} {l : Launch} {D : Nat} (hD : 4 ≤ D) (a0 : Nat) (x1 : Int) (x2 : Int) (w : Wd) (r : Int × Wd) (h : Mo_unlike_0 a0 x1 x2 w = some r) : Rn g l D 210 0 [(0, .inr (.inr a0)), (1, .inl x1), (2, .inl x2)] [] w (some (.inl r.1)) r.2 := by
  obtain ⟨D, rfl⟩ : ∃ D1, D = D1 + 1 := ⟨D - 1, by omega⟩
  unfold Mo_unlike_0 at h
  refine fr_aload_n i210_0 rfl ?_
  refine rn_iload_n i210_1 rfl ?_
  obtain ⟨r2, h2, h⟩ := Option.bind_eq_some_iff.mp h
  obtain ⟨g2, c2⟩ := S_Mo_isHeir a0 x1 w r2 h2
  refine fr_callV (a := a0) (As := [.inl x1]) (st := []) i210_2 (cq185 a0 x1) rfl (Nat.le_of_ble_eq_true rfl) g2 (c2 _ (by omega)) ?_
  show Rn _ _ _ _ _ _ [.inl r2.1] _ _ _
  by_cases c5 : (r2.1 : Int) = 0
  · rw [if_pos c5] at h
    refine rn_if_eq_t i210_5 c5 ?_
    exact rn_sub [] rfl (s_Mo_unlike_16 hD r2.2 r h)
  · rw [if_neg c5] at h
    refine rn_if_eq_f i210_5 c5 ?_
    refine fr_aload_n i210_8 rfl ?_
    refine rn_iload_n i210_9 rfl ?_
    obtain ⟨r10, h10, h⟩ := Option.bind_eq_some_iff.mp h
    obtain ⟨g10, c10⟩ := S_Mo_isMaster a0 x2 r2.2 r10 h10
    refine fr_callV (a := a0) (As := [.inl x2]) (st := []) i210_10 (cq186 a0 x2) rfl (Nat.le_of_ble_eq_true rfl) g10 (c10 _ (by omega)) ?_
    show Rn _ _ _ _ _ _ [.inl r10.1] _ _ _
    by_cases c13 : (r10.1 : Int) = 0
    · rw [if_pos c13] at h
      refine rn_if_ne_f i210_13 c13 ?_
      exact rn_sub [] rfl (s_Mo_unlike_16 hD r10.2 r h)
    · rw [if_neg c13] at h
      refine rn_if_ne_t i210_13 c13 ?_
      refine fr_aload_n i210_18 rfl ?_
      obtain ⟨r19, h19, h⟩ := Option.bind_eq_some_iff.mp h
      obtain ⟨g19, c19⟩ := S_Mo_copies a0 r10.2 r19 h19
      refine fr_callV (a := a0) (As := []) (st := []) i210_19 (cq189 a0) rfl (Nat.le_of_ble_eq_true rfl) g19 (c19 _ (by omega)) ?_
      refine fr_aload_n i210_22 rfl ?_
      refine rn_iload_n i210_23 rfl ?_
      refine rn_iload_n i210_24 rfl ?_
      obtain ⟨r25, h25, h⟩ := Option.bind_eq_some_iff.mp h
      obtain ⟨g25, c25⟩ := S_Mo_unlikeTo a0 x1 x2 r19 r25 h25
      refine fr_callV (a := a0) (As := [.inl x1, .inl x2]) (st := []) i210_25 (cq199 a0 x1 x2) rfl (Nat.le_of_ble_eq_true rfl) g25 (c25 _ (by omega)) ?_
      show Rn _ _ _ _ _ _ [.inl r25.1] _ _ _
      obtain rfl := Option.some.inj h
      exact rn_retI i210_28 mr210
/-- HandHeirsModel.unlike(II)I -/
def Mo_unlike (a0 : Nat) (x1 : Int) (x2 : Int) (w : Wd) : Option (Int × Wd) := gd 12 w a0 (Mo_unlike_0 a0 x1 x2 w)
theorem S_Mo_unlike {g : Gp} {l : Launch} (a0 : Nat) (x1 : Int) (x2 : Int) (w : Wd) (r : Int × Wd) (h : Mo_unlike a0 x1 x2 w = some r) : (wsh w a0).1 = 12 ∧ ∀ D, 4 ≤ D → Rn g l D 210 0 [(0, .inr (.inr a0)), (1, .inl x1), (2, .inl x2)] [] w (some (.inl r.1)) r.2 := by
  obtain ⟨hg, h⟩ := gd_some h
  exact ⟨hg, fun D hD => rn_sub [0, 1, 2] rfl (s_Mo_unlike_0 hD a0 x1 x2 w r h)⟩
def Mo_orNobody_10 (s0 : Int) (w : Wd) : Option (Int × Wd) :=
  some (s0, w)
theorem s_Mo_orNobody_10 {g : Gp} {l : Launch} {D : Nat} (hD : 0 ≤ D) (s0 : Int) (w : Wd) (r : Int × Wd) (h : Mo_orNobody_10 s0 w = some r) : Rn g l D 211 10 [] [.inl s0] w (some (.inl r.1)) r.2 := by
  unfold Mo_orNobody_10 at h
  obtain rfl := Option.some.inj h
  exact rn_retI i211_10 mr211
def Mo_orNobody_0 (x0 : Int) (w : Wd) : Option (Int × Wd) :=
  if (0 : Int) ≤ x0 then
    Mo_orNobody_10 x0 w
  else
    Mo_orNobody_10 (-2) w
theorem s_Mo_orNobody_0 {g : Gp} {l : Launch} {D : Nat} (hD : 0 ≤ D) (x0 : Int) (w : Wd) (r : Int × Wd) (h : Mo_orNobody_0 x0 w = some r) : Rn g l D 211 0 [(0, .inl x0)] [] w (some (.inl r.1)) r.2 := by
  unfold Mo_orNobody_0 at h
  refine rn_iload_n i211_0 rfl ?_
  by_cases c1 : (0 : Int) ≤ x0
  · rw [if_pos c1] at h
    refine rn_if_ge_t i211_1 c1 ?_
    refine rn_iload_n i211_9 rfl ?_
    exact rn_sub [] rfl (s_Mo_orNobody_10 hD x0 w r h)
  · rw [if_neg c1] at h
    refine rn_if_ge_f i211_1 c1 ?_
    refine rn_bipush i211_4 ?_
    refine rn_goto i211_6 ?_
    exact rn_sub [] rfl (s_Mo_orNobody_10 hD (-2) w r h)
/-- HandHeirsModel.orNobody(I)I -/
def Mo_orNobody (x0 : Int) (w : Wd) : Option (Int × Wd) := Mo_orNobody_0 x0 w
theorem S_Mo_orNobody {g : Gp} {l : Launch} (x0 : Int) (w : Wd) (r : Int × Wd) (h : Mo_orNobody x0 w = some r) : ∀ D, 0 ≤ D → Rn g l D 211 0 [(0, .inl x0)] [] w (some (.inl r.1)) r.2 := fun D hD => rn_sub [0] rfl (s_Mo_orNobody_0 hD x0 w r h)
def Mo_vote_0 (a0 : Nat) (x1 : Int) (w : Wd) : Option (Int × Wd) :=
  (Mo_isMaster a0 x1 w).bind fun r2 =>
  if (r2.1 : Int) = 0 then
    some ((-1), r2.2)
  else
    (Mo_copies a0 r2.2).bind fun r11 =>
    (Mo_voteOf a0 x1 r11).bind fun r16 =>
    (Mo_orNobody (r16.1) r16.2).bind fun r19 =>
    some (r19.1, r19.2)
theorem s_Mo_vote_0 {g : Gp} {l : Launch} {D : Nat} (hD : 5 ≤ D) (a0 : Nat) (x1 : Int) (w : Wd) (r : Int × Wd) (h : Mo_vote_0 a0 x1 w = some r) : Rn g l D 212 0 [(0, .inr (.inr a0)), (1, .inl x1)] [] w (some (.inl r.1)) r.2 := by
  obtain ⟨D, rfl⟩ : ∃ D1, D = D1 + 1 := ⟨D - 1, by omega⟩
  unfold Mo_vote_0 at h
  refine fr_aload_n i212_0 rfl ?_
  refine rn_iload_n i212_1 rfl ?_
  obtain ⟨r2, h2, h⟩ := Option.bind_eq_some_iff.mp h
  obtain ⟨g2, c2⟩ := S_Mo_isMaster a0 x1 w r2 h2
  refine fr_callV (a := a0) (As := [.inl x1]) (st := []) i212_2 (cq186 a0 x1) rfl (Nat.le_of_ble_eq_true rfl) g2 (c2 _ (by omega)) ?_
  show Rn _ _ _ _ _ _ [.inl r2.1] _ _ _
  by_cases c5 : (r2.1 : Int) = 0
  · rw [if_pos c5] at h
    refine rn_if_ne_f i212_5 c5 ?_
    refine rn_iconst i212_8 ?_
    obtain rfl := Option.some.inj h
    exact rn_retI i212_9 mr212
  · rw [if_neg c5] at h
    refine rn_if_ne_t i212_5 c5 ?_
    refine fr_aload_n i212_10 rfl ?_
    obtain ⟨r11, h11, h⟩ := Option.bind_eq_some_iff.mp h
    obtain ⟨g11, c11⟩ := S_Mo_copies a0 r2.2 r11 h11
    refine fr_callV (a := a0) (As := []) (st := []) i212_11 (cq189 a0) rfl (Nat.le_of_ble_eq_true rfl) g11 (c11 _ (by omega)) ?_
    refine fr_aload_n i212_14 rfl ?_
    refine rn_iload_n i212_15 rfl ?_
    obtain ⟨r16, h16, h⟩ := Option.bind_eq_some_iff.mp h
    obtain ⟨g16, c16⟩ := S_Mo_voteOf a0 x1 r11 r16 h16
    refine fr_callV (a := a0) (As := [.inl x1]) (st := []) i212_16 (cq201 a0 x1) rfl (Nat.le_of_ble_eq_true rfl) g16 (c16 _ (by omega)) ?_
    show Rn _ _ _ _ _ _ [.inl r16.1] _ _ _
    obtain ⟨r19, h19, h⟩ := Option.bind_eq_some_iff.mp h
    refine fr_callS (nst := 0) (As := [.inl r16.1]) (st := []) i212_19 (cq211 (r16.1)) rfl (Nat.le_of_ble_eq_true rfl) (S_Mo_orNobody (r16.1) r16.2 r19 h19 _ (by omega)) ?_
    show Rn _ _ _ _ _ _ [.inl r19.1] _ _ _
    obtain rfl := Option.some.inj h
    exact rn_retI i212_22 mr212
/-- HandHeirsModel.vote(I)I -/
def Mo_vote (a0 : Nat) (x1 : Int) (w : Wd) : Option (Int × Wd) := gd 12 w a0 (Mo_vote_0 a0 x1 w)
theorem S_Mo_vote {g : Gp} {l : Launch} (a0 : Nat) (x1 : Int) (w : Wd) (r : Int × Wd) (h : Mo_vote a0 x1 w = some r) : (wsh w a0).1 = 12 ∧ ∀ D, 5 ≤ D → Rn g l D 212 0 [(0, .inr (.inr a0)), (1, .inl x1)] [] w (some (.inl r.1)) r.2 := by
  obtain ⟨hg, h⟩ := gd_some h
  exact ⟨hg, fun D hD => rn_sub [0, 1] rfl (s_Mo_vote_0 hD a0 x1 w r h)⟩
def Mo_judge_0 (a0 : Nat) (w : Wd) : Option (Int × Wd) :=
  (Mo_copies a0 w).bind fun r1 =>
  (Mo_judged a0 r1).bind fun r5 =>
  (Mo_orNobody (r5.1) r5.2).bind fun r8 =>
  some (r8.1, r8.2)
theorem s_Mo_judge_0 {g : Gp} {l : Launch} {D : Nat} (hD : 6 ≤ D) (a0 : Nat) (w : Wd) (r : Int × Wd) (h : Mo_judge_0 a0 w = some r) : Rn g l D 213 0 [(0, .inr (.inr a0))] [] w (some (.inl r.1)) r.2 := by
  obtain ⟨D, rfl⟩ : ∃ D1, D = D1 + 1 := ⟨D - 1, by omega⟩
  unfold Mo_judge_0 at h
  refine fr_aload_n i213_0 rfl ?_
  obtain ⟨r1, h1, h⟩ := Option.bind_eq_some_iff.mp h
  obtain ⟨g1, c1⟩ := S_Mo_copies a0 w r1 h1
  refine fr_callV (a := a0) (As := []) (st := []) i213_1 (cq189 a0) rfl (Nat.le_of_ble_eq_true rfl) g1 (c1 _ (by omega)) ?_
  refine fr_aload_n i213_4 rfl ?_
  obtain ⟨r5, h5, h⟩ := Option.bind_eq_some_iff.mp h
  obtain ⟨g5, c5⟩ := S_Mo_judged a0 r1 r5 h5
  refine fr_callV (a := a0) (As := []) (st := []) i213_5 (cq202 a0) rfl (Nat.le_of_ble_eq_true rfl) g5 (c5 _ (by omega)) ?_
  show Rn _ _ _ _ _ _ [.inl r5.1] _ _ _
  obtain ⟨r8, h8, h⟩ := Option.bind_eq_some_iff.mp h
  refine fr_callS (nst := 0) (As := [.inl r5.1]) (st := []) i213_8 (cq211 (r5.1)) rfl (Nat.le_of_ble_eq_true rfl) (S_Mo_orNobody (r5.1) r5.2 r8 h8 _ (by omega)) ?_
  show Rn _ _ _ _ _ _ [.inl r8.1] _ _ _
  obtain rfl := Option.some.inj h
  exact rn_retI i213_11 mr213
/-- HandHeirsModel.judge()I -/
def Mo_judge (a0 : Nat) (w : Wd) : Option (Int × Wd) := gd 12 w a0 (Mo_judge_0 a0 w)
theorem S_Mo_judge {g : Gp} {l : Launch} (a0 : Nat) (w : Wd) (r : Int × Wd) (h : Mo_judge a0 w = some r) : (wsh w a0).1 = 12 ∧ ∀ D, 6 ≤ D → Rn g l D 213 0 [(0, .inr (.inr a0))] [] w (some (.inl r.1)) r.2 := by
  obtain ⟨hg, h⟩ := gd_some h
  exact ⟨hg, fun D hD => rn_sub [0] rfl (s_Mo_judge_0 hD a0 w r h)⟩
def Mo_keeps_98 : Nat → Nat → Int → Wd → Option (Wd)
  | 0, _, _, _ => none
  | n + 1, a0, x1, w =>
    if (2860 : Int) ≤ x1 then
      some w
    else
      (fgR w a0 12 49).bind fun v106 =>
      (fgR w a0 12 50).bind fun v111 =>
      (rdI w v111 x1).bind fun v115 =>
      (wrI w v106 x1 v115).bind fun w116 =>
      Mo_keeps_98 n a0 (w32 (x1 + 1)) w116
theorem s_Mo_keeps_98 {g : Gp} {l : Launch} {D : Nat} (hD : 0 ≤ D) : ∀ (n : Nat) (a0 : Nat) (x1 : Int) (w : Wd) (r : Wd), Mo_keeps_98 n a0 x1 w = some r → Rn g l D 214 98 [(0, .inr (.inr a0)), (1, .inl x1)] [] w none r := by
  intro n
  induction n with
  | zero => intro a0 x1 w r h; cases (show (none : Option (Wd)) = some r from h)
  | succ n ih =>
    intro a0 x1 w r h
    unfold Mo_keeps_98 at h
    refine rn_iload_n i214_98 rfl ?_
    refine rn_sipush i214_99 ?_
    by_cases c102 : (2860 : Int) ≤ x1
    · rw [if_pos c102] at h
      refine rn_icmp_ge_t i214_102 c102 ?_
      obtain rfl := Option.some.inj h
      exact rn_ret i214_123 mr214
    · rw [if_neg c102] at h
      refine rn_icmp_ge_f i214_102 c102 ?_
      refine fr_aload_n i214_105 rfl ?_
      obtain ⟨v106, h106, h⟩ := Option.bind_eq_some_iff.mp h
      refine fr_gR (k := 49) i214_106 tf12_49 h106 ?_
      refine rn_iload_n i214_109 rfl ?_
      refine fr_aload_n i214_110 rfl ?_
      obtain ⟨v111, h111, h⟩ := Option.bind_eq_some_iff.mp h
      refine fr_gR (k := 50) i214_111 tf12_50 h111 ?_
      refine rn_iload_n i214_114 rfl ?_
      obtain ⟨v115, h115, h⟩ := Option.bind_eq_some_iff.mp h
      refine rn_iald i214_115 h115 ?_
      obtain ⟨w116, h116, h⟩ := Option.bind_eq_some_iff.mp h
      refine rn_iast i214_116 h116 ?_
      refine rn_iinc (ls1 := [(1, .inl (w32 (x1 + 1))), (0, .inr (.inr a0))]) i214_117 rfl rfl ?_
      refine rn_goto i214_120 ?_
      exact rn_sub [1, 0] rfl (ih a0 (w32 (x1 + 1)) w116 r h)
def Mo_keeps_86 (a0 : Nat) (w : Wd) : Option (Wd) :=
  (fgI w a0 12 58).bind fun v88 =>
  (fpI w a0 12 58 (w32 (v88 + 1))).bind fun w93 =>
  Mo_keeps_98 FU a0 0 w93
theorem s_Mo_keeps_86 {g : Gp} {l : Launch} {D : Nat} (hD : 0 ≤ D) (a0 : Nat) (w : Wd) (r : Wd) (h : Mo_keeps_86 a0 w = some r) : Rn g l D 214 86 [(0, .inr (.inr a0))] [] w none r := by
  unfold Mo_keeps_86 at h
  refine fr_aload_n i214_86 rfl ?_
  refine rn_dup i214_87 rfl ?_
  obtain ⟨v88, h88, h⟩ := Option.bind_eq_some_iff.mp h
  refine fr_gI (k := 58) i214_88 tf12_58 h88 ?_
  refine rn_iconst i214_91 ?_
  refine rn_iadd i214_92 ?_
  obtain ⟨w93, h93, h⟩ := Option.bind_eq_some_iff.mp h
  refine fr_pI (k := 58) i214_93 (pf12_58 214) h93 ?_
  refine rn_iconst i214_96 ?_
  refine rn_istore_n (ls1 := [(1, .inl 0), (0, .inr (.inr a0))]) i214_97 rfl ?_
  exact rn_sub [1, 0] rfl (s_Mo_keeps_98 hD FU a0 0 w93 r h)
def Mo_keeps_52 : Nat → Nat → Int → Wd → Option (Wd)
  | 0, _, _, _ => none
  | n + 1, a0, x1, w =>
    if (2860 : Int) ≤ x1 then
      Mo_keeps_86 a0 w
    else
      (fgR w a0 12 59).bind fun v60 =>
      (fgI w a0 12 58).bind fun v67 =>
      (fgR w a0 12 49).bind fun v74 =>
      (rdI w v74 x1).bind fun v78 =>
      (wrI w v60 (w32 ((w32 (2860 * v67)) + x1)) v78).bind fun w79 =>
      Mo_keeps_52 n a0 (w32 (x1 + 1)) w79
theorem s_Mo_keeps_52 {g : Gp} {l : Launch} {D : Nat} (hD : 0 ≤ D) : ∀ (n : Nat) (a0 : Nat) (x1 : Int) (w : Wd) (r : Wd), Mo_keeps_52 n a0 x1 w = some r → Rn g l D 214 52 [(0, .inr (.inr a0)), (1, .inl x1)] [] w none r := by
  intro n
  induction n with
  | zero => intro a0 x1 w r h; cases (show (none : Option (Wd)) = some r from h)
  | succ n ih =>
    intro a0 x1 w r h
    unfold Mo_keeps_52 at h
    refine rn_iload_n i214_52 rfl ?_
    refine rn_sipush i214_53 ?_
    by_cases c56 : (2860 : Int) ≤ x1
    · rw [if_pos c56] at h
      refine rn_icmp_ge_t i214_56 c56 ?_
      exact rn_sub [0] rfl (s_Mo_keeps_86 hD a0 w r h)
    · rw [if_neg c56] at h
      refine rn_icmp_ge_f i214_56 c56 ?_
      refine fr_aload_n i214_59 rfl ?_
      obtain ⟨v60, h60, h⟩ := Option.bind_eq_some_iff.mp h
      refine fr_gR (k := 59) i214_60 tf12_59 h60 ?_
      refine rn_sipush i214_63 ?_
      refine fr_aload_n i214_66 rfl ?_
      obtain ⟨v67, h67, h⟩ := Option.bind_eq_some_iff.mp h
      refine fr_gI (k := 58) i214_67 tf12_58 h67 ?_
      refine rn_imul i214_70 ?_
      refine rn_iload_n i214_71 rfl ?_
      refine rn_iadd i214_72 ?_
      refine fr_aload_n i214_73 rfl ?_
      obtain ⟨v74, h74, h⟩ := Option.bind_eq_some_iff.mp h
      refine fr_gR (k := 49) i214_74 tf12_49 h74 ?_
      refine rn_iload_n i214_77 rfl ?_
      obtain ⟨v78, h78, h⟩ := Option.bind_eq_some_iff.mp h
      refine rn_iald i214_78 h78 ?_
      obtain ⟨w79, h79, h⟩ := Option.bind_eq_some_iff.mp h
      refine rn_iast i214_79 h79 ?_
      refine rn_iinc (ls1 := [(1, .inl (w32 (x1 + 1))), (0, .inr (.inr a0))]) i214_80 rfl rfl ?_
      refine rn_goto i214_83 ?_
      exact rn_sub [1, 0] rfl (ih a0 (w32 (x1 + 1)) w79 r h)
def Mo_keeps_50 (a0 : Nat) (w : Wd) : Option (Wd) :=
  Mo_keeps_52 FU a0 0 w
theorem s_Mo_keeps_50 {g : Gp} {l : Launch} {D : Nat} (hD : 0 ≤ D) (a0 : Nat) (w : Wd) (r : Wd) (h : Mo_keeps_50 a0 w = some r) : Rn g l D 214 50 [(0, .inr (.inr a0))] [] w none r := by
  unfold Mo_keeps_50 at h
  refine rn_iconst i214_50 ?_
  refine rn_istore_n (ls1 := [(1, .inl 0), (0, .inr (.inr a0))]) i214_51 rfl ?_
  exact rn_sub [1, 0] rfl (s_Mo_keeps_52 hD FU a0 0 w r h)
def Mo_keeps_40 (a0 : Nat) (w : Wd) : Option (Wd) :=
  (fgI w a0 12 58).bind fun v42 =>
  (fpI w a0 12 58 (w32 (v42 - 1))).bind fun w47 =>
  Mo_keeps_50 a0 w47
theorem s_Mo_keeps_40 {g : Gp} {l : Launch} {D : Nat} (hD : 0 ≤ D) (a0 : Nat) (w : Wd) (r : Wd) (h : Mo_keeps_40 a0 w = some r) : Rn g l D 214 40 [(0, .inr (.inr a0))] [] w none r := by
  unfold Mo_keeps_40 at h
  refine fr_aload_n i214_40 rfl ?_
  refine rn_dup i214_41 rfl ?_
  obtain ⟨v42, h42, h⟩ := Option.bind_eq_some_iff.mp h
  refine fr_gI (k := 58) i214_42 tf12_58 h42 ?_
  refine rn_iconst i214_45 ?_
  refine rn_isub i214_46 ?_
  obtain ⟨w47, h47, h⟩ := Option.bind_eq_some_iff.mp h
  refine fr_pI (k := 58) i214_47 (pf12_58 214) h47 ?_
  exact rn_sub [0] rfl (s_Mo_keeps_50 hD a0 w47 r h)
def Mo_keeps_11 : Nat → Nat → Int → Wd → Option (Wd)
  | 0, _, _, _ => none
  | n + 1, a0, x1, w =>
    if (82940 : Int) ≤ x1 then
      Mo_keeps_40 a0 w
    else
      (fgR w a0 12 59).bind fun v19 =>
      (fgR w a0 12 59).bind fun v24 =>
      (rdI w v24 (w32 (x1 + 2860))).bind fun v32 =>
      (wrI w v19 x1 v32).bind fun w33 =>
      Mo_keeps_11 n a0 (w32 (x1 + 1)) w33
theorem s_Mo_keeps_11 {g : Gp} {l : Launch} {D : Nat} (hD : 0 ≤ D) : ∀ (n : Nat) (a0 : Nat) (x1 : Int) (w : Wd) (r : Wd), Mo_keeps_11 n a0 x1 w = some r → Rn g l D 214 11 [(0, .inr (.inr a0)), (1, .inl x1)] [] w none r := by
  intro n
  induction n with
  | zero => intro a0 x1 w r h; cases (show (none : Option (Wd)) = some r from h)
  | succ n ih =>
    intro a0 x1 w r h
    unfold Mo_keeps_11 at h
    refine rn_iload_n i214_11 rfl ?_
    refine rn_ldcw i214_12 lw214_12 ⟨by decide, by decide⟩ ?_
    by_cases c15 : (82940 : Int) ≤ x1
    · rw [if_pos c15] at h
      refine rn_icmp_ge_t i214_15 c15 ?_
      exact rn_sub [0] rfl (s_Mo_keeps_40 hD a0 w r h)
    · rw [if_neg c15] at h
      refine rn_icmp_ge_f i214_15 c15 ?_
      refine fr_aload_n i214_18 rfl ?_
      obtain ⟨v19, h19, h⟩ := Option.bind_eq_some_iff.mp h
      refine fr_gR (k := 59) i214_19 tf12_59 h19 ?_
      refine rn_iload_n i214_22 rfl ?_
      refine fr_aload_n i214_23 rfl ?_
      obtain ⟨v24, h24, h⟩ := Option.bind_eq_some_iff.mp h
      refine fr_gR (k := 59) i214_24 tf12_59 h24 ?_
      refine rn_iload_n i214_27 rfl ?_
      refine rn_sipush i214_28 ?_
      refine rn_iadd i214_31 ?_
      obtain ⟨v32, h32, h⟩ := Option.bind_eq_some_iff.mp h
      refine rn_iald i214_32 h32 ?_
      obtain ⟨w33, h33, h⟩ := Option.bind_eq_some_iff.mp h
      refine rn_iast i214_33 h33 ?_
      refine rn_iinc (ls1 := [(1, .inl (w32 (x1 + 1))), (0, .inr (.inr a0))]) i214_34 rfl rfl ?_
      refine rn_goto i214_37 ?_
      exact rn_sub [1, 0] rfl (ih a0 (w32 (x1 + 1)) w33 r h)
def Mo_keeps_0 (a0 : Nat) (w : Wd) : Option (Wd) :=
  (fgI w a0 12 58).bind fun v1 =>
  if (v1 : Int) = 30 then
    Mo_keeps_11 FU a0 0 w
  else
    Mo_keeps_50 a0 w
theorem s_Mo_keeps_0 {g : Gp} {l : Launch} {D : Nat} (hD : 0 ≤ D) (a0 : Nat) (w : Wd) (r : Wd) (h : Mo_keeps_0 a0 w = some r) : Rn g l D 214 0 [(0, .inr (.inr a0))] [] w none r := by
  unfold Mo_keeps_0 at h
  refine fr_aload_n i214_0 rfl ?_
  obtain ⟨v1, h1, h⟩ := Option.bind_eq_some_iff.mp h
  refine fr_gI (k := 58) i214_1 tf12_58 h1 ?_
  refine rn_bipush i214_4 ?_
  by_cases c6 : (v1 : Int) = 30
  · rw [if_pos c6] at h
    refine rn_icmp_ne_f i214_6 c6 ?_
    refine rn_iconst i214_9 ?_
    refine rn_istore_n (ls1 := [(1, .inl 0), (0, .inr (.inr a0))]) i214_10 rfl ?_
    exact rn_sub [1, 0] rfl (s_Mo_keeps_11 hD FU a0 0 w r h)
  · rw [if_neg c6] at h
    refine rn_icmp_ne_t i214_6 c6 ?_
    exact rn_sub [0] rfl (s_Mo_keeps_50 hD a0 w r h)
/-- HandHeirsModel.keeps()V -/
def Mo_keeps (a0 : Nat) (w : Wd) : Option (Wd) := gd 12 w a0 (Mo_keeps_0 a0 w)
theorem S_Mo_keeps {g : Gp} {l : Launch} (a0 : Nat) (w : Wd) (r : Wd) (h : Mo_keeps a0 w = some r) : (wsh w a0).1 = 12 ∧ ∀ D, 0 ≤ D → Rn g l D 214 0 [(0, .inr (.inr a0))] [] w none r := by
  obtain ⟨hg, h⟩ := gd_some h
  exact ⟨hg, fun D hD => rn_sub [0] rfl (s_Mo_keeps_0 hD a0 w r h)⟩
def Mo_lesson_26 (w : Wd) : Option (Int × Wd) :=
  some ((-1), w)
theorem s_Mo_lesson_26 {g : Gp} {l : Launch} {D : Nat} (hD : 2 ≤ D) (w : Wd) (r : Int × Wd) (h : Mo_lesson_26 w = some r) : Rn g l D 215 26 [] [] w (some (.inl r.1)) r.2 := by
  unfold Mo_lesson_26 at h
  refine rn_iconst i215_26 ?_
  obtain rfl := Option.some.inj h
  exact rn_retI i215_27 mr215
def Mo_lesson_0 (a0 : Nat) (x1 : Int) (x2 : Int) (x3 : Int) (w : Wd) : Option (Int × Wd) :=
  (Mo_isHeir a0 x1 w).bind fun r2 =>
  if (r2.1 : Int) = 0 then
    Mo_lesson_26 r2.2
  else
    (Mo_isLetterAt a0 x2 r2.2).bind fun r10 =>
    if (r10.1 : Int) = 0 then
      Mo_lesson_26 r10.2
    else
      (Mo_in x3 1 99 r10.2).bind fun r20 =>
      if (r20.1 : Int) = 0 then
        Mo_lesson_26 r20.2
      else
        (Mo_copiesAll a0 r20.2).bind fun r29 =>
        (Mo_lessons a0 x1 x2 x3 r29).bind fun r36 =>
        (Mo_shapeOf a0 x1 x2 r36).bind fun r42 =>
        (fgR r42.2 a0 12 50).bind fun v46 =>
        (rdI r42.2 v46 x2).bind fun v50 =>
        (Mo_apart (r42.1) v50 r42.2).bind fun r51 =>
        (Mo_keeps a0 r51.2).bind fun r57 =>
        some (r51.1, r57)
theorem s_Mo_lesson_0 {g : Gp} {l : Launch} {D : Nat} (hD : 2 ≤ D) (a0 : Nat) (x1 : Int) (x2 : Int) (x3 : Int) (w : Wd) (r : Int × Wd) (h : Mo_lesson_0 a0 x1 x2 x3 w = some r) : Rn g l D 215 0 [(0, .inr (.inr a0)), (1, .inl x1), (2, .inl x2), (3, .inl x3)] [] w (some (.inl r.1)) r.2 := by
  obtain ⟨D, rfl⟩ : ∃ D1, D = D1 + 1 := ⟨D - 1, by omega⟩
  unfold Mo_lesson_0 at h
  refine fr_aload_n i215_0 rfl ?_
  refine rn_iload_n i215_1 rfl ?_
  obtain ⟨r2, h2, h⟩ := Option.bind_eq_some_iff.mp h
  obtain ⟨g2, c2⟩ := S_Mo_isHeir a0 x1 w r2 h2
  refine fr_callV (a := a0) (As := [.inl x1]) (st := []) i215_2 (cq185 a0 x1) rfl (Nat.le_of_ble_eq_true rfl) g2 (c2 _ (by omega)) ?_
  show Rn _ _ _ _ _ _ [.inl r2.1] _ _ _
  by_cases c5 : (r2.1 : Int) = 0
  · rw [if_pos c5] at h
    refine rn_if_eq_t i215_5 c5 ?_
    exact rn_sub [] rfl (s_Mo_lesson_26 hD r2.2 r h)
  · rw [if_neg c5] at h
    refine rn_if_eq_f i215_5 c5 ?_
    refine fr_aload_n i215_8 rfl ?_
    refine rn_iload_n i215_9 rfl ?_
    obtain ⟨r10, h10, h⟩ := Option.bind_eq_some_iff.mp h
    obtain ⟨g10, c10⟩ := S_Mo_isLetterAt a0 x2 r2.2 r10 h10
    refine fr_callV (a := a0) (As := [.inl x2]) (st := []) i215_10 (cq184 a0 x2) rfl (Nat.le_of_ble_eq_true rfl) g10 (c10 _ (by omega)) ?_
    show Rn _ _ _ _ _ _ [.inl r10.1] _ _ _
    by_cases c13 : (r10.1 : Int) = 0
    · rw [if_pos c13] at h
      refine rn_if_eq_t i215_13 c13 ?_
      exact rn_sub [] rfl (s_Mo_lesson_26 hD r10.2 r h)
    · rw [if_neg c13] at h
      refine rn_if_eq_f i215_13 c13 ?_
      refine rn_iload_n i215_16 rfl ?_
      refine rn_iconst i215_17 ?_
      refine rn_bipush i215_18 ?_
      obtain ⟨r20, h20, h⟩ := Option.bind_eq_some_iff.mp h
      refine fr_callS (nst := 0) (As := [.inl x3, .inl 1, .inl 99]) (st := []) i215_20 (cq183 x3 1 99) rfl (Nat.le_of_ble_eq_true rfl) (S_Mo_in x3 1 99 r10.2 r20 h20 _ (by omega)) ?_
      show Rn _ _ _ _ _ _ [.inl r20.1] _ _ _
      by_cases c23 : (r20.1 : Int) = 0
      · rw [if_pos c23] at h
        refine rn_if_ne_f i215_23 c23 ?_
        exact rn_sub [] rfl (s_Mo_lesson_26 hD r20.2 r h)
      · rw [if_neg c23] at h
        refine rn_if_ne_t i215_23 c23 ?_
        refine fr_aload_n i215_28 rfl ?_
        obtain ⟨r29, h29, h⟩ := Option.bind_eq_some_iff.mp h
        obtain ⟨g29, c29⟩ := S_Mo_copiesAll a0 r20.2 r29 h29
        refine fr_callV (a := a0) (As := []) (st := []) i215_29 (cq190 a0) rfl (Nat.le_of_ble_eq_true rfl) g29 (c29 _ (by omega)) ?_
        refine fr_aload_n i215_32 rfl ?_
        refine rn_iload_n i215_33 rfl ?_
        refine rn_iload_n i215_34 rfl ?_
        refine rn_iload_n i215_35 rfl ?_
        obtain ⟨r36, h36, h⟩ := Option.bind_eq_some_iff.mp h
        obtain ⟨g36, c36⟩ := S_Mo_lessons a0 x1 x2 x3 r29 r36 h36
        refine fr_callV (a := a0) (As := [.inl x1, .inl x2, .inl x3]) (st := []) i215_36 (cq204 a0 x1 x2 x3) rfl (Nat.le_of_ble_eq_true rfl) g36 (c36 _ (by omega)) ?_
        refine fr_aload_n i215_39 rfl ?_
        refine rn_iload_n i215_40 rfl ?_
        refine rn_iload_n i215_41 rfl ?_
        obtain ⟨r42, h42, h⟩ := Option.bind_eq_some_iff.mp h
        obtain ⟨g42, c42⟩ := S_Mo_shapeOf a0 x1 x2 r36 r42 h42
        refine fr_callV (a := a0) (As := [.inl x1, .inl x2]) (st := []) i215_42 (cq194 a0 x1 x2) rfl (Nat.le_of_ble_eq_true rfl) g42 (c42 _ (by omega)) ?_
        show Rn _ _ _ _ _ _ [.inl r42.1] _ _ _
        refine fr_aload_n i215_45 rfl ?_
        obtain ⟨v46, h46, h⟩ := Option.bind_eq_some_iff.mp h
        refine fr_gR (k := 50) i215_46 tf12_50 h46 ?_
        refine rn_iload_n i215_49 rfl ?_
        obtain ⟨v50, h50, h⟩ := Option.bind_eq_some_iff.mp h
        refine rn_iald i215_50 h50 ?_
        obtain ⟨r51, h51, h⟩ := Option.bind_eq_some_iff.mp h
        refine fr_callS (nst := 0) (As := [.inl r42.1, .inl v50]) (st := []) i215_51 (cq193 (r42.1) v50) rfl (Nat.le_of_ble_eq_true rfl) (S_Mo_apart (r42.1) v50 r42.2 r51 h51 _ (by omega)) ?_
        show Rn _ _ _ _ _ _ [.inl r51.1] _ _ _
        refine rn_istore (ls1 := [(4, .inl r51.1), (0, .inr (.inr a0)), (1, .inl x1), (2, .inl x2), (3, .inl x3)]) i215_54 rfl ?_
        refine fr_aload_n i215_56 rfl ?_
        obtain ⟨r57, h57, h⟩ := Option.bind_eq_some_iff.mp h
        obtain ⟨g57, c57⟩ := S_Mo_keeps a0 r51.2 r57 h57
        refine fr_callV (a := a0) (As := []) (st := []) i215_57 (cq214 a0) rfl (Nat.le_of_ble_eq_true rfl) g57 (c57 _ (by omega)) ?_
        refine rn_iload i215_60 rfl ?_
        obtain rfl := Option.some.inj h
        exact rn_retI i215_62 mr215
/-- HandHeirsModel.lesson(III)I -/
def Mo_lesson (a0 : Nat) (x1 : Int) (x2 : Int) (x3 : Int) (w : Wd) : Option (Int × Wd) := gd 12 w a0 (Mo_lesson_0 a0 x1 x2 x3 w)
theorem S_Mo_lesson {g : Gp} {l : Launch} (a0 : Nat) (x1 : Int) (x2 : Int) (x3 : Int) (w : Wd) (r : Int × Wd) (h : Mo_lesson a0 x1 x2 x3 w = some r) : (wsh w a0).1 = 12 ∧ ∀ D, 2 ≤ D → Rn g l D 215 0 [(0, .inr (.inr a0)), (1, .inl x1), (2, .inl x2), (3, .inl x3)] [] w (some (.inl r.1)) r.2 := by
  obtain ⟨hg, h⟩ := gd_some h
  exact ⟨hg, fun D hD => rn_sub [0, 1, 2, 3] rfl (s_Mo_lesson_0 hD a0 x1 x2 x3 w r h)⟩
def Mo_years_45 (a0 : Nat) (w : Wd) : Option (Int × Wd) :=
  (Mo_keeps a0 w).bind fun r46 =>
  (fgR r46 a0 12 49).bind fun v50 =>
  (rdI r46 v50 42).bind fun v55 =>
  some (v55, r46)
theorem s_Mo_years_45 {g : Gp} {l : Launch} {D : Nat} (hD : 7 ≤ D) (a0 : Nat) (w : Wd) (r : Int × Wd) (h : Mo_years_45 a0 w = some r) : Rn g l D 216 45 [(0, .inr (.inr a0))] [] w (some (.inl r.1)) r.2 := by
  obtain ⟨D, rfl⟩ : ∃ D1, D = D1 + 1 := ⟨D - 1, by omega⟩
  unfold Mo_years_45 at h
  refine fr_aload_n i216_45 rfl ?_
  obtain ⟨r46, h46, h⟩ := Option.bind_eq_some_iff.mp h
  obtain ⟨g46, c46⟩ := S_Mo_keeps a0 w r46 h46
  refine fr_callV (a := a0) (As := []) (st := []) i216_46 (cq214 a0) rfl (Nat.le_of_ble_eq_true rfl) g46 (c46 _ (by omega)) ?_
  refine fr_aload_n i216_49 rfl ?_
  obtain ⟨v50, h50, h⟩ := Option.bind_eq_some_iff.mp h
  refine fr_gR (k := 49) i216_50 tf12_49 h50 ?_
  refine rn_bipush i216_53 ?_
  obtain ⟨v55, h55, h⟩ := Option.bind_eq_some_iff.mp h
  refine rn_iald i216_55 h55 ?_
  obtain rfl := Option.some.inj h
  exact rn_retI i216_56 mr216
def Mo_years_30 : Nat → Nat → Int → Int → Wd → Option (Int × Wd)
  | 0, _, _, _, _ => none
  | n + 1, a0, x1, x2, w =>
    if (x1 : Int) ≤ x2 then
      Mo_years_45 a0 w
    else
      (Mo_yearGoes a0 w).bind fun r36 =>
      Mo_years_30 n a0 x1 (w32 (x2 + 1)) r36
theorem s_Mo_years_30 {g : Gp} {l : Launch} {D : Nat} (hD : 7 ≤ D) : ∀ (n : Nat) (a0 : Nat) (x1 : Int) (x2 : Int) (w : Wd) (r : Int × Wd), Mo_years_30 n a0 x1 x2 w = some r → Rn g l D 216 30 [(0, .inr (.inr a0)), (1, .inl x1), (2, .inl x2)] [] w (some (.inl r.1)) r.2 := by
  obtain ⟨D, rfl⟩ : ∃ D1, D = D1 + 1 := ⟨D - 1, by omega⟩
  intro n
  induction n with
  | zero => intro a0 x1 x2 w r h; cases (show (none : Option (Int × Wd)) = some r from h)
  | succ n ih =>
    intro a0 x1 x2 w r h
    unfold Mo_years_30 at h
    refine rn_iload_n i216_30 rfl ?_
    refine rn_iload_n i216_31 rfl ?_
    by_cases c32 : (x1 : Int) ≤ x2
    · rw [if_pos c32] at h
      refine rn_icmp_ge_t i216_32 c32 ?_
      exact rn_sub [0] rfl (s_Mo_years_45 hD a0 w r h)
    · rw [if_neg c32] at h
      refine rn_icmp_ge_f i216_32 c32 ?_
      refine fr_aload_n i216_35 rfl ?_
      obtain ⟨r36, h36, h⟩ := Option.bind_eq_some_iff.mp h
      obtain ⟨g36, c36⟩ := S_Mo_yearGoes a0 w r36 h36
      refine fr_callV (a := a0) (As := []) (st := []) i216_36 (cq205 a0) rfl (Nat.le_of_ble_eq_true rfl) g36 (c36 _ (by omega)) ?_
      refine rn_iinc (ls1 := [(2, .inl (w32 (x2 + 1))), (0, .inr (.inr a0)), (1, .inl x1)]) i216_39 rfl rfl ?_
      refine rn_goto i216_42 ?_
      exact rn_sub [1, 2, 0] rfl (ih a0 x1 (w32 (x2 + 1)) r36 r h)
def Mo_years_0 (a0 : Nat) (x1 : Int) (w : Wd) : Option (Int × Wd) :=
  (Mo_in x1 0 100 w).bind fun r4 =>
  if (r4.1 : Int) = 0 then
    some ((-1), r4.2)
  else
    if (x1 : Int) = 0 then
      (fgR r4.2 a0 12 49).bind fun v17 =>
      (rdI r4.2 v17 42).bind fun v22 =>
      some (v22, r4.2)
    else
      (Mo_copiesAll a0 r4.2).bind fun r25 =>
      Mo_years_30 FU a0 x1 0 r25
theorem s_Mo_years_0 {g : Gp} {l : Launch} {D : Nat} (hD : 7 ≤ D) (a0 : Nat) (x1 : Int) (w : Wd) (r : Int × Wd) (h : Mo_years_0 a0 x1 w = some r) : Rn g l D 216 0 [(0, .inr (.inr a0)), (1, .inl x1)] [] w (some (.inl r.1)) r.2 := by
  obtain ⟨D, rfl⟩ : ∃ D1, D = D1 + 1 := ⟨D - 1, by omega⟩
  unfold Mo_years_0 at h
  refine rn_iload_n i216_0 rfl ?_
  refine rn_iconst i216_1 ?_
  refine rn_bipush i216_2 ?_
  obtain ⟨r4, h4, h⟩ := Option.bind_eq_some_iff.mp h
  refine fr_callS (nst := 0) (As := [.inl x1, .inl 0, .inl 100]) (st := []) i216_4 (cq183 x1 0 100) rfl (Nat.le_of_ble_eq_true rfl) (S_Mo_in x1 0 100 w r4 h4 _ (by omega)) ?_
  show Rn _ _ _ _ _ _ [.inl r4.1] _ _ _
  by_cases c7 : (r4.1 : Int) = 0
  · rw [if_pos c7] at h
    refine rn_if_ne_f i216_7 c7 ?_
    refine rn_iconst i216_10 ?_
    obtain rfl := Option.some.inj h
    exact rn_retI i216_11 mr216
  · rw [if_neg c7] at h
    refine rn_if_ne_t i216_7 c7 ?_
    refine rn_iload_n i216_12 rfl ?_
    by_cases c13 : (x1 : Int) = 0
    · rw [if_pos c13] at h
      refine rn_if_ne_f i216_13 c13 ?_
      refine fr_aload_n i216_16 rfl ?_
      obtain ⟨v17, h17, h⟩ := Option.bind_eq_some_iff.mp h
      refine fr_gR (k := 49) i216_17 tf12_49 h17 ?_
      refine rn_bipush i216_20 ?_
      obtain ⟨v22, h22, h⟩ := Option.bind_eq_some_iff.mp h
      refine rn_iald i216_22 h22 ?_
      obtain rfl := Option.some.inj h
      exact rn_retI i216_23 mr216
    · rw [if_neg c13] at h
      refine rn_if_ne_t i216_13 c13 ?_
      refine fr_aload_n i216_24 rfl ?_
      obtain ⟨r25, h25, h⟩ := Option.bind_eq_some_iff.mp h
      obtain ⟨g25, c25⟩ := S_Mo_copiesAll a0 r4.2 r25 h25
      refine fr_callV (a := a0) (As := []) (st := []) i216_25 (cq190 a0) rfl (Nat.le_of_ble_eq_true rfl) g25 (c25 _ (by omega)) ?_
      refine rn_iconst i216_28 ?_
      refine rn_istore_n (ls1 := [(2, .inl 0), (0, .inr (.inr a0)), (1, .inl x1)]) i216_29 rfl ?_
      exact rn_sub [1, 2, 0] rfl (s_Mo_years_30 hD FU a0 x1 0 r25 r h)
/-- HandHeirsModel.years(I)I -/
def Mo_years (a0 : Nat) (x1 : Int) (w : Wd) : Option (Int × Wd) := gd 12 w a0 (Mo_years_0 a0 x1 w)
theorem S_Mo_years {g : Gp} {l : Launch} (a0 : Nat) (x1 : Int) (w : Wd) (r : Int × Wd) (h : Mo_years a0 x1 w = some r) : (wsh w a0).1 = 12 ∧ ∀ D, 7 ≤ D → Rn g l D 216 0 [(0, .inr (.inr a0)), (1, .inl x1)] [] w (some (.inl r.1)) r.2 := by
  obtain ⟨hg, h⟩ := gd_some h
  exact ⟨hg, fun D hD => rn_sub [0, 1] rfl (s_Mo_years_0 hD a0 x1 w r h)⟩
def Mo_undo_21 : Nat → Nat → Int → Wd → Option (Int × Wd)
  | 0, _, _, _ => none
  | n + 1, a0, x1, w =>
    if (2860 : Int) ≤ x1 then
      some (1, w)
    else
      (fgR w a0 12 49).bind fun v29 =>
      (fgR w a0 12 59).bind fun v34 =>
      (fgI w a0 12 58).bind fun v41 =>
      (rdI w v34 (w32 ((w32 (2860 * v41)) + x1))).bind fun v47 =>
      (wrI w v29 x1 v47).bind fun w48 =>
      Mo_undo_21 n a0 (w32 (x1 + 1)) w48
theorem s_Mo_undo_21 {g : Gp} {l : Launch} {D : Nat} (hD : 0 ≤ D) : ∀ (n : Nat) (a0 : Nat) (x1 : Int) (w : Wd) (r : Int × Wd), Mo_undo_21 n a0 x1 w = some r → Rn g l D 217 21 [(0, .inr (.inr a0)), (1, .inl x1)] [] w (some (.inl r.1)) r.2 := by
  intro n
  induction n with
  | zero => intro a0 x1 w r h; cases (show (none : Option (Int × Wd)) = some r from h)
  | succ n ih =>
    intro a0 x1 w r h
    unfold Mo_undo_21 at h
    refine rn_iload_n i217_21 rfl ?_
    refine rn_sipush i217_22 ?_
    by_cases c25 : (2860 : Int) ≤ x1
    · rw [if_pos c25] at h
      refine rn_icmp_ge_t i217_25 c25 ?_
      refine rn_iconst i217_55 ?_
      obtain rfl := Option.some.inj h
      exact rn_retZ i217_56 mr217 (by decide)
    · rw [if_neg c25] at h
      refine rn_icmp_ge_f i217_25 c25 ?_
      refine fr_aload_n i217_28 rfl ?_
      obtain ⟨v29, h29, h⟩ := Option.bind_eq_some_iff.mp h
      refine fr_gR (k := 49) i217_29 tf12_49 h29 ?_
      refine rn_iload_n i217_32 rfl ?_
      refine fr_aload_n i217_33 rfl ?_
      obtain ⟨v34, h34, h⟩ := Option.bind_eq_some_iff.mp h
      refine fr_gR (k := 59) i217_34 tf12_59 h34 ?_
      refine rn_sipush i217_37 ?_
      refine fr_aload_n i217_40 rfl ?_
      obtain ⟨v41, h41, h⟩ := Option.bind_eq_some_iff.mp h
      refine fr_gI (k := 58) i217_41 tf12_58 h41 ?_
      refine rn_imul i217_44 ?_
      refine rn_iload_n i217_45 rfl ?_
      refine rn_iadd i217_46 ?_
      obtain ⟨v47, h47, h⟩ := Option.bind_eq_some_iff.mp h
      refine rn_iald i217_47 h47 ?_
      obtain ⟨w48, h48, h⟩ := Option.bind_eq_some_iff.mp h
      refine rn_iast i217_48 h48 ?_
      refine rn_iinc (ls1 := [(1, .inl (w32 (x1 + 1))), (0, .inr (.inr a0))]) i217_49 rfl rfl ?_
      refine rn_goto i217_52 ?_
      exact rn_sub [1, 0] rfl (ih a0 (w32 (x1 + 1)) w48 r h)
def Mo_undo_0 (a0 : Nat) (w : Wd) : Option (Int × Wd) :=
  (fgI w a0 12 58).bind fun v1 =>
  if (v1 : Int) = 0 then
    some (0, w)
  else
    (fgI w a0 12 58).bind fun v11 =>
    (fpI w a0 12 58 (w32 (v11 - 1))).bind fun w16 =>
    Mo_undo_21 FU a0 0 w16
theorem s_Mo_undo_0 {g : Gp} {l : Launch} {D : Nat} (hD : 0 ≤ D) (a0 : Nat) (w : Wd) (r : Int × Wd) (h : Mo_undo_0 a0 w = some r) : Rn g l D 217 0 [(0, .inr (.inr a0))] [] w (some (.inl r.1)) r.2 := by
  unfold Mo_undo_0 at h
  refine fr_aload_n i217_0 rfl ?_
  obtain ⟨v1, h1, h⟩ := Option.bind_eq_some_iff.mp h
  refine fr_gI (k := 58) i217_1 tf12_58 h1 ?_
  by_cases c4 : (v1 : Int) = 0
  · rw [if_pos c4] at h
    refine rn_if_ne_f i217_4 c4 ?_
    refine rn_iconst i217_7 ?_
    obtain rfl := Option.some.inj h
    exact rn_retZ i217_8 mr217 (by decide)
  · rw [if_neg c4] at h
    refine rn_if_ne_t i217_4 c4 ?_
    refine fr_aload_n i217_9 rfl ?_
    refine rn_dup i217_10 rfl ?_
    obtain ⟨v11, h11, h⟩ := Option.bind_eq_some_iff.mp h
    refine fr_gI (k := 58) i217_11 tf12_58 h11 ?_
    refine rn_iconst i217_14 ?_
    refine rn_isub i217_15 ?_
    obtain ⟨w16, h16, h⟩ := Option.bind_eq_some_iff.mp h
    refine fr_pI (k := 58) i217_16 (pf12_58 217) h16 ?_
    refine rn_iconst i217_19 ?_
    refine rn_istore_n (ls1 := [(1, .inl 0), (0, .inr (.inr a0))]) i217_20 rfl ?_
    exact rn_sub [1, 0] rfl (s_Mo_undo_21 hD FU a0 0 w16 r h)
/-- HandHeirsModel.undo()Z -/
def Mo_undo (a0 : Nat) (w : Wd) : Option (Int × Wd) := gd 12 w a0 (Mo_undo_0 a0 w)
theorem S_Mo_undo {g : Gp} {l : Launch} (a0 : Nat) (w : Wd) (r : Int × Wd) (h : Mo_undo a0 w = some r) : (wsh w a0).1 = 12 ∧ ∀ D, 0 ≤ D → Rn g l D 217 0 [(0, .inr (.inr a0))] [] w (some (.inl r.1)) r.2 := by
  obtain ⟨hg, h⟩ := gd_some h
  exact ⟨hg, fun D hD => rn_sub [0] rfl (s_Mo_undo_0 hD a0 w r h)⟩
def Mo_book_66 (s0 : Int) (w : Wd) : Option (Int × Wd) :=
  some (s0, w)
theorem s_Mo_book_66 {g : Gp} {l : Launch} {D : Nat} (hD : 2 ≤ D) (s0 : Int) (w : Wd) (r : Int × Wd) (h : Mo_book_66 s0 w = some r) : Rn g l D 218 66 [] [.inl s0] w (some (.inl r.1)) r.2 := by
  unfold Mo_book_66 at h
  obtain rfl := Option.some.inj h
  exact rn_retI i218_66 mr218
def Mo_book_0 (a0 : Nat) (x1 : Int) (x2 : Int) (w : Wd) : Option (Int × Wd) :=
  (fgR w a0 12 49).bind fun v3 =>
  (rdI w v3 45).bind fun v8 =>
  (Mo_in x1 0 (w32 (v8 - 1)) w).bind fun r11 =>
  if (r11.1 : Int) = 0 then
    some ((-1), r11.2)
  else
    if (x2 : Int) = (-1) then
      (fgR r11.2 a0 12 49).bind fun v25 =>
      (rdI r11.2 v25 (w32 (66 + (w32 (7 * x1))))).bind fun v35 =>
      (Mo_orNobody v35 r11.2).bind fun r36 =>
      some (r36.1, r36.2)
    else
      (Mo_isLetterAt a0 x2 r11.2).bind fun r42 =>
      if (r42.1 : Int) = 0 then
        Mo_book_66 (-1) r42.2
      else
        (fgR r42.2 a0 12 49).bind fun v49 =>
        (rdI r42.2 v49 (w32 ((w32 (60 + (w32 (7 * x1)))) + x2))).bind fun v61 =>
        Mo_book_66 v61 r42.2
theorem s_Mo_book_0 {g : Gp} {l : Launch} {D : Nat} (hD : 2 ≤ D) (a0 : Nat) (x1 : Int) (x2 : Int) (w : Wd) (r : Int × Wd) (h : Mo_book_0 a0 x1 x2 w = some r) : Rn g l D 218 0 [(0, .inr (.inr a0)), (1, .inl x1), (2, .inl x2)] [] w (some (.inl r.1)) r.2 := by
  obtain ⟨D, rfl⟩ : ∃ D1, D = D1 + 1 := ⟨D - 1, by omega⟩
  unfold Mo_book_0 at h
  refine rn_iload_n i218_0 rfl ?_
  refine rn_iconst i218_1 ?_
  refine fr_aload_n i218_2 rfl ?_
  obtain ⟨v3, h3, h⟩ := Option.bind_eq_some_iff.mp h
  refine fr_gR (k := 49) i218_3 tf12_49 h3 ?_
  refine rn_bipush i218_6 ?_
  obtain ⟨v8, h8, h⟩ := Option.bind_eq_some_iff.mp h
  refine rn_iald i218_8 h8 ?_
  refine rn_iconst i218_9 ?_
  refine rn_isub i218_10 ?_
  obtain ⟨r11, h11, h⟩ := Option.bind_eq_some_iff.mp h
  refine fr_callS (nst := 0) (As := [.inl x1, .inl 0, .inl (w32 (v8 - 1))]) (st := []) i218_11 (cq183 x1 0 (w32 (v8 - 1))) rfl (Nat.le_of_ble_eq_true rfl) (S_Mo_in x1 0 (w32 (v8 - 1)) w r11 h11 _ (by omega)) ?_
  show Rn _ _ _ _ _ _ [.inl r11.1] _ _ _
  by_cases c14 : (r11.1 : Int) = 0
  · rw [if_pos c14] at h
    refine rn_if_ne_f i218_14 c14 ?_
    refine rn_iconst i218_17 ?_
    obtain rfl := Option.some.inj h
    exact rn_retI i218_18 mr218
  · rw [if_neg c14] at h
    refine rn_if_ne_t i218_14 c14 ?_
    refine rn_iload_n i218_19 rfl ?_
    refine rn_iconst i218_20 ?_
    by_cases c21 : (x2 : Int) = (-1)
    · rw [if_pos c21] at h
      refine rn_icmp_ne_f i218_21 c21 ?_
      refine fr_aload_n i218_24 rfl ?_
      obtain ⟨v25, h25, h⟩ := Option.bind_eq_some_iff.mp h
      refine fr_gR (k := 49) i218_25 tf12_49 h25 ?_
      refine rn_bipush i218_28 ?_
      refine rn_bipush i218_30 ?_
      refine rn_iload_n i218_32 rfl ?_
      refine rn_imul i218_33 ?_
      refine rn_iadd i218_34 ?_
      obtain ⟨v35, h35, h⟩ := Option.bind_eq_some_iff.mp h
      refine rn_iald i218_35 h35 ?_
      obtain ⟨r36, h36, h⟩ := Option.bind_eq_some_iff.mp h
      refine fr_callS (nst := 0) (As := [.inl v35]) (st := []) i218_36 (cq211 v35) rfl (Nat.le_of_ble_eq_true rfl) (S_Mo_orNobody v35 r11.2 r36 h36 _ (by omega)) ?_
      show Rn _ _ _ _ _ _ [.inl r36.1] _ _ _
      obtain rfl := Option.some.inj h
      exact rn_retI i218_39 mr218
    · rw [if_neg c21] at h
      refine rn_icmp_ne_t i218_21 c21 ?_
      refine fr_aload_n i218_40 rfl ?_
      refine rn_iload_n i218_41 rfl ?_
      obtain ⟨r42, h42, h⟩ := Option.bind_eq_some_iff.mp h
      obtain ⟨g42, c42⟩ := S_Mo_isLetterAt a0 x2 r11.2 r42 h42
      refine fr_callV (a := a0) (As := [.inl x2]) (st := []) i218_42 (cq184 a0 x2) rfl (Nat.le_of_ble_eq_true rfl) g42 (c42 _ (by omega)) ?_
      show Rn _ _ _ _ _ _ [.inl r42.1] _ _ _
      by_cases c45 : (r42.1 : Int) = 0
      · rw [if_pos c45] at h
        refine rn_if_eq_t i218_45 c45 ?_
        refine rn_iconst i218_65 ?_
        exact rn_sub [] rfl (s_Mo_book_66 hD (-1) r42.2 r h)
      · rw [if_neg c45] at h
        refine rn_if_eq_f i218_45 c45 ?_
        refine fr_aload_n i218_48 rfl ?_
        obtain ⟨v49, h49, h⟩ := Option.bind_eq_some_iff.mp h
        refine fr_gR (k := 49) i218_49 tf12_49 h49 ?_
        refine rn_bipush i218_52 ?_
        refine rn_bipush i218_54 ?_
        refine rn_iload_n i218_56 rfl ?_
        refine rn_imul i218_57 ?_
        refine rn_iadd i218_58 ?_
        refine rn_iload_n i218_59 rfl ?_
        refine rn_iadd i218_60 ?_
        obtain ⟨v61, h61, h⟩ := Option.bind_eq_some_iff.mp h
        refine rn_iald i218_61 h61 ?_
        refine rn_goto i218_62 ?_
        exact rn_sub [] rfl (s_Mo_book_66 hD v61 r42.2 r h)
/-- HandHeirsModel.book(II)I -/
def Mo_book (a0 : Nat) (x1 : Int) (x2 : Int) (w : Wd) : Option (Int × Wd) := gd 12 w a0 (Mo_book_0 a0 x1 x2 w)
theorem S_Mo_book {g : Gp} {l : Launch} (a0 : Nat) (x1 : Int) (x2 : Int) (w : Wd) (r : Int × Wd) (h : Mo_book a0 x1 x2 w = some r) : (wsh w a0).1 = 12 ∧ ∀ D, 2 ≤ D → Rn g l D 218 0 [(0, .inr (.inr a0)), (1, .inl x1), (2, .inl x2)] [] w (some (.inl r.1)) r.2 := by
  obtain ⟨hg, h⟩ := gd_some h
  exact ⟨hg, fun D hD => rn_sub [0, 1, 2] rfl (s_Mo_book_0 hD a0 x1 x2 w r h)⟩
def Mo_sumBehind_61 : Nat → Nat → Int → Int → Int → Int → Wd → Option (Int × Wd)
  | 0, _, _, _, _, _, _ => none
  | n + 1, a0, x2, x5, x6, x7, w =>
    (fgR w a0 12 29).bind fun v64 =>
    (fgI w a0 12 18).bind fun v68 =>
    (rdI w v64 v68).bind fun v71 =>
    if (v71 : Int) ≤ x7 then
      some (x6, w)
    else
      (Mo_unlikeOf a0 x7 x2 x5 w).bind fun r83 =>
      Mo_sumBehind_61 n a0 x2 x5 (w32 (x6 + r83.1)) (w32 (x7 + 1)) r83.2
theorem s_Mo_sumBehind_61 {g : Gp} {l : Launch} {D : Nat} (hD : 3 ≤ D) : ∀ (n : Nat) (a0 : Nat) (x2 : Int) (x5 : Int) (x6 : Int) (x7 : Int) (w : Wd) (r : Int × Wd), Mo_sumBehind_61 n a0 x2 x5 x6 x7 w = some r → Rn g l D 219 61 [(0, .inr (.inr a0)), (2, .inl x2), (5, .inl x5), (6, .inl x6), (7, .inl x7)] [] w (some (.inl r.1)) r.2 := by
  obtain ⟨D, rfl⟩ : ∃ D1, D = D1 + 1 := ⟨D - 1, by omega⟩
  intro n
  induction n with
  | zero => intro a0 x2 x5 x6 x7 w r h; cases (show (none : Option (Int × Wd)) = some r from h)
  | succ n ih =>
    intro a0 x2 x5 x6 x7 w r h
    unfold Mo_sumBehind_61 at h
    refine rn_iload i219_61 rfl ?_
    refine fr_aload_n i219_63 rfl ?_
    obtain ⟨v64, h64, h⟩ := Option.bind_eq_some_iff.mp h
    refine fr_gR (k := 29) i219_64 tf12_29 h64 ?_
    refine fr_aload_n i219_67 rfl ?_
    obtain ⟨v68, h68, h⟩ := Option.bind_eq_some_iff.mp h
    refine fr_gI (k := 18) i219_68 tf12_18 h68 ?_
    obtain ⟨v71, h71, h⟩ := Option.bind_eq_some_iff.mp h
    refine rn_iald i219_71 h71 ?_
    by_cases c72 : (v71 : Int) ≤ x7
    · rw [if_pos c72] at h
      refine rn_icmp_ge_t i219_72 c72 ?_
      refine rn_iload i219_95 rfl ?_
      obtain rfl := Option.some.inj h
      exact rn_retI i219_97 mr219
    · rw [if_neg c72] at h
      refine rn_icmp_ge_f i219_72 c72 ?_
      refine rn_iload i219_75 rfl ?_
      refine fr_aload_n i219_77 rfl ?_
      refine rn_iload i219_78 rfl ?_
      refine rn_iload_n i219_80 rfl ?_
      refine rn_iload i219_81 rfl ?_
      obtain ⟨r83, h83, h⟩ := Option.bind_eq_some_iff.mp h
      obtain ⟨g83, c83⟩ := S_Mo_unlikeOf a0 x7 x2 x5 w r83 h83
      refine fr_callV (a := a0) (As := [.inl x7, .inl x2, .inl x5]) (st := [.inl x6]) i219_83 (cq198 a0 x7 x2 x5) rfl (Nat.le_of_ble_eq_true rfl) g83 (c83 _ (by omega)) ?_
      show Rn _ _ _ _ _ _ [.inl r83.1, .inl x6] _ _ _
      refine rn_iadd i219_86 ?_
      refine rn_istore (ls1 := [(6, .inl (w32 (x6 + r83.1))), (0, .inr (.inr a0)), (2, .inl x2), (5, .inl x5), (7, .inl x7)]) i219_87 rfl ?_
      refine rn_iinc (ls1 := [(7, .inl (w32 (x7 + 1))), (6, .inl (w32 (x6 + r83.1))), (0, .inr (.inr a0)), (2, .inl x2), (5, .inl x5)]) i219_89 rfl rfl ?_
      refine rn_goto i219_92 ?_
      exact rn_sub [2, 3, 4, 1, 0] rfl (ih a0 x2 x5 (w32 (x6 + r83.1)) (w32 (x7 + 1)) r83.2 r h)
def Mo_sumBehind_0 (a0 : Nat) (x1 : Int) (x2 : Int) (x3 : Int) (w : Wd) : Option (Int × Wd) :=
  (fgR w a0 12 50).bind fun v1 =>
  (rdI w v1 (w32 ((w32 (6 + (w32 (6 * x1)))) + x2))).bind fun v13 =>
  (Mo_lessons a0 x1 x2 x3 w).bind fun r20 =>
  (fgR r20 a0 12 50).bind fun v24 =>
  (rdI r20 v24 (w32 ((w32 (6 + (w32 (6 * x1)))) + x2))).bind fun v36 =>
  (fgR r20 a0 12 50).bind fun v40 =>
  (wrI r20 v40 (w32 ((w32 (6 + (w32 (6 * x1)))) + x2)) v13).bind fun w54 =>
  Mo_sumBehind_61 FU a0 x2 v36 0 0 w54
theorem s_Mo_sumBehind_0 {g : Gp} {l : Launch} {D : Nat} (hD : 3 ≤ D) (a0 : Nat) (x1 : Int) (x2 : Int) (x3 : Int) (w : Wd) (r : Int × Wd) (h : Mo_sumBehind_0 a0 x1 x2 x3 w = some r) : Rn g l D 219 0 [(0, .inr (.inr a0)), (1, .inl x1), (2, .inl x2), (3, .inl x3)] [] w (some (.inl r.1)) r.2 := by
  obtain ⟨D, rfl⟩ : ∃ D1, D = D1 + 1 := ⟨D - 1, by omega⟩
  unfold Mo_sumBehind_0 at h
  refine fr_aload_n i219_0 rfl ?_
  obtain ⟨v1, h1, h⟩ := Option.bind_eq_some_iff.mp h
  refine fr_gR (k := 50) i219_1 tf12_50 h1 ?_
  refine rn_bipush i219_4 ?_
  refine rn_bipush i219_6 ?_
  refine rn_iload_n i219_8 rfl ?_
  refine rn_imul i219_9 ?_
  refine rn_iadd i219_10 ?_
  refine rn_iload_n i219_11 rfl ?_
  refine rn_iadd i219_12 ?_
  obtain ⟨v13, h13, h⟩ := Option.bind_eq_some_iff.mp h
  refine rn_iald i219_13 h13 ?_
  refine rn_istore (ls1 := [(4, .inl v13), (0, .inr (.inr a0)), (1, .inl x1), (2, .inl x2), (3, .inl x3)]) i219_14 rfl ?_
  refine fr_aload_n i219_16 rfl ?_
  refine rn_iload_n i219_17 rfl ?_
  refine rn_iload_n i219_18 rfl ?_
  refine rn_iload_n i219_19 rfl ?_
  obtain ⟨r20, h20, h⟩ := Option.bind_eq_some_iff.mp h
  obtain ⟨g20, c20⟩ := S_Mo_lessons a0 x1 x2 x3 w r20 h20
  refine fr_callV (a := a0) (As := [.inl x1, .inl x2, .inl x3]) (st := []) i219_20 (cq204 a0 x1 x2 x3) rfl (Nat.le_of_ble_eq_true rfl) g20 (c20 _ (by omega)) ?_
  refine fr_aload_n i219_23 rfl ?_
  obtain ⟨v24, h24, h⟩ := Option.bind_eq_some_iff.mp h
  refine fr_gR (k := 50) i219_24 tf12_50 h24 ?_
  refine rn_bipush i219_27 ?_
  refine rn_bipush i219_29 ?_
  refine rn_iload_n i219_31 rfl ?_
  refine rn_imul i219_32 ?_
  refine rn_iadd i219_33 ?_
  refine rn_iload_n i219_34 rfl ?_
  refine rn_iadd i219_35 ?_
  obtain ⟨v36, h36, h⟩ := Option.bind_eq_some_iff.mp h
  refine rn_iald i219_36 h36 ?_
  refine rn_istore (ls1 := [(5, .inl v36), (4, .inl v13), (0, .inr (.inr a0)), (1, .inl x1), (2, .inl x2), (3, .inl x3)]) i219_37 rfl ?_
  refine fr_aload_n i219_39 rfl ?_
  obtain ⟨v40, h40, h⟩ := Option.bind_eq_some_iff.mp h
  refine fr_gR (k := 50) i219_40 tf12_50 h40 ?_
  refine rn_bipush i219_43 ?_
  refine rn_bipush i219_45 ?_
  refine rn_iload_n i219_47 rfl ?_
  refine rn_imul i219_48 ?_
  refine rn_iadd i219_49 ?_
  refine rn_iload_n i219_50 rfl ?_
  refine rn_iadd i219_51 ?_
  refine rn_iload i219_52 rfl ?_
  obtain ⟨w54, h54, h⟩ := Option.bind_eq_some_iff.mp h
  refine rn_iast i219_54 h54 ?_
  refine rn_iconst i219_55 ?_
  refine rn_istore (ls1 := [(6, .inl 0), (5, .inl v36), (4, .inl v13), (0, .inr (.inr a0)), (1, .inl x1), (2, .inl x2), (3, .inl x3)]) i219_56 rfl ?_
  refine rn_iconst i219_58 ?_
  refine rn_istore (ls1 := [(7, .inl 0), (6, .inl 0), (5, .inl v36), (4, .inl v13), (0, .inr (.inr a0)), (1, .inl x1), (2, .inl x2), (3, .inl x3)]) i219_59 rfl ?_
  exact rn_sub [4, 6, 2, 1, 0] rfl (s_Mo_sumBehind_61 hD FU a0 x2 v36 0 0 w54 r h)
/-- HandHeirsModel.sumBehind(III)I -/
def Mo_sumBehind (a0 : Nat) (x1 : Int) (x2 : Int) (x3 : Int) (w : Wd) : Option (Int × Wd) := gd 12 w a0 (Mo_sumBehind_0 a0 x1 x2 x3 w)
theorem S_Mo_sumBehind {g : Gp} {l : Launch} (a0 : Nat) (x1 : Int) (x2 : Int) (x3 : Int) (w : Wd) (r : Int × Wd) (h : Mo_sumBehind a0 x1 x2 x3 w = some r) : (wsh w a0).1 = 12 ∧ ∀ D, 3 ≤ D → Rn g l D 219 0 [(0, .inr (.inr a0)), (1, .inl x1), (2, .inl x2), (3, .inl x3)] [] w (some (.inl r.1)) r.2 := by
  obtain ⟨hg, h⟩ := gd_some h
  exact ⟨hg, fun D hD => rn_sub [0, 1, 2, 3] rfl (s_Mo_sumBehind_0 hD a0 x1 x2 x3 w r h)⟩
def Mo_plans_62 (k19 : Nat → Int → Int → Int → Int → Wd → Option (Int × Wd)) (a0 : Nat) (x1 : Int) (x2 : Int) (x3 : Int) (x4 : Int) (w : Wd) : Option (Int × Wd) :=
  k19 a0 x1 x2 x3 (w32 (x4 + 1)) w
theorem s_Mo_plans_62 {g : Gp} {l : Launch} {D : Nat} (hD : 4 ≤ D) (k19 : Nat → Int → Int → Int → Int → Wd → Option (Int × Wd)) (hk19 : ∀ (a0 : Nat) (x1 : Int) (x2 : Int) (x3 : Int) (x4 : Int) (w : Wd) (r : Int × Wd), k19 a0 x1 x2 x3 x4 w = some r → Rn g l D 220 19 [(0, .inr (.inr a0)), (1, .inl x1), (2, .inl x2), (3, .inl x3), (4, .inl x4)] [] w (some (.inl r.1)) r.2) (a0 : Nat) (x1 : Int) (x2 : Int) (x3 : Int) (x4 : Int) (w : Wd) (r : Int × Wd) (h : Mo_plans_62 k19 a0 x1 x2 x3 x4 w = some r) : Rn g l D 220 62 [(0, .inr (.inr a0)), (1, .inl x1), (2, .inl x2), (3, .inl x3), (4, .inl x4)] [] w (some (.inl r.1)) r.2 := by
  unfold Mo_plans_62 at h
  refine rn_iinc (ls1 := [(4, .inl (w32 (x4 + 1))), (0, .inr (.inr a0)), (1, .inl x1), (2, .inl x2), (3, .inl x3)]) i220_62 rfl rfl ?_
  refine rn_goto i220_65 ?_
  exact rn_sub [1, 2, 3, 4, 0] rfl (hk19 a0 x1 x2 x3 (w32 (x4 + 1)) w r h)
def Mo_plans_28 (k19 : Nat → Int → Int → Int → Int → Wd → Option (Int × Wd)) : Nat → Nat → Int → Int → Int → Int → Int → Wd → Option (Int × Wd)
  | 0, _, _, _, _, _, _, _ => none
  | n + 1, a0, x1, x2, x3, x4, x5, w =>
    if (x2 : Int) < x5 then
      Mo_plans_62 k19 a0 x1 x2 x3 x4 w
    else
      (fgR w a0 12 62).bind fun v35 =>
      (Mo_sumBehind a0 x1 x4 x5 w).bind fun r52 =>
      (wrI r52.2 v35 (w32 ((w32 (13 * x4)) + x5)) r52.1).bind fun w55 =>
      Mo_plans_28 k19 n a0 x1 x2 x3 x4 (w32 (x5 + 1)) w55
theorem s_Mo_plans_28 {g : Gp} {l : Launch} {D : Nat} (hD : 4 ≤ D) (k19 : Nat → Int → Int → Int → Int → Wd → Option (Int × Wd)) (hk19 : ∀ (a0 : Nat) (x1 : Int) (x2 : Int) (x3 : Int) (x4 : Int) (w : Wd) (r : Int × Wd), k19 a0 x1 x2 x3 x4 w = some r → Rn g l D 220 19 [(0, .inr (.inr a0)), (1, .inl x1), (2, .inl x2), (3, .inl x3), (4, .inl x4)] [] w (some (.inl r.1)) r.2) : ∀ (n : Nat) (a0 : Nat) (x1 : Int) (x2 : Int) (x3 : Int) (x4 : Int) (x5 : Int) (w : Wd) (r : Int × Wd), Mo_plans_28 k19 n a0 x1 x2 x3 x4 x5 w = some r → Rn g l D 220 28 [(0, .inr (.inr a0)), (1, .inl x1), (2, .inl x2), (3, .inl x3), (4, .inl x4), (5, .inl x5)] [] w (some (.inl r.1)) r.2 := by
  obtain ⟨D, rfl⟩ : ∃ D1, D = D1 + 1 := ⟨D - 1, by omega⟩
  intro n
  induction n with
  | zero => intro a0 x1 x2 x3 x4 x5 w r h; cases (show (none : Option (Int × Wd)) = some r from h)
  | succ n ih =>
    intro a0 x1 x2 x3 x4 x5 w r h
    unfold Mo_plans_28 at h
    refine rn_iload i220_28 rfl ?_
    refine rn_iload_n i220_30 rfl ?_
    by_cases c31 : (x2 : Int) < x5
    · rw [if_pos c31] at h
      refine rn_icmp_gt_t i220_31 c31 ?_
      exact rn_sub [0, 1, 2, 3, 4] rfl (s_Mo_plans_62 hD k19 hk19 a0 x1 x2 x3 x4 w r h)
    · rw [if_neg c31] at h
      refine rn_icmp_gt_f i220_31 c31 ?_
      refine fr_aload_n i220_34 rfl ?_
      obtain ⟨v35, h35, h⟩ := Option.bind_eq_some_iff.mp h
      refine fr_gR (k := 62) i220_35 tf12_62 h35 ?_
      refine rn_bipush i220_38 ?_
      refine rn_iload i220_40 rfl ?_
      refine rn_imul i220_42 ?_
      refine rn_iload i220_43 rfl ?_
      refine rn_iadd i220_45 ?_
      refine fr_aload_n i220_46 rfl ?_
      refine rn_iload_n i220_47 rfl ?_
      refine rn_iload i220_48 rfl ?_
      refine rn_iload i220_50 rfl ?_
      obtain ⟨r52, h52, h⟩ := Option.bind_eq_some_iff.mp h
      obtain ⟨g52, c52⟩ := S_Mo_sumBehind a0 x1 x4 x5 w r52 h52
      refine fr_callV (a := a0) (As := [.inl x1, .inl x4, .inl x5]) (st := [.inl (w32 ((w32 (13 * x4)) + x5)), .inr (.inr v35)]) i220_52 (cq219 a0 x1 x4 x5) rfl (Nat.le_of_ble_eq_true rfl) g52 (c52 _ (by omega)) ?_
      show Rn _ _ _ _ _ _ [.inl r52.1, .inl (w32 ((w32 (13 * x4)) + x5)), .inr (.inr v35)] _ _ _
      obtain ⟨w55, h55, h⟩ := Option.bind_eq_some_iff.mp h
      refine rn_iast i220_55 h55 ?_
      refine rn_iinc (ls1 := [(5, .inl (w32 (x5 + 1))), (0, .inr (.inr a0)), (1, .inl x1), (2, .inl x2), (3, .inl x3), (4, .inl x4)]) i220_56 rfl rfl ?_
      refine rn_goto i220_59 ?_
      exact rn_sub [1, 2, 3, 4, 5, 0] rfl (ih a0 x1 x2 x3 x4 (w32 (x5 + 1)) w55 r h)
def Mo_plans_100 (k71 : Nat → Int → Int → Int → Wd → Option (Int × Wd)) (a0 : Nat) (x2 : Int) (x3 : Int) (x4 : Int) (s0 : Int) (s1 : Int) (s2 : Nat) (w : Wd) : Option (Int × Wd) :=
  (wrI w s2 s1 s0).bind fun w100 =>
  k71 a0 x2 x3 (w32 (x4 + 1)) w100
theorem s_Mo_plans_100 {g : Gp} {l : Launch} {D : Nat} (hD : 4 ≤ D) (k71 : Nat → Int → Int → Int → Wd → Option (Int × Wd)) (hk71 : ∀ (a0 : Nat) (x2 : Int) (x3 : Int) (x4 : Int) (w : Wd) (r : Int × Wd), k71 a0 x2 x3 x4 w = some r → Rn g l D 220 71 [(0, .inr (.inr a0)), (2, .inl x2), (3, .inl x3), (4, .inl x4)] [] w (some (.inl r.1)) r.2) (a0 : Nat) (x2 : Int) (x3 : Int) (x4 : Int) (s0 : Int) (s1 : Int) (s2 : Nat) (w : Wd) (r : Int × Wd) (h : Mo_plans_100 k71 a0 x2 x3 x4 s0 s1 s2 w = some r) : Rn g l D 220 100 [(0, .inr (.inr a0)), (2, .inl x2), (3, .inl x3), (4, .inl x4)] [.inl s0, .inl s1, .inr (.inr s2)] w (some (.inl r.1)) r.2 := by
  unfold Mo_plans_100 at h
  obtain ⟨w100, h100, h⟩ := Option.bind_eq_some_iff.mp h
  refine rn_iast i220_100 h100 ?_
  refine rn_iinc (ls1 := [(4, .inl (w32 (x4 + 1))), (0, .inr (.inr a0)), (2, .inl x2), (3, .inl x3)]) i220_101 rfl rfl ?_
  refine rn_goto i220_104 ?_
  exact rn_sub [1, 2, 3, 0] rfl (hk71 a0 x2 x3 (w32 (x4 + 1)) w100 r h)
def Mo_plans_186 (k112 : Nat → Int → Int → Int → Wd → Option (Int × Wd)) (k120 : Nat → Int → Int → Int → Int → Wd → Option (Int × Wd)) (k134 : Nat → Int → Int → Int → Int → Int → Int → Wd → Option (Int × Wd)) (a0 : Nat) (x2 : Int) (x3 : Int) (x4 : Int) (x5 : Int) (x6 : Int) (x7 : Int) (w : Wd) : Option (Int × Wd) :=
  k134 a0 x2 x3 x4 x5 x6 (w32 (x7 + 1)) w
theorem s_Mo_plans_186 {g : Gp} {l : Launch} {D : Nat} (hD : 4 ≤ D) (k112 : Nat → Int → Int → Int → Wd → Option (Int × Wd)) (hk112 : ∀ (a0 : Nat) (x2 : Int) (x3 : Int) (x4 : Int) (w : Wd) (r : Int × Wd), k112 a0 x2 x3 x4 w = some r → Rn g l D 220 112 [(0, .inr (.inr a0)), (2, .inl x2), (3, .inl x3), (4, .inl x4)] [] w (some (.inl r.1)) r.2) (k120 : Nat → Int → Int → Int → Int → Wd → Option (Int × Wd)) (hk120 : ∀ (a0 : Nat) (x2 : Int) (x3 : Int) (x4 : Int) (x5 : Int) (w : Wd) (r : Int × Wd), k120 a0 x2 x3 x4 x5 w = some r → Rn g l D 220 120 [(0, .inr (.inr a0)), (2, .inl x2), (3, .inl x3), (4, .inl x4), (5, .inl x5)] [] w (some (.inl r.1)) r.2) (k134 : Nat → Int → Int → Int → Int → Int → Int → Wd → Option (Int × Wd)) (hk134 : ∀ (a0 : Nat) (x2 : Int) (x3 : Int) (x4 : Int) (x5 : Int) (x6 : Int) (x7 : Int) (w : Wd) (r : Int × Wd), k134 a0 x2 x3 x4 x5 x6 x7 w = some r → Rn g l D 220 134 [(0, .inr (.inr a0)), (2, .inl x2), (3, .inl x3), (4, .inl x4), (5, .inl x5), (6, .inl x6), (7, .inl x7)] [] w (some (.inl r.1)) r.2) (a0 : Nat) (x2 : Int) (x3 : Int) (x4 : Int) (x5 : Int) (x6 : Int) (x7 : Int) (w : Wd) (r : Int × Wd) (h : Mo_plans_186 k112 k120 k134 a0 x2 x3 x4 x5 x6 x7 w = some r) : Rn g l D 220 186 [(0, .inr (.inr a0)), (2, .inl x2), (3, .inl x3), (4, .inl x4), (5, .inl x5), (6, .inl x6), (7, .inl x7)] [] w (some (.inl r.1)) r.2 := by
  unfold Mo_plans_186 at h
  refine rn_iinc (ls1 := [(7, .inl (w32 (x7 + 1))), (0, .inr (.inr a0)), (2, .inl x2), (3, .inl x3), (4, .inl x4), (5, .inl x5), (6, .inl x6)]) i220_186 rfl rfl ?_
  refine rn_goto i220_189 ?_
  exact rn_sub [1, 2, 3, 4, 5, 6, 0] rfl (hk134 a0 x2 x3 x4 x5 x6 (w32 (x7 + 1)) w r h)
def Mo_plans_192 (k112 : Nat → Int → Int → Int → Wd → Option (Int × Wd)) (k120 : Nat → Int → Int → Int → Int → Wd → Option (Int × Wd)) (a0 : Nat) (x2 : Int) (x3 : Int) (x4 : Int) (x5 : Int) (x6 : Int) (w : Wd) : Option (Int × Wd) :=
  (fgR w a0 12 60).bind fun v193 =>
  (wrI w v193 (w32 ((w32 (13 * x4)) + x5)) x6).bind fun w206 =>
  k120 a0 x2 x3 x4 (w32 (x5 + 1)) w206
theorem s_Mo_plans_192 {g : Gp} {l : Launch} {D : Nat} (hD : 4 ≤ D) (k112 : Nat → Int → Int → Int → Wd → Option (Int × Wd)) (hk112 : ∀ (a0 : Nat) (x2 : Int) (x3 : Int) (x4 : Int) (w : Wd) (r : Int × Wd), k112 a0 x2 x3 x4 w = some r → Rn g l D 220 112 [(0, .inr (.inr a0)), (2, .inl x2), (3, .inl x3), (4, .inl x4)] [] w (some (.inl r.1)) r.2) (k120 : Nat → Int → Int → Int → Int → Wd → Option (Int × Wd)) (hk120 : ∀ (a0 : Nat) (x2 : Int) (x3 : Int) (x4 : Int) (x5 : Int) (w : Wd) (r : Int × Wd), k120 a0 x2 x3 x4 x5 w = some r → Rn g l D 220 120 [(0, .inr (.inr a0)), (2, .inl x2), (3, .inl x3), (4, .inl x4), (5, .inl x5)] [] w (some (.inl r.1)) r.2) (a0 : Nat) (x2 : Int) (x3 : Int) (x4 : Int) (x5 : Int) (x6 : Int) (w : Wd) (r : Int × Wd) (h : Mo_plans_192 k112 k120 a0 x2 x3 x4 x5 x6 w = some r) : Rn g l D 220 192 [(0, .inr (.inr a0)), (2, .inl x2), (3, .inl x3), (4, .inl x4), (5, .inl x5), (6, .inl x6)] [] w (some (.inl r.1)) r.2 := by
  unfold Mo_plans_192 at h
  refine fr_aload_n i220_192 rfl ?_
  obtain ⟨v193, h193, h⟩ := Option.bind_eq_some_iff.mp h
  refine fr_gR (k := 60) i220_193 tf12_60 h193 ?_
  refine rn_bipush i220_196 ?_
  refine rn_iload i220_198 rfl ?_
  refine rn_imul i220_200 ?_
  refine rn_iload i220_201 rfl ?_
  refine rn_iadd i220_203 ?_
  refine rn_iload i220_204 rfl ?_
  obtain ⟨w206, h206, h⟩ := Option.bind_eq_some_iff.mp h
  refine rn_iast i220_206 h206 ?_
  refine rn_iinc (ls1 := [(5, .inl (w32 (x5 + 1))), (0, .inr (.inr a0)), (2, .inl x2), (3, .inl x3), (4, .inl x4), (6, .inl x6)]) i220_207 rfl rfl ?_
  refine rn_goto i220_210 ?_
  exact rn_sub [1, 2, 3, 4, 0] rfl (hk120 a0 x2 x3 x4 (w32 (x5 + 1)) w206 r h)
def Mo_plans_134 (k112 : Nat → Int → Int → Int → Wd → Option (Int × Wd)) (k120 : Nat → Int → Int → Int → Int → Wd → Option (Int × Wd)) : Nat → Nat → Int → Int → Int → Int → Int → Int → Wd → Option (Int × Wd)
  | 0, _, _, _, _, _, _, _, _ => none
  | n + 1, a0, x2, x3, x4, x5, x6, x7, w =>
    if (x5 : Int) < x7 then
      Mo_plans_192 k112 k120 a0 x2 x3 x4 x5 x6 w
    else
      (fgR w a0 12 62).bind fun v142 =>
      (rdI w v142 (w32 ((w32 (13 * x4)) + x7))).bind fun v153 =>
      (fgR w a0 12 60).bind fun v155 =>
      (rdI w v155 (w32 ((w32 ((w32 (13 * (w32 (x4 + 1)))) + x5)) - x7))).bind fun v171 =>
      if (x6 : Int) ≤ (w32 (v153 + v171)) then
        Mo_plans_186 k112 k120 (Mo_plans_134 k112 k120 n) a0 x2 x3 x4 x5 x6 x7 w
      else
        Mo_plans_186 k112 k120 (Mo_plans_134 k112 k120 n) a0 x2 x3 x4 x5 (w32 (v153 + v171)) x7 w
theorem s_Mo_plans_134 {g : Gp} {l : Launch} {D : Nat} (hD : 4 ≤ D) (k112 : Nat → Int → Int → Int → Wd → Option (Int × Wd)) (hk112 : ∀ (a0 : Nat) (x2 : Int) (x3 : Int) (x4 : Int) (w : Wd) (r : Int × Wd), k112 a0 x2 x3 x4 w = some r → Rn g l D 220 112 [(0, .inr (.inr a0)), (2, .inl x2), (3, .inl x3), (4, .inl x4)] [] w (some (.inl r.1)) r.2) (k120 : Nat → Int → Int → Int → Int → Wd → Option (Int × Wd)) (hk120 : ∀ (a0 : Nat) (x2 : Int) (x3 : Int) (x4 : Int) (x5 : Int) (w : Wd) (r : Int × Wd), k120 a0 x2 x3 x4 x5 w = some r → Rn g l D 220 120 [(0, .inr (.inr a0)), (2, .inl x2), (3, .inl x3), (4, .inl x4), (5, .inl x5)] [] w (some (.inl r.1)) r.2) : ∀ (n : Nat) (a0 : Nat) (x2 : Int) (x3 : Int) (x4 : Int) (x5 : Int) (x6 : Int) (x7 : Int) (w : Wd) (r : Int × Wd), Mo_plans_134 k112 k120 n a0 x2 x3 x4 x5 x6 x7 w = some r → Rn g l D 220 134 [(0, .inr (.inr a0)), (2, .inl x2), (3, .inl x3), (4, .inl x4), (5, .inl x5), (6, .inl x6), (7, .inl x7)] [] w (some (.inl r.1)) r.2 := by
  intro n
  induction n with
  | zero => intro a0 x2 x3 x4 x5 x6 x7 w r h; cases (show (none : Option (Int × Wd)) = some r from h)
  | succ n ih =>
    intro a0 x2 x3 x4 x5 x6 x7 w r h
    unfold Mo_plans_134 at h
    refine rn_iload i220_134 rfl ?_
    refine rn_iload i220_136 rfl ?_
    by_cases c138 : (x5 : Int) < x7
    · rw [if_pos c138] at h
      refine rn_icmp_gt_t i220_138 c138 ?_
      exact rn_sub [0, 1, 2, 3, 4, 5] rfl (s_Mo_plans_192 hD k112 hk112 k120 hk120 a0 x2 x3 x4 x5 x6 w r h)
    · rw [if_neg c138] at h
      refine rn_icmp_gt_f i220_138 c138 ?_
      refine fr_aload_n i220_141 rfl ?_
      obtain ⟨v142, h142, h⟩ := Option.bind_eq_some_iff.mp h
      refine fr_gR (k := 62) i220_142 tf12_62 h142 ?_
      refine rn_bipush i220_145 ?_
      refine rn_iload i220_147 rfl ?_
      refine rn_imul i220_149 ?_
      refine rn_iload i220_150 rfl ?_
      refine rn_iadd i220_152 ?_
      obtain ⟨v153, h153, h⟩ := Option.bind_eq_some_iff.mp h
      refine rn_iald i220_153 h153 ?_
      refine fr_aload_n i220_154 rfl ?_
      obtain ⟨v155, h155, h⟩ := Option.bind_eq_some_iff.mp h
      refine fr_gR (k := 60) i220_155 tf12_60 h155 ?_
      refine rn_bipush i220_158 ?_
      refine rn_iload i220_160 rfl ?_
      refine rn_iconst i220_162 ?_
      refine rn_iadd i220_163 ?_
      refine rn_imul i220_164 ?_
      refine rn_iload i220_165 rfl ?_
      refine rn_iadd i220_167 ?_
      refine rn_iload i220_168 rfl ?_
      refine rn_isub i220_170 ?_
      obtain ⟨v171, h171, h⟩ := Option.bind_eq_some_iff.mp h
      refine rn_iald i220_171 h171 ?_
      refine rn_iadd i220_172 ?_
      refine rn_istore (ls1 := [(8, .inl (w32 (v153 + v171))), (0, .inr (.inr a0)), (2, .inl x2), (3, .inl x3), (4, .inl x4), (5, .inl x5), (6, .inl x6), (7, .inl x7)]) i220_173 rfl ?_
      refine rn_iload i220_175 rfl ?_
      refine rn_iload i220_177 rfl ?_
      by_cases c179 : (x6 : Int) ≤ (w32 (v153 + v171))
      · rw [if_pos c179] at h
        refine rn_icmp_ge_t i220_179 c179 ?_
        exact rn_sub [1, 2, 3, 4, 5, 6, 7] rfl (s_Mo_plans_186 hD k112 hk112 k120 hk120 (Mo_plans_134 k112 k120 n) ih a0 x2 x3 x4 x5 x6 x7 w r h)
      · rw [if_neg c179] at h
        refine rn_icmp_ge_f i220_179 c179 ?_
        refine rn_iload i220_182 rfl ?_
        refine rn_istore (ls1 := [(6, .inl (w32 (v153 + v171))), (8, .inl (w32 (v153 + v171))), (0, .inr (.inr a0)), (2, .inl x2), (3, .inl x3), (4, .inl x4), (5, .inl x5), (7, .inl x7)]) i220_184 rfl ?_
        exact rn_sub [2, 3, 4, 5, 6, 0, 7] rfl (s_Mo_plans_186 hD k112 hk112 k120 hk120 (Mo_plans_134 k112 k120 n) ih a0 x2 x3 x4 x5 (w32 (v153 + v171)) x7 w r h)
def Mo_plans_213 (k112 : Nat → Int → Int → Int → Wd → Option (Int × Wd)) (a0 : Nat) (x2 : Int) (x3 : Int) (x4 : Int) (w : Wd) : Option (Int × Wd) :=
  k112 a0 x2 x3 (w32 (x4 + (-1))) w
theorem s_Mo_plans_213 {g : Gp} {l : Launch} {D : Nat} (hD : 4 ≤ D) (k112 : Nat → Int → Int → Int → Wd → Option (Int × Wd)) (hk112 : ∀ (a0 : Nat) (x2 : Int) (x3 : Int) (x4 : Int) (w : Wd) (r : Int × Wd), k112 a0 x2 x3 x4 w = some r → Rn g l D 220 112 [(0, .inr (.inr a0)), (2, .inl x2), (3, .inl x3), (4, .inl x4)] [] w (some (.inl r.1)) r.2) (a0 : Nat) (x2 : Int) (x3 : Int) (x4 : Int) (w : Wd) (r : Int × Wd) (h : Mo_plans_213 k112 a0 x2 x3 x4 w = some r) : Rn g l D 220 213 [(0, .inr (.inr a0)), (2, .inl x2), (3, .inl x3), (4, .inl x4)] [] w (some (.inl r.1)) r.2 := by
  unfold Mo_plans_213 at h
  refine rn_iinc (ls1 := [(4, .inl (w32 (x4 + (-1)))), (0, .inr (.inr a0)), (2, .inl x2), (3, .inl x3)]) i220_213 rfl rfl ?_
  refine rn_goto i220_216 ?_
  exact rn_sub [1, 2, 3, 0] rfl (hk112 a0 x2 x3 (w32 (x4 + (-1))) w r h)
def Mo_plans_120 (k112 : Nat → Int → Int → Int → Wd → Option (Int × Wd)) : Nat → Nat → Int → Int → Int → Int → Wd → Option (Int × Wd)
  | 0, _, _, _, _, _, _ => none
  | n + 1, a0, x2, x3, x4, x5, w =>
    if (x2 : Int) < x5 then
      Mo_plans_213 k112 a0 x2 x3 x4 w
    else
      Mo_plans_134 k112 (Mo_plans_120 k112 n) FU a0 x2 x3 x4 x5 1000000 0 w
theorem s_Mo_plans_120 {g : Gp} {l : Launch} {D : Nat} (hD : 4 ≤ D) (k112 : Nat → Int → Int → Int → Wd → Option (Int × Wd)) (hk112 : ∀ (a0 : Nat) (x2 : Int) (x3 : Int) (x4 : Int) (w : Wd) (r : Int × Wd), k112 a0 x2 x3 x4 w = some r → Rn g l D 220 112 [(0, .inr (.inr a0)), (2, .inl x2), (3, .inl x3), (4, .inl x4)] [] w (some (.inl r.1)) r.2) : ∀ (n : Nat) (a0 : Nat) (x2 : Int) (x3 : Int) (x4 : Int) (x5 : Int) (w : Wd) (r : Int × Wd), Mo_plans_120 k112 n a0 x2 x3 x4 x5 w = some r → Rn g l D 220 120 [(0, .inr (.inr a0)), (2, .inl x2), (3, .inl x3), (4, .inl x4), (5, .inl x5)] [] w (some (.inl r.1)) r.2 := by
  intro n
  induction n with
  | zero => intro a0 x2 x3 x4 x5 w r h; cases (show (none : Option (Int × Wd)) = some r from h)
  | succ n ih =>
    intro a0 x2 x3 x4 x5 w r h
    unfold Mo_plans_120 at h
    refine rn_iload i220_120 rfl ?_
    refine rn_iload_n i220_122 rfl ?_
    by_cases c123 : (x2 : Int) < x5
    · rw [if_pos c123] at h
      refine rn_icmp_gt_t i220_123 c123 ?_
      exact rn_sub [0, 1, 2, 3] rfl (s_Mo_plans_213 hD k112 hk112 a0 x2 x3 x4 w r h)
    · rw [if_neg c123] at h
      refine rn_icmp_gt_f i220_123 c123 ?_
      refine rn_ldcw i220_126 lw220_126 ⟨by decide, by decide⟩ ?_
      refine rn_istore (ls1 := [(6, .inl 1000000), (0, .inr (.inr a0)), (2, .inl x2), (3, .inl x3), (4, .inl x4), (5, .inl x5)]) i220_129 rfl ?_
      refine rn_iconst i220_131 ?_
      refine rn_istore (ls1 := [(7, .inl 0), (6, .inl 1000000), (0, .inr (.inr a0)), (2, .inl x2), (3, .inl x3), (4, .inl x4), (5, .inl x5)]) i220_132 rfl ?_
      exact rn_sub [2, 3, 4, 5, 6, 1, 0] rfl (s_Mo_plans_134 hD k112 hk112 (Mo_plans_120 k112 n) ih FU a0 x2 x3 x4 x5 1000000 0 w r h)
def Mo_plans_289 (k225 : Nat → Int → Int → Int → Int → Wd → Option (Int × Wd)) (a0 : Nat) (x2 : Int) (x3 : Int) (x4 : Int) (x5 : Int) (x6 : Int) (w : Wd) : Option (Int × Wd) :=
  (fgR w a0 12 61).bind fun v290 =>
  (wrI w v290 x5 x6).bind fun w297 =>
  k225 a0 x2 x3 (w32 (x4 - x6)) (w32 (x5 + 1)) w297
theorem s_Mo_plans_289 {g : Gp} {l : Launch} {D : Nat} (hD : 4 ≤ D) (k225 : Nat → Int → Int → Int → Int → Wd → Option (Int × Wd)) (hk225 : ∀ (a0 : Nat) (x2 : Int) (x3 : Int) (x4 : Int) (x5 : Int) (w : Wd) (r : Int × Wd), k225 a0 x2 x3 x4 x5 w = some r → Rn g l D 220 225 [(0, .inr (.inr a0)), (2, .inl x2), (3, .inl x3), (4, .inl x4), (5, .inl x5)] [] w (some (.inl r.1)) r.2) (a0 : Nat) (x2 : Int) (x3 : Int) (x4 : Int) (x5 : Int) (x6 : Int) (w : Wd) (r : Int × Wd) (h : Mo_plans_289 k225 a0 x2 x3 x4 x5 x6 w = some r) : Rn g l D 220 289 [(0, .inr (.inr a0)), (2, .inl x2), (3, .inl x3), (4, .inl x4), (5, .inl x5), (6, .inl x6)] [] w (some (.inl r.1)) r.2 := by
  unfold Mo_plans_289 at h
  refine fr_aload_n i220_289 rfl ?_
  obtain ⟨v290, h290, h⟩ := Option.bind_eq_some_iff.mp h
  refine fr_gR (k := 61) i220_290 tf12_61 h290 ?_
  refine rn_iload i220_293 rfl ?_
  refine rn_iload i220_295 rfl ?_
  obtain ⟨w297, h297, h⟩ := Option.bind_eq_some_iff.mp h
  refine rn_iast i220_297 h297 ?_
  refine rn_iload i220_298 rfl ?_
  refine rn_iload i220_300 rfl ?_
  refine rn_isub i220_302 ?_
  refine rn_istore (ls1 := [(4, .inl (w32 (x4 - x6))), (0, .inr (.inr a0)), (2, .inl x2), (3, .inl x3), (5, .inl x5), (6, .inl x6)]) i220_303 rfl ?_
  refine rn_iinc (ls1 := [(5, .inl (w32 (x5 + 1))), (4, .inl (w32 (x4 - x6))), (0, .inr (.inr a0)), (2, .inl x2), (3, .inl x3), (6, .inl x6)]) i220_305 rfl rfl ?_
  refine rn_goto i220_308 ?_
  exact rn_sub [2, 3, 4, 1, 0] rfl (hk225 a0 x2 x3 (w32 (x4 - x6)) (w32 (x5 + 1)) w297 r h)
def Mo_plans_235 (k225 : Nat → Int → Int → Int → Int → Wd → Option (Int × Wd)) : Nat → Nat → Int → Int → Int → Int → Int → Wd → Option (Int × Wd)
  | 0, _, _, _, _, _, _, _ => none
  | n + 1, a0, x2, x3, x4, x5, x6, w =>
    (fgR w a0 12 62).bind fun v236 =>
    (rdI w v236 (w32 ((w32 (13 * x5)) + x6))).bind fun v247 =>
    (fgR w a0 12 60).bind fun v249 =>
    (rdI w v249 (w32 ((w32 ((w32 (13 * (w32 (x5 + 1)))) + x4)) - x6))).bind fun v265 =>
    (fgR w a0 12 60).bind fun v268 =>
    (rdI w v268 (w32 ((w32 (13 * x5)) + x4))).bind fun v279 =>
    if ((w32 (v247 + v265)) : Int) = v279 then
      Mo_plans_289 k225 a0 x2 x3 x4 x5 x6 w
    else
      Mo_plans_235 k225 n a0 x2 x3 x4 x5 (w32 (x6 + (-1))) w
theorem s_Mo_plans_235 {g : Gp} {l : Launch} {D : Nat} (hD : 4 ≤ D) (k225 : Nat → Int → Int → Int → Int → Wd → Option (Int × Wd)) (hk225 : ∀ (a0 : Nat) (x2 : Int) (x3 : Int) (x4 : Int) (x5 : Int) (w : Wd) (r : Int × Wd), k225 a0 x2 x3 x4 x5 w = some r → Rn g l D 220 225 [(0, .inr (.inr a0)), (2, .inl x2), (3, .inl x3), (4, .inl x4), (5, .inl x5)] [] w (some (.inl r.1)) r.2) : ∀ (n : Nat) (a0 : Nat) (x2 : Int) (x3 : Int) (x4 : Int) (x5 : Int) (x6 : Int) (w : Wd) (r : Int × Wd), Mo_plans_235 k225 n a0 x2 x3 x4 x5 x6 w = some r → Rn g l D 220 235 [(0, .inr (.inr a0)), (2, .inl x2), (3, .inl x3), (4, .inl x4), (5, .inl x5), (6, .inl x6)] [] w (some (.inl r.1)) r.2 := by
  intro n
  induction n with
  | zero => intro a0 x2 x3 x4 x5 x6 w r h; cases (show (none : Option (Int × Wd)) = some r from h)
  | succ n ih =>
    intro a0 x2 x3 x4 x5 x6 w r h
    unfold Mo_plans_235 at h
    refine fr_aload_n i220_235 rfl ?_
    obtain ⟨v236, h236, h⟩ := Option.bind_eq_some_iff.mp h
    refine fr_gR (k := 62) i220_236 tf12_62 h236 ?_
    refine rn_bipush i220_239 ?_
    refine rn_iload i220_241 rfl ?_
    refine rn_imul i220_243 ?_
    refine rn_iload i220_244 rfl ?_
    refine rn_iadd i220_246 ?_
    obtain ⟨v247, h247, h⟩ := Option.bind_eq_some_iff.mp h
    refine rn_iald i220_247 h247 ?_
    refine fr_aload_n i220_248 rfl ?_
    obtain ⟨v249, h249, h⟩ := Option.bind_eq_some_iff.mp h
    refine fr_gR (k := 60) i220_249 tf12_60 h249 ?_
    refine rn_bipush i220_252 ?_
    refine rn_iload i220_254 rfl ?_
    refine rn_iconst i220_256 ?_
    refine rn_iadd i220_257 ?_
    refine rn_imul i220_258 ?_
    refine rn_iload i220_259 rfl ?_
    refine rn_iadd i220_261 ?_
    refine rn_iload i220_262 rfl ?_
    refine rn_isub i220_264 ?_
    obtain ⟨v265, h265, h⟩ := Option.bind_eq_some_iff.mp h
    refine rn_iald i220_265 h265 ?_
    refine rn_iadd i220_266 ?_
    refine fr_aload_n i220_267 rfl ?_
    obtain ⟨v268, h268, h⟩ := Option.bind_eq_some_iff.mp h
    refine fr_gR (k := 60) i220_268 tf12_60 h268 ?_
    refine rn_bipush i220_271 ?_
    refine rn_iload i220_273 rfl ?_
    refine rn_imul i220_275 ?_
    refine rn_iload i220_276 rfl ?_
    refine rn_iadd i220_278 ?_
    obtain ⟨v279, h279, h⟩ := Option.bind_eq_some_iff.mp h
    refine rn_iald i220_279 h279 ?_
    by_cases c280 : ((w32 (v247 + v265)) : Int) = v279
    · rw [if_pos c280] at h
      refine rn_icmp_eq_t i220_280 c280 ?_
      exact rn_sub [0, 1, 2, 3, 4, 5] rfl (s_Mo_plans_289 hD k225 hk225 a0 x2 x3 x4 x5 x6 w r h)
    · rw [if_neg c280] at h
      refine rn_icmp_eq_f i220_280 c280 ?_
      refine rn_iinc (ls1 := [(6, .inl (w32 (x6 + (-1)))), (0, .inr (.inr a0)), (2, .inl x2), (3, .inl x3), (4, .inl x4), (5, .inl x5)]) i220_283 rfl rfl ?_
      refine rn_goto i220_286 ?_
      exact rn_sub [1, 2, 3, 4, 5, 0] rfl (ih a0 x2 x3 x4 x5 (w32 (x6 + (-1))) w r h)
def Mo_plans_311 (a0 : Nat) (x2 : Int) (w : Wd) : Option (Int × Wd) :=
  (fgR w a0 12 60).bind fun v312 =>
  (rdI w v312 x2).bind fun v316 =>
  some (v316, w)
theorem s_Mo_plans_311 {g : Gp} {l : Launch} {D : Nat} (hD : 4 ≤ D) (a0 : Nat) (x2 : Int) (w : Wd) (r : Int × Wd) (h : Mo_plans_311 a0 x2 w = some r) : Rn g l D 220 311 [(0, .inr (.inr a0)), (2, .inl x2)] [] w (some (.inl r.1)) r.2 := by
  unfold Mo_plans_311 at h
  refine fr_aload_n i220_311 rfl ?_
  obtain ⟨v312, h312, h⟩ := Option.bind_eq_some_iff.mp h
  refine fr_gR (k := 60) i220_312 tf12_60 h312 ?_
  refine rn_iload_n i220_315 rfl ?_
  obtain ⟨v316, h316, h⟩ := Option.bind_eq_some_iff.mp h
  refine rn_iald i220_316 h316 ?_
  obtain rfl := Option.some.inj h
  exact rn_retI i220_317 mr220
def Mo_plans_225 : Nat → Nat → Int → Int → Int → Int → Wd → Option (Int × Wd)
  | 0, _, _, _, _, _, _ => none
  | n + 1, a0, x2, x3, x4, x5, w =>
    if (x3 : Int) ≤ x5 then
      Mo_plans_311 a0 x2 w
    else
      Mo_plans_235 (Mo_plans_225 n) FU a0 x2 x3 x4 x5 x4 w
theorem s_Mo_plans_225 {g : Gp} {l : Launch} {D : Nat} (hD : 4 ≤ D) : ∀ (n : Nat) (a0 : Nat) (x2 : Int) (x3 : Int) (x4 : Int) (x5 : Int) (w : Wd) (r : Int × Wd), Mo_plans_225 n a0 x2 x3 x4 x5 w = some r → Rn g l D 220 225 [(0, .inr (.inr a0)), (2, .inl x2), (3, .inl x3), (4, .inl x4), (5, .inl x5)] [] w (some (.inl r.1)) r.2 := by
  intro n
  induction n with
  | zero => intro a0 x2 x3 x4 x5 w r h; cases (show (none : Option (Int × Wd)) = some r from h)
  | succ n ih =>
    intro a0 x2 x3 x4 x5 w r h
    unfold Mo_plans_225 at h
    refine rn_iload i220_225 rfl ?_
    refine rn_iload_n i220_227 rfl ?_
    by_cases c228 : (x3 : Int) ≤ x5
    · rw [if_pos c228] at h
      refine rn_icmp_ge_t i220_228 c228 ?_
      exact rn_sub [0, 1] rfl (s_Mo_plans_311 hD a0 x2 w r h)
    · rw [if_neg c228] at h
      refine rn_icmp_ge_f i220_228 c228 ?_
      refine rn_iload i220_231 rfl ?_
      refine rn_istore (ls1 := [(6, .inl x4), (0, .inr (.inr a0)), (2, .inl x2), (3, .inl x3), (4, .inl x4), (5, .inl x5)]) i220_233 rfl ?_
      exact rn_sub [1, 2, 3, 4, 5, 0] rfl (s_Mo_plans_235 hD (Mo_plans_225 n) ih FU a0 x2 x3 x4 x5 x4 w r h)
def Mo_plans_219 (a0 : Nat) (x2 : Int) (x3 : Int) (w : Wd) : Option (Int × Wd) :=
  Mo_plans_225 FU a0 x2 x3 x2 0 w
theorem s_Mo_plans_219 {g : Gp} {l : Launch} {D : Nat} (hD : 4 ≤ D) (a0 : Nat) (x2 : Int) (x3 : Int) (w : Wd) (r : Int × Wd) (h : Mo_plans_219 a0 x2 x3 w = some r) : Rn g l D 220 219 [(0, .inr (.inr a0)), (2, .inl x2), (3, .inl x3)] [] w (some (.inl r.1)) r.2 := by
  unfold Mo_plans_219 at h
  refine rn_iload_n i220_219 rfl ?_
  refine rn_istore (ls1 := [(4, .inl x2), (0, .inr (.inr a0)), (2, .inl x2), (3, .inl x3)]) i220_220 rfl ?_
  refine rn_iconst i220_222 ?_
  refine rn_istore (ls1 := [(5, .inl 0), (4, .inl x2), (0, .inr (.inr a0)), (2, .inl x2), (3, .inl x3)]) i220_223 rfl ?_
  exact rn_sub [2, 3, 4, 1, 0] rfl (s_Mo_plans_225 hD FU a0 x2 x3 x2 0 w r h)
def Mo_plans_112 : Nat → Nat → Int → Int → Int → Wd → Option (Int × Wd)
  | 0, _, _, _, _, _ => none
  | n + 1, a0, x2, x3, x4, w =>
    if (x4 : Int) < 0 then
      Mo_plans_219 a0 x2 x3 w
    else
      Mo_plans_120 (Mo_plans_112 n) FU a0 x2 x3 x4 0 w
theorem s_Mo_plans_112 {g : Gp} {l : Launch} {D : Nat} (hD : 4 ≤ D) : ∀ (n : Nat) (a0 : Nat) (x2 : Int) (x3 : Int) (x4 : Int) (w : Wd) (r : Int × Wd), Mo_plans_112 n a0 x2 x3 x4 w = some r → Rn g l D 220 112 [(0, .inr (.inr a0)), (2, .inl x2), (3, .inl x3), (4, .inl x4)] [] w (some (.inl r.1)) r.2 := by
  intro n
  induction n with
  | zero => intro a0 x2 x3 x4 w r h; cases (show (none : Option (Int × Wd)) = some r from h)
  | succ n ih =>
    intro a0 x2 x3 x4 w r h
    unfold Mo_plans_112 at h
    refine rn_iload i220_112 rfl ?_
    by_cases c114 : (x4 : Int) < 0
    · rw [if_pos c114] at h
      refine rn_if_lt_t i220_114 c114 ?_
      exact rn_sub [0, 1, 2] rfl (s_Mo_plans_219 hD a0 x2 x3 w r h)
    · rw [if_neg c114] at h
      refine rn_if_lt_f i220_114 c114 ?_
      refine rn_iconst i220_117 ?_
      refine rn_istore (ls1 := [(5, .inl 0), (0, .inr (.inr a0)), (2, .inl x2), (3, .inl x3), (4, .inl x4)]) i220_118 rfl ?_
      exact rn_sub [1, 2, 3, 4, 0] rfl (s_Mo_plans_120 hD (Mo_plans_112 n) ih FU a0 x2 x3 x4 0 w r h)
def Mo_plans_107 (a0 : Nat) (x2 : Int) (x3 : Int) (w : Wd) : Option (Int × Wd) :=
  Mo_plans_112 FU a0 x2 x3 (w32 (x3 - 1)) w
theorem s_Mo_plans_107 {g : Gp} {l : Launch} {D : Nat} (hD : 4 ≤ D) (a0 : Nat) (x2 : Int) (x3 : Int) (w : Wd) (r : Int × Wd) (h : Mo_plans_107 a0 x2 x3 w = some r) : Rn g l D 220 107 [(0, .inr (.inr a0)), (2, .inl x2), (3, .inl x3)] [] w (some (.inl r.1)) r.2 := by
  unfold Mo_plans_107 at h
  refine rn_iload_n i220_107 rfl ?_
  refine rn_iconst i220_108 ?_
  refine rn_isub i220_109 ?_
  refine rn_istore (ls1 := [(4, .inl (w32 (x3 - 1))), (0, .inr (.inr a0)), (2, .inl x2), (3, .inl x3)]) i220_110 rfl ?_
  exact rn_sub [1, 2, 3, 0] rfl (s_Mo_plans_112 hD FU a0 x2 x3 (w32 (x3 - 1)) w r h)
def Mo_plans_71 : Nat → Nat → Int → Int → Int → Wd → Option (Int × Wd)
  | 0, _, _, _, _, _ => none
  | n + 1, a0, x2, x3, x4, w =>
    if (x2 : Int) < x4 then
      Mo_plans_107 a0 x2 x3 w
    else
      (fgR w a0 12 60).bind fun v78 =>
      if (x4 : Int) = 0 then
        Mo_plans_100 (Mo_plans_71 n) a0 x2 x3 x4 0 (w32 ((w32 (13 * x3)) + x4)) v78 w
      else
        Mo_plans_100 (Mo_plans_71 n) a0 x2 x3 x4 1000000 (w32 ((w32 (13 * x3)) + x4)) v78 w
theorem s_Mo_plans_71 {g : Gp} {l : Launch} {D : Nat} (hD : 4 ≤ D) : ∀ (n : Nat) (a0 : Nat) (x2 : Int) (x3 : Int) (x4 : Int) (w : Wd) (r : Int × Wd), Mo_plans_71 n a0 x2 x3 x4 w = some r → Rn g l D 220 71 [(0, .inr (.inr a0)), (2, .inl x2), (3, .inl x3), (4, .inl x4)] [] w (some (.inl r.1)) r.2 := by
  intro n
  induction n with
  | zero => intro a0 x2 x3 x4 w r h; cases (show (none : Option (Int × Wd)) = some r from h)
  | succ n ih =>
    intro a0 x2 x3 x4 w r h
    unfold Mo_plans_71 at h
    refine rn_iload i220_71 rfl ?_
    refine rn_iload_n i220_73 rfl ?_
    by_cases c74 : (x2 : Int) < x4
    · rw [if_pos c74] at h
      refine rn_icmp_gt_t i220_74 c74 ?_
      exact rn_sub [0, 1, 2] rfl (s_Mo_plans_107 hD a0 x2 x3 w r h)
    · rw [if_neg c74] at h
      refine rn_icmp_gt_f i220_74 c74 ?_
      refine fr_aload_n i220_77 rfl ?_
      obtain ⟨v78, h78, h⟩ := Option.bind_eq_some_iff.mp h
      refine fr_gR (k := 60) i220_78 tf12_60 h78 ?_
      refine rn_bipush i220_81 ?_
      refine rn_iload_n i220_83 rfl ?_
      refine rn_imul i220_84 ?_
      refine rn_iload i220_85 rfl ?_
      refine rn_iadd i220_87 ?_
      refine rn_iload i220_88 rfl ?_
      by_cases c90 : (x4 : Int) = 0
      · rw [if_pos c90] at h
        refine rn_if_ne_f i220_90 c90 ?_
        refine rn_iconst i220_93 ?_
        refine rn_goto i220_94 ?_
        exact rn_sub [0, 1, 2, 3] rfl (s_Mo_plans_100 hD (Mo_plans_71 n) ih a0 x2 x3 x4 0 (w32 ((w32 (13 * x3)) + x4)) v78 w r h)
      · rw [if_neg c90] at h
        refine rn_if_ne_t i220_90 c90 ?_
        refine rn_ldcw i220_97 lw220_97 ⟨by decide, by decide⟩ ?_
        exact rn_sub [0, 1, 2, 3] rfl (s_Mo_plans_100 hD (Mo_plans_71 n) ih a0 x2 x3 x4 1000000 (w32 ((w32 (13 * x3)) + x4)) v78 w r h)
def Mo_plans_68 (a0 : Nat) (x2 : Int) (x3 : Int) (w : Wd) : Option (Int × Wd) :=
  Mo_plans_71 FU a0 x2 x3 0 w
theorem s_Mo_plans_68 {g : Gp} {l : Launch} {D : Nat} (hD : 4 ≤ D) (a0 : Nat) (x2 : Int) (x3 : Int) (w : Wd) (r : Int × Wd) (h : Mo_plans_68 a0 x2 x3 w = some r) : Rn g l D 220 68 [(0, .inr (.inr a0)), (2, .inl x2), (3, .inl x3)] [] w (some (.inl r.1)) r.2 := by
  unfold Mo_plans_68 at h
  refine rn_iconst i220_68 ?_
  refine rn_istore (ls1 := [(4, .inl 0), (0, .inr (.inr a0)), (2, .inl x2), (3, .inl x3)]) i220_69 rfl ?_
  exact rn_sub [1, 2, 3, 0] rfl (s_Mo_plans_71 hD FU a0 x2 x3 0 w r h)
def Mo_plans_19 : Nat → Nat → Int → Int → Int → Int → Wd → Option (Int × Wd)
  | 0, _, _, _, _, _, _ => none
  | n + 1, a0, x1, x2, x3, x4, w =>
    if (x3 : Int) ≤ x4 then
      Mo_plans_68 a0 x2 x3 w
    else
      Mo_plans_28 (Mo_plans_19 n) FU a0 x1 x2 x3 x4 0 w
theorem s_Mo_plans_19 {g : Gp} {l : Launch} {D : Nat} (hD : 4 ≤ D) : ∀ (n : Nat) (a0 : Nat) (x1 : Int) (x2 : Int) (x3 : Int) (x4 : Int) (w : Wd) (r : Int × Wd), Mo_plans_19 n a0 x1 x2 x3 x4 w = some r → Rn g l D 220 19 [(0, .inr (.inr a0)), (1, .inl x1), (2, .inl x2), (3, .inl x3), (4, .inl x4)] [] w (some (.inl r.1)) r.2 := by
  intro n
  induction n with
  | zero => intro a0 x1 x2 x3 x4 w r h; cases (show (none : Option (Int × Wd)) = some r from h)
  | succ n ih =>
    intro a0 x1 x2 x3 x4 w r h
    unfold Mo_plans_19 at h
    refine rn_iload i220_19 rfl ?_
    refine rn_iload_n i220_21 rfl ?_
    by_cases c22 : (x3 : Int) ≤ x4
    · rw [if_pos c22] at h
      refine rn_icmp_ge_t i220_22 c22 ?_
      exact rn_sub [0, 2, 3] rfl (s_Mo_plans_68 hD a0 x2 x3 w r h)
    · rw [if_neg c22] at h
      refine rn_icmp_ge_f i220_22 c22 ?_
      refine rn_iconst i220_25 ?_
      refine rn_istore (ls1 := [(5, .inl 0), (0, .inr (.inr a0)), (1, .inl x1), (2, .inl x2), (3, .inl x3), (4, .inl x4)]) i220_26 rfl ?_
      exact rn_sub [1, 2, 3, 4, 5, 0] rfl (s_Mo_plans_28 hD (Mo_plans_19 n) ih FU a0 x1 x2 x3 x4 0 w r h)
def Mo_plans_0 (a0 : Nat) (x1 : Int) (x2 : Int) (w : Wd) : Option (Int × Wd) :=
  (fgR w a0 12 23).bind fun v1 =>
  (fgI w a0 12 18).bind fun v5 =>
  (rdI w v1 v5).bind fun v8 =>
  if (v8 : Int) = 0 then
    some (0, w)
  else
    Mo_plans_19 FU a0 x1 x2 v8 0 w
theorem s_Mo_plans_0 {g : Gp} {l : Launch} {D : Nat} (hD : 4 ≤ D) (a0 : Nat) (x1 : Int) (x2 : Int) (w : Wd) (r : Int × Wd) (h : Mo_plans_0 a0 x1 x2 w = some r) : Rn g l D 220 0 [(0, .inr (.inr a0)), (1, .inl x1), (2, .inl x2)] [] w (some (.inl r.1)) r.2 := by
  unfold Mo_plans_0 at h
  refine fr_aload_n i220_0 rfl ?_
  obtain ⟨v1, h1, h⟩ := Option.bind_eq_some_iff.mp h
  refine fr_gR (k := 23) i220_1 tf12_23 h1 ?_
  refine fr_aload_n i220_4 rfl ?_
  obtain ⟨v5, h5, h⟩ := Option.bind_eq_some_iff.mp h
  refine fr_gI (k := 18) i220_5 tf12_18 h5 ?_
  obtain ⟨v8, h8, h⟩ := Option.bind_eq_some_iff.mp h
  refine rn_iald i220_8 h8 ?_
  refine rn_istore_n (ls1 := [(3, .inl v8), (0, .inr (.inr a0)), (1, .inl x1), (2, .inl x2)]) i220_9 rfl ?_
  refine rn_iload_n i220_10 rfl ?_
  by_cases c11 : (v8 : Int) = 0
  · rw [if_pos c11] at h
    refine rn_if_ne_f i220_11 c11 ?_
    refine rn_iconst i220_14 ?_
    obtain rfl := Option.some.inj h
    exact rn_retI i220_15 mr220
  · rw [if_neg c11] at h
    refine rn_if_ne_t i220_11 c11 ?_
    refine rn_iconst i220_16 ?_
    refine rn_istore (ls1 := [(4, .inl 0), (3, .inl v8), (0, .inr (.inr a0)), (1, .inl x1), (2, .inl x2)]) i220_17 rfl ?_
    exact rn_sub [2, 3, 4, 1, 0] rfl (s_Mo_plans_19 hD FU a0 x1 x2 v8 0 w r h)
/-- HandHeirsModel.plans(II)I -/
def Mo_plans (a0 : Nat) (x1 : Int) (x2 : Int) (w : Wd) : Option (Int × Wd) := gd 12 w a0 (Mo_plans_0 a0 x1 x2 w)
theorem S_Mo_plans {g : Gp} {l : Launch} (a0 : Nat) (x1 : Int) (x2 : Int) (w : Wd) (r : Int × Wd) (h : Mo_plans a0 x1 x2 w = some r) : (wsh w a0).1 = 12 ∧ ∀ D, 4 ≤ D → Rn g l D 220 0 [(0, .inr (.inr a0)), (1, .inl x1), (2, .inl x2)] [] w (some (.inl r.1)) r.2 := by
  obtain ⟨hg, h⟩ := gd_some h
  exact ⟨hg, fun D hD => rn_sub [0, 1, 2] rfl (s_Mo_plans_0 hD a0 x1 x2 w r h)⟩
def Mo_plan_18 (w : Wd) : Option (Int × Wd) :=
  some ((-1), w)
theorem s_Mo_plan_18 {g : Gp} {l : Launch} {D : Nat} (hD : 5 ≤ D) (w : Wd) (r : Int × Wd) (h : Mo_plan_18 w = some r) : Rn g l D 221 18 [] [] w (some (.inl r.1)) r.2 := by
  unfold Mo_plan_18 at h
  refine rn_iconst i221_18 ?_
  obtain rfl := Option.some.inj h
  exact rn_retI i221_19 mr221
def Mo_plan_0 (a0 : Nat) (x1 : Int) (x2 : Int) (w : Wd) : Option (Int × Wd) :=
  (Mo_isHeir a0 x1 w).bind fun r2 =>
  if (r2.1 : Int) = 0 then
    Mo_plan_18 r2.2
  else
    (Mo_in x2 0 12 r2.2).bind fun r12 =>
    if (r12.1 : Int) = 0 then
      Mo_plan_18 r12.2
    else
      (Mo_copies a0 r12.2).bind fun r21 =>
      (Mo_plans a0 x1 x2 r21).bind fun r27 =>
      some (r27.1, r27.2)
theorem s_Mo_plan_0 {g : Gp} {l : Launch} {D : Nat} (hD : 5 ≤ D) (a0 : Nat) (x1 : Int) (x2 : Int) (w : Wd) (r : Int × Wd) (h : Mo_plan_0 a0 x1 x2 w = some r) : Rn g l D 221 0 [(0, .inr (.inr a0)), (1, .inl x1), (2, .inl x2)] [] w (some (.inl r.1)) r.2 := by
  obtain ⟨D, rfl⟩ : ∃ D1, D = D1 + 1 := ⟨D - 1, by omega⟩
  unfold Mo_plan_0 at h
  refine fr_aload_n i221_0 rfl ?_
  refine rn_iload_n i221_1 rfl ?_
  obtain ⟨r2, h2, h⟩ := Option.bind_eq_some_iff.mp h
  obtain ⟨g2, c2⟩ := S_Mo_isHeir a0 x1 w r2 h2
  refine fr_callV (a := a0) (As := [.inl x1]) (st := []) i221_2 (cq185 a0 x1) rfl (Nat.le_of_ble_eq_true rfl) g2 (c2 _ (by omega)) ?_
  show Rn _ _ _ _ _ _ [.inl r2.1] _ _ _
  by_cases c5 : (r2.1 : Int) = 0
  · rw [if_pos c5] at h
    refine rn_if_eq_t i221_5 c5 ?_
    exact rn_sub [] rfl (s_Mo_plan_18 hD r2.2 r h)
  · rw [if_neg c5] at h
    refine rn_if_eq_f i221_5 c5 ?_
    refine rn_iload_n i221_8 rfl ?_
    refine rn_iconst i221_9 ?_
    refine rn_bipush i221_10 ?_
    obtain ⟨r12, h12, h⟩ := Option.bind_eq_some_iff.mp h
    refine fr_callS (nst := 0) (As := [.inl x2, .inl 0, .inl 12]) (st := []) i221_12 (cq183 x2 0 12) rfl (Nat.le_of_ble_eq_true rfl) (S_Mo_in x2 0 12 r2.2 r12 h12 _ (by omega)) ?_
    show Rn _ _ _ _ _ _ [.inl r12.1] _ _ _
    by_cases c15 : (r12.1 : Int) = 0
    · rw [if_pos c15] at h
      refine rn_if_ne_f i221_15 c15 ?_
      exact rn_sub [] rfl (s_Mo_plan_18 hD r12.2 r h)
    · rw [if_neg c15] at h
      refine rn_if_ne_t i221_15 c15 ?_
      refine fr_aload_n i221_20 rfl ?_
      obtain ⟨r21, h21, h⟩ := Option.bind_eq_some_iff.mp h
      obtain ⟨g21, c21⟩ := S_Mo_copies a0 r12.2 r21 h21
      refine fr_callV (a := a0) (As := []) (st := []) i221_21 (cq189 a0) rfl (Nat.le_of_ble_eq_true rfl) g21 (c21 _ (by omega)) ?_
      refine fr_aload_n i221_24 rfl ?_
      refine rn_iload_n i221_25 rfl ?_
      refine rn_iload_n i221_26 rfl ?_
      obtain ⟨r27, h27, h⟩ := Option.bind_eq_some_iff.mp h
      obtain ⟨g27, c27⟩ := S_Mo_plans a0 x1 x2 r21 r27 h27
      refine fr_callV (a := a0) (As := [.inl x1, .inl x2]) (st := []) i221_27 (cq220 a0 x1 x2) rfl (Nat.le_of_ble_eq_true rfl) g27 (c27 _ (by omega)) ?_
      show Rn _ _ _ _ _ _ [.inl r27.1] _ _ _
      obtain rfl := Option.some.inj h
      exact rn_retI i221_30 mr221
/-- HandHeirsModel.plan(II)I -/
def Mo_plan (a0 : Nat) (x1 : Int) (x2 : Int) (w : Wd) : Option (Int × Wd) := gd 12 w a0 (Mo_plan_0 a0 x1 x2 w)
theorem S_Mo_plan {g : Gp} {l : Launch} (a0 : Nat) (x1 : Int) (x2 : Int) (w : Wd) (r : Int × Wd) (h : Mo_plan a0 x1 x2 w = some r) : (wsh w a0).1 = 12 ∧ ∀ D, 5 ≤ D → Rn g l D 221 0 [(0, .inr (.inr a0)), (1, .inl x1), (2, .inl x2)] [] w (some (.inl r.1)) r.2 := by
  obtain ⟨hg, h⟩ := gd_some h
  exact ⟨hg, fun D hD => rn_sub [0, 1, 2] rfl (s_Mo_plan_0 hD a0 x1 x2 w r h)⟩
def Mo_planOf_26 (w : Wd) : Option (Int × Wd) :=
  some ((-1), w)
theorem s_Mo_planOf_26 {g : Gp} {l : Launch} {D : Nat} (hD : 5 ≤ D) (w : Wd) (r : Int × Wd) (h : Mo_planOf_26 w = some r) : Rn g l D 222 26 [] [] w (some (.inl r.1)) r.2 := by
  unfold Mo_planOf_26 at h
  refine rn_iconst i222_26 ?_
  obtain rfl := Option.some.inj h
  exact rn_retI i222_27 mr222
def Mo_planOf_0 (a0 : Nat) (x1 : Int) (x2 : Int) (x3 : Int) (w : Wd) : Option (Int × Wd) :=
  (Mo_isHeir a0 x1 w).bind fun r2 =>
  if (r2.1 : Int) = 0 then
    Mo_planOf_26 r2.2
  else
    (Mo_in x2 0 12 r2.2).bind fun r12 =>
    if (r12.1 : Int) = 0 then
      Mo_planOf_26 r12.2
    else
      (Mo_isLetterAt a0 x3 r12.2).bind fun r20 =>
      if (r20.1 : Int) = 0 then
        Mo_planOf_26 r20.2
      else
        (Mo_copies a0 r20.2).bind fun r29 =>
        (Mo_plans a0 x1 x2 r29).bind fun r35 =>
        (fgR r35.2 a0 12 61).bind fun v40 =>
        (rdI r35.2 v40 x3).bind fun v44 =>
        some (v44, r35.2)
theorem s_Mo_planOf_0 {g : Gp} {l : Launch} {D : Nat} (hD : 5 ≤ D) (a0 : Nat) (x1 : Int) (x2 : Int) (x3 : Int) (w : Wd) (r : Int × Wd) (h : Mo_planOf_0 a0 x1 x2 x3 w = some r) : Rn g l D 222 0 [(0, .inr (.inr a0)), (1, .inl x1), (2, .inl x2), (3, .inl x3)] [] w (some (.inl r.1)) r.2 := by
  obtain ⟨D, rfl⟩ : ∃ D1, D = D1 + 1 := ⟨D - 1, by omega⟩
  unfold Mo_planOf_0 at h
  refine fr_aload_n i222_0 rfl ?_
  refine rn_iload_n i222_1 rfl ?_
  obtain ⟨r2, h2, h⟩ := Option.bind_eq_some_iff.mp h
  obtain ⟨g2, c2⟩ := S_Mo_isHeir a0 x1 w r2 h2
  refine fr_callV (a := a0) (As := [.inl x1]) (st := []) i222_2 (cq185 a0 x1) rfl (Nat.le_of_ble_eq_true rfl) g2 (c2 _ (by omega)) ?_
  show Rn _ _ _ _ _ _ [.inl r2.1] _ _ _
  by_cases c5 : (r2.1 : Int) = 0
  · rw [if_pos c5] at h
    refine rn_if_eq_t i222_5 c5 ?_
    exact rn_sub [] rfl (s_Mo_planOf_26 hD r2.2 r h)
  · rw [if_neg c5] at h
    refine rn_if_eq_f i222_5 c5 ?_
    refine rn_iload_n i222_8 rfl ?_
    refine rn_iconst i222_9 ?_
    refine rn_bipush i222_10 ?_
    obtain ⟨r12, h12, h⟩ := Option.bind_eq_some_iff.mp h
    refine fr_callS (nst := 0) (As := [.inl x2, .inl 0, .inl 12]) (st := []) i222_12 (cq183 x2 0 12) rfl (Nat.le_of_ble_eq_true rfl) (S_Mo_in x2 0 12 r2.2 r12 h12 _ (by omega)) ?_
    show Rn _ _ _ _ _ _ [.inl r12.1] _ _ _
    by_cases c15 : (r12.1 : Int) = 0
    · rw [if_pos c15] at h
      refine rn_if_eq_t i222_15 c15 ?_
      exact rn_sub [] rfl (s_Mo_planOf_26 hD r12.2 r h)
    · rw [if_neg c15] at h
      refine rn_if_eq_f i222_15 c15 ?_
      refine fr_aload_n i222_18 rfl ?_
      refine rn_iload_n i222_19 rfl ?_
      obtain ⟨r20, h20, h⟩ := Option.bind_eq_some_iff.mp h
      obtain ⟨g20, c20⟩ := S_Mo_isLetterAt a0 x3 r12.2 r20 h20
      refine fr_callV (a := a0) (As := [.inl x3]) (st := []) i222_20 (cq184 a0 x3) rfl (Nat.le_of_ble_eq_true rfl) g20 (c20 _ (by omega)) ?_
      show Rn _ _ _ _ _ _ [.inl r20.1] _ _ _
      by_cases c23 : (r20.1 : Int) = 0
      · rw [if_pos c23] at h
        refine rn_if_ne_f i222_23 c23 ?_
        exact rn_sub [] rfl (s_Mo_planOf_26 hD r20.2 r h)
      · rw [if_neg c23] at h
        refine rn_if_ne_t i222_23 c23 ?_
        refine fr_aload_n i222_28 rfl ?_
        obtain ⟨r29, h29, h⟩ := Option.bind_eq_some_iff.mp h
        obtain ⟨g29, c29⟩ := S_Mo_copies a0 r20.2 r29 h29
        refine fr_callV (a := a0) (As := []) (st := []) i222_29 (cq189 a0) rfl (Nat.le_of_ble_eq_true rfl) g29 (c29 _ (by omega)) ?_
        refine fr_aload_n i222_32 rfl ?_
        refine rn_iload_n i222_33 rfl ?_
        refine rn_iload_n i222_34 rfl ?_
        obtain ⟨r35, h35, h⟩ := Option.bind_eq_some_iff.mp h
        obtain ⟨g35, c35⟩ := S_Mo_plans a0 x1 x2 r29 r35 h35
        refine fr_callV (a := a0) (As := [.inl x1, .inl x2]) (st := []) i222_35 (cq220 a0 x1 x2) rfl (Nat.le_of_ble_eq_true rfl) g35 (c35 _ (by omega)) ?_
        show Rn _ _ _ _ _ _ [.inl r35.1] _ _ _
        refine rn_pop i222_38 rfl ?_
        refine fr_aload_n i222_39 rfl ?_
        obtain ⟨v40, h40, h⟩ := Option.bind_eq_some_iff.mp h
        refine fr_gR (k := 61) i222_40 tf12_61 h40 ?_
        refine rn_iload_n i222_43 rfl ?_
        obtain ⟨v44, h44, h⟩ := Option.bind_eq_some_iff.mp h
        refine rn_iald i222_44 h44 ?_
        obtain rfl := Option.some.inj h
        exact rn_retI i222_45 mr222
/-- HandHeirsModel.planOf(III)I -/
def Mo_planOf (a0 : Nat) (x1 : Int) (x2 : Int) (x3 : Int) (w : Wd) : Option (Int × Wd) := gd 12 w a0 (Mo_planOf_0 a0 x1 x2 x3 w)
theorem S_Mo_planOf {g : Gp} {l : Launch} (a0 : Nat) (x1 : Int) (x2 : Int) (x3 : Int) (w : Wd) (r : Int × Wd) (h : Mo_planOf a0 x1 x2 x3 w = some r) : (wsh w a0).1 = 12 ∧ ∀ D, 5 ≤ D → Rn g l D 222 0 [(0, .inr (.inr a0)), (1, .inl x1), (2, .inl x2), (3, .inl x3)] [] w (some (.inl r.1)) r.2 := by
  obtain ⟨hg, h⟩ := gd_some h
  exact ⟨hg, fun D hD => rn_sub [0, 1, 2, 3] rfl (s_Mo_planOf_0 hD a0 x1 x2 x3 w r h)⟩
def Mo_needs_62 (k12 : Nat → Int → Int → Wd → Option (Int × Wd)) (a0 : Nat) (x1 : Int) (x2 : Int) (w : Wd) : Option (Int × Wd) :=
  (Mo_judged a0 w).bind fun r63 =>
  if (r63.1 : Int) = x1 then
    some (x2, r63.2)
  else
    k12 a0 x1 (w32 (x2 + 1)) r63.2
theorem s_Mo_needs_62 {g : Gp} {l : Launch} {D : Nat} (hD : 6 ≤ D) (k12 : Nat → Int → Int → Wd → Option (Int × Wd)) (hk12 : ∀ (a0 : Nat) (x1 : Int) (x2 : Int) (w : Wd) (r : Int × Wd), k12 a0 x1 x2 w = some r → Rn g l D 223 12 [(0, .inr (.inr a0)), (1, .inl x1), (2, .inl x2)] [] w (some (.inl r.1)) r.2) (a0 : Nat) (x1 : Int) (x2 : Int) (w : Wd) (r : Int × Wd) (h : Mo_needs_62 k12 a0 x1 x2 w = some r) : Rn g l D 223 62 [(0, .inr (.inr a0)), (1, .inl x1), (2, .inl x2)] [] w (some (.inl r.1)) r.2 := by
  obtain ⟨D, rfl⟩ : ∃ D1, D = D1 + 1 := ⟨D - 1, by omega⟩
  unfold Mo_needs_62 at h
  refine fr_aload_n i223_62 rfl ?_
  obtain ⟨r63, h63, h⟩ := Option.bind_eq_some_iff.mp h
  obtain ⟨g63, c63⟩ := S_Mo_judged a0 w r63 h63
  refine fr_callV (a := a0) (As := []) (st := []) i223_63 (cq202 a0) rfl (Nat.le_of_ble_eq_true rfl) g63 (c63 _ (by omega)) ?_
  show Rn _ _ _ _ _ _ [.inl r63.1] _ _ _
  refine rn_iload_n i223_66 rfl ?_
  by_cases c67 : (r63.1 : Int) = x1
  · rw [if_pos c67] at h
    refine rn_icmp_ne_f i223_67 c67 ?_
    refine rn_iload_n i223_70 rfl ?_
    obtain rfl := Option.some.inj h
    exact rn_retI i223_71 mr223
  · rw [if_neg c67] at h
    refine rn_icmp_ne_t i223_67 c67 ?_
    refine rn_iinc (ls1 := [(2, .inl (w32 (x2 + 1))), (0, .inr (.inr a0)), (1, .inl x1)]) i223_72 rfl rfl ?_
    refine rn_goto i223_75 ?_
    exact rn_sub [1, 2, 0] rfl (hk12 a0 x1 (w32 (x2 + 1)) r63.2 r h)
def Mo_needs_31 (k12 : Nat → Int → Int → Wd → Option (Int × Wd)) : Nat → Nat → Int → Int → Int → Wd → Option (Int × Wd)
  | 0, _, _, _, _, _ => none
  | n + 1, a0, x1, x2, x3, w =>
    (fgR w a0 12 23).bind fun v33 =>
    (fgI w a0 12 18).bind fun v37 =>
    (rdI w v33 v37).bind fun v40 =>
    if (v40 : Int) ≤ x3 then
      Mo_needs_62 k12 a0 x1 x2 w
    else
      (fgR w a0 12 61).bind fun v48 =>
      (rdI w v48 x3).bind fun v52 =>
      (Mo_lessons a0 x1 x3 v52 w).bind fun r53 =>
      Mo_needs_31 k12 n a0 x1 x2 (w32 (x3 + 1)) r53
theorem s_Mo_needs_31 {g : Gp} {l : Launch} {D : Nat} (hD : 6 ≤ D) (k12 : Nat → Int → Int → Wd → Option (Int × Wd)) (hk12 : ∀ (a0 : Nat) (x1 : Int) (x2 : Int) (w : Wd) (r : Int × Wd), k12 a0 x1 x2 w = some r → Rn g l D 223 12 [(0, .inr (.inr a0)), (1, .inl x1), (2, .inl x2)] [] w (some (.inl r.1)) r.2) : ∀ (n : Nat) (a0 : Nat) (x1 : Int) (x2 : Int) (x3 : Int) (w : Wd) (r : Int × Wd), Mo_needs_31 k12 n a0 x1 x2 x3 w = some r → Rn g l D 223 31 [(0, .inr (.inr a0)), (1, .inl x1), (2, .inl x2), (3, .inl x3)] [] w (some (.inl r.1)) r.2 := by
  obtain ⟨D, rfl⟩ : ∃ D1, D = D1 + 1 := ⟨D - 1, by omega⟩
  intro n
  induction n with
  | zero => intro a0 x1 x2 x3 w r h; cases (show (none : Option (Int × Wd)) = some r from h)
  | succ n ih =>
    intro a0 x1 x2 x3 w r h
    unfold Mo_needs_31 at h
    refine rn_iload_n i223_31 rfl ?_
    refine fr_aload_n i223_32 rfl ?_
    obtain ⟨v33, h33, h⟩ := Option.bind_eq_some_iff.mp h
    refine fr_gR (k := 23) i223_33 tf12_23 h33 ?_
    refine fr_aload_n i223_36 rfl ?_
    obtain ⟨v37, h37, h⟩ := Option.bind_eq_some_iff.mp h
    refine fr_gI (k := 18) i223_37 tf12_18 h37 ?_
    obtain ⟨v40, h40, h⟩ := Option.bind_eq_some_iff.mp h
    refine rn_iald i223_40 h40 ?_
    by_cases c41 : (v40 : Int) ≤ x3
    · rw [if_pos c41] at h
      refine rn_icmp_ge_t i223_41 c41 ?_
      exact rn_sub [0, 1, 2] rfl (s_Mo_needs_62 hD k12 hk12 a0 x1 x2 w r h)
    · rw [if_neg c41] at h
      refine rn_icmp_ge_f i223_41 c41 ?_
      refine fr_aload_n i223_44 rfl ?_
      refine rn_iload_n i223_45 rfl ?_
      refine rn_iload_n i223_46 rfl ?_
      refine fr_aload_n i223_47 rfl ?_
      obtain ⟨v48, h48, h⟩ := Option.bind_eq_some_iff.mp h
      refine fr_gR (k := 61) i223_48 tf12_61 h48 ?_
      refine rn_iload_n i223_51 rfl ?_
      obtain ⟨v52, h52, h⟩ := Option.bind_eq_some_iff.mp h
      refine rn_iald i223_52 h52 ?_
      obtain ⟨r53, h53, h⟩ := Option.bind_eq_some_iff.mp h
      obtain ⟨g53, c53⟩ := S_Mo_lessons a0 x1 x3 v52 w r53 h53
      refine fr_callV (a := a0) (As := [.inl x1, .inl x3, .inl v52]) (st := []) i223_53 (cq204 a0 x1 x3 v52) rfl (Nat.le_of_ble_eq_true rfl) g53 (c53 _ (by omega)) ?_
      refine rn_iinc (ls1 := [(3, .inl (w32 (x3 + 1))), (0, .inr (.inr a0)), (1, .inl x1), (2, .inl x2)]) i223_56 rfl rfl ?_
      refine rn_goto i223_59 ?_
      exact rn_sub [1, 2, 3, 0] rfl (ih a0 x1 x2 (w32 (x3 + 1)) r53 r h)
def Mo_needs_12 : Nat → Nat → Int → Int → Wd → Option (Int × Wd)
  | 0, _, _, _, _ => none
  | n + 1, a0, x1, x2, w =>
    if (12 : Int) < x2 then
      some ((-2), w)
    else
      (Mo_copies a0 w).bind fun r19 =>
      (Mo_plans a0 x1 x2 r19).bind fun r25 =>
      Mo_needs_31 (Mo_needs_12 n) FU a0 x1 x2 0 r25.2
theorem s_Mo_needs_12 {g : Gp} {l : Launch} {D : Nat} (hD : 6 ≤ D) : ∀ (n : Nat) (a0 : Nat) (x1 : Int) (x2 : Int) (w : Wd) (r : Int × Wd), Mo_needs_12 n a0 x1 x2 w = some r → Rn g l D 223 12 [(0, .inr (.inr a0)), (1, .inl x1), (2, .inl x2)] [] w (some (.inl r.1)) r.2 := by
  obtain ⟨D, rfl⟩ : ∃ D1, D = D1 + 1 := ⟨D - 1, by omega⟩
  intro n
  induction n with
  | zero => intro a0 x1 x2 w r h; cases (show (none : Option (Int × Wd)) = some r from h)
  | succ n ih =>
    intro a0 x1 x2 w r h
    unfold Mo_needs_12 at h
    refine rn_iload_n i223_12 rfl ?_
    refine rn_bipush i223_13 ?_
    by_cases c15 : (12 : Int) < x2
    · rw [if_pos c15] at h
      refine rn_icmp_gt_t i223_15 c15 ?_
      refine rn_bipush i223_78 ?_
      obtain rfl := Option.some.inj h
      exact rn_retI i223_80 mr223
    · rw [if_neg c15] at h
      refine rn_icmp_gt_f i223_15 c15 ?_
      refine fr_aload_n i223_18 rfl ?_
      obtain ⟨r19, h19, h⟩ := Option.bind_eq_some_iff.mp h
      obtain ⟨g19, c19⟩ := S_Mo_copies a0 w r19 h19
      refine fr_callV (a := a0) (As := []) (st := []) i223_19 (cq189 a0) rfl (Nat.le_of_ble_eq_true rfl) g19 (c19 _ (by omega)) ?_
      refine fr_aload_n i223_22 rfl ?_
      refine rn_iload_n i223_23 rfl ?_
      refine rn_iload_n i223_24 rfl ?_
      obtain ⟨r25, h25, h⟩ := Option.bind_eq_some_iff.mp h
      obtain ⟨g25, c25⟩ := S_Mo_plans a0 x1 x2 r19 r25 h25
      refine fr_callV (a := a0) (As := [.inl x1, .inl x2]) (st := []) i223_25 (cq220 a0 x1 x2) rfl (Nat.le_of_ble_eq_true rfl) g25 (c25 _ (by omega)) ?_
      show Rn _ _ _ _ _ _ [.inl r25.1] _ _ _
      refine rn_pop i223_28 rfl ?_
      refine rn_iconst i223_29 ?_
      refine rn_istore_n (ls1 := [(3, .inl 0), (0, .inr (.inr a0)), (1, .inl x1), (2, .inl x2)]) i223_30 rfl ?_
      exact rn_sub [1, 2, 3, 0] rfl (s_Mo_needs_31 hD (Mo_needs_12 n) ih FU a0 x1 x2 0 r25.2 r h)
def Mo_needs_0 (a0 : Nat) (x1 : Int) (w : Wd) : Option (Int × Wd) :=
  (Mo_isHeir a0 x1 w).bind fun r2 =>
  if (r2.1 : Int) = 0 then
    some ((-1), r2.2)
  else
    Mo_needs_12 FU a0 x1 0 r2.2
theorem s_Mo_needs_0 {g : Gp} {l : Launch} {D : Nat} (hD : 6 ≤ D) (a0 : Nat) (x1 : Int) (w : Wd) (r : Int × Wd) (h : Mo_needs_0 a0 x1 w = some r) : Rn g l D 223 0 [(0, .inr (.inr a0)), (1, .inl x1)] [] w (some (.inl r.1)) r.2 := by
  obtain ⟨D, rfl⟩ : ∃ D1, D = D1 + 1 := ⟨D - 1, by omega⟩
  unfold Mo_needs_0 at h
  refine fr_aload_n i223_0 rfl ?_
  refine rn_iload_n i223_1 rfl ?_
  obtain ⟨r2, h2, h⟩ := Option.bind_eq_some_iff.mp h
  obtain ⟨g2, c2⟩ := S_Mo_isHeir a0 x1 w r2 h2
  refine fr_callV (a := a0) (As := [.inl x1]) (st := []) i223_2 (cq185 a0 x1) rfl (Nat.le_of_ble_eq_true rfl) g2 (c2 _ (by omega)) ?_
  show Rn _ _ _ _ _ _ [.inl r2.1] _ _ _
  by_cases c5 : (r2.1 : Int) = 0
  · rw [if_pos c5] at h
    refine rn_if_ne_f i223_5 c5 ?_
    refine rn_iconst i223_8 ?_
    obtain rfl := Option.some.inj h
    exact rn_retI i223_9 mr223
  · rw [if_neg c5] at h
    refine rn_if_ne_t i223_5 c5 ?_
    refine rn_iconst i223_10 ?_
    refine rn_istore_n (ls1 := [(2, .inl 0), (0, .inr (.inr a0)), (1, .inl x1)]) i223_11 rfl ?_
    exact rn_sub [1, 2, 0] rfl (s_Mo_needs_12 hD FU a0 x1 0 r2.2 r h)
/-- HandHeirsModel.needs(I)I -/
def Mo_needs (a0 : Nat) (x1 : Int) (w : Wd) : Option (Int × Wd) := gd 12 w a0 (Mo_needs_0 a0 x1 w)
theorem S_Mo_needs {g : Gp} {l : Launch} (a0 : Nat) (x1 : Int) (w : Wd) (r : Int × Wd) (h : Mo_needs a0 x1 w = some r) : (wsh w a0).1 = 12 ∧ ∀ D, 6 ≤ D → Rn g l D 223 0 [(0, .inr (.inr a0)), (1, .inl x1)] [] w (some (.inl r.1)) r.2 := by
  obtain ⟨hg, h⟩ := gd_some h
  exact ⟨hg, fun D hD => rn_sub [0, 1] rfl (s_Mo_needs_0 hD a0 x1 w r h)⟩
def Mo_swing_0 (a0 : Nat) (x1 : Int) (w : Wd) : Option (Int × Wd) :=
  (Mo_isMaster a0 x1 w).bind fun r2 =>
  if (r2.1 : Int) = 0 then
    some ((-1), r2.2)
  else
    (Mo_copies a0 r2.2).bind fun r11 =>
    (fpI r11 a0 12 52 x1).bind fun w16 =>
    (Mo_judged a0 w16).bind fun r20 =>
    (Mo_orNobody (r20.1) r20.2).bind fun r23 =>
    some (r23.1, r23.2)
theorem s_Mo_swing_0 {g : Gp} {l : Launch} {D : Nat} (hD : 6 ≤ D) (a0 : Nat) (x1 : Int) (w : Wd) (r : Int × Wd) (h : Mo_swing_0 a0 x1 w = some r) : Rn g l D 224 0 [(0, .inr (.inr a0)), (1, .inl x1)] [] w (some (.inl r.1)) r.2 := by
  obtain ⟨D, rfl⟩ : ∃ D1, D = D1 + 1 := ⟨D - 1, by omega⟩
  unfold Mo_swing_0 at h
  refine fr_aload_n i224_0 rfl ?_
  refine rn_iload_n i224_1 rfl ?_
  obtain ⟨r2, h2, h⟩ := Option.bind_eq_some_iff.mp h
  obtain ⟨g2, c2⟩ := S_Mo_isMaster a0 x1 w r2 h2
  refine fr_callV (a := a0) (As := [.inl x1]) (st := []) i224_2 (cq186 a0 x1) rfl (Nat.le_of_ble_eq_true rfl) g2 (c2 _ (by omega)) ?_
  show Rn _ _ _ _ _ _ [.inl r2.1] _ _ _
  by_cases c5 : (r2.1 : Int) = 0
  · rw [if_pos c5] at h
    refine rn_if_ne_f i224_5 c5 ?_
    refine rn_iconst i224_8 ?_
    obtain rfl := Option.some.inj h
    exact rn_retI i224_9 mr224
  · rw [if_neg c5] at h
    refine rn_if_ne_t i224_5 c5 ?_
    refine fr_aload_n i224_10 rfl ?_
    obtain ⟨r11, h11, h⟩ := Option.bind_eq_some_iff.mp h
    obtain ⟨g11, c11⟩ := S_Mo_copies a0 r2.2 r11 h11
    refine fr_callV (a := a0) (As := []) (st := []) i224_11 (cq189 a0) rfl (Nat.le_of_ble_eq_true rfl) g11 (c11 _ (by omega)) ?_
    refine fr_aload_n i224_14 rfl ?_
    refine rn_iload_n i224_15 rfl ?_
    obtain ⟨w16, h16, h⟩ := Option.bind_eq_some_iff.mp h
    refine fr_pI (k := 52) i224_16 (pf12_52 224) h16 ?_
    refine fr_aload_n i224_19 rfl ?_
    obtain ⟨r20, h20, h⟩ := Option.bind_eq_some_iff.mp h
    obtain ⟨g20, c20⟩ := S_Mo_judged a0 w16 r20 h20
    refine fr_callV (a := a0) (As := []) (st := []) i224_20 (cq202 a0) rfl (Nat.le_of_ble_eq_true rfl) g20 (c20 _ (by omega)) ?_
    show Rn _ _ _ _ _ _ [.inl r20.1] _ _ _
    obtain ⟨r23, h23, h⟩ := Option.bind_eq_some_iff.mp h
    refine fr_callS (nst := 0) (As := [.inl r20.1]) (st := []) i224_23 (cq211 (r20.1)) rfl (Nat.le_of_ble_eq_true rfl) (S_Mo_orNobody (r20.1) r20.2 r23 h23 _ (by omega)) ?_
    show Rn _ _ _ _ _ _ [.inl r23.1] _ _ _
    obtain rfl := Option.some.inj h
    exact rn_retI i224_26 mr224
/-- HandHeirsModel.swing(I)I -/
def Mo_swing (a0 : Nat) (x1 : Int) (w : Wd) : Option (Int × Wd) := gd 12 w a0 (Mo_swing_0 a0 x1 w)
theorem S_Mo_swing {g : Gp} {l : Launch} (a0 : Nat) (x1 : Int) (w : Wd) (r : Int × Wd) (h : Mo_swing a0 x1 w = some r) : (wsh w a0).1 = 12 ∧ ∀ D, 6 ≤ D → Rn g l D 224 0 [(0, .inr (.inr a0)), (1, .inl x1)] [] w (some (.inl r.1)) r.2 := by
  obtain ⟨hg, h⟩ := gd_some h
  exact ⟨hg, fun D hD => rn_sub [0, 1] rfl (s_Mo_swing_0 hD a0 x1 w r h)⟩
