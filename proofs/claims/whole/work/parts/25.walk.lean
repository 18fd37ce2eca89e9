theorem i134_0 : ins 134 0 = some (.aload_n 0, 1, 0, 0) := by decide +kernel
theorem i134_1 : ins 134 1 = some (.iload_n 1, 2, 0, 0) := by decide +kernel
theorem i134_2 : ins 134 2 = some (.invokevirtual 131, 5, 110, 0) := by decide +kernel
theorem i134_5 : ins 134 5 = some (.ifCond .eq (12), 8, 17, 0) := by decide +kernel
theorem i134_8 : ins 134 8 = some (.iload_n 2, 9, 0, 0) := by decide +kernel
theorem i134_9 : ins 134 9 = some (.iconst (0), 10, 0, 0) := by decide +kernel
theorem i134_10 : ins 134 10 = some (.iconst (1), 11, 0, 1) := by decide +kernel
theorem i134_11 : ins 134 11 = some (.invokestatic 187, 14, 112, 0) := by decide +kernel
theorem i134_14 : ins 134 14 = some (.ifCond .ne (5), 17, 19, 0) := by decide +kernel
theorem i134_17 : ins 134 17 = some (.iconst (-1), 18, 0, -1) := by decide +kernel
theorem i134_18 : ins 134 18 = some (.ireturn, 19, 0, 0) := by decide +kernel
theorem i134_19 : ins 134 19 = some (.iconst (0), 20, 0, 0) := by decide +kernel
theorem i134_20 : ins 134 20 = some (.istore_n 3, 21, 0, 0) := by decide +kernel
theorem i134_21 : ins 134 21 = some (.aload_n 0, 22, 0, 0) := by decide +kernel
theorem i134_22 : ins 134 22 = some (.iload_n 1, 23, 0, 0) := by decide +kernel
theorem i134_23 : ins 134 23 = some (.iconst (0), 24, 0, 0) := by decide +kernel
theorem i134_24 : ins 134 24 = some (.invokevirtual 255, 27, 135, 0) := by decide +kernel
theorem i134_27 : ins 134 27 = some (.istore 4, 29, 0, 0) := by decide +kernel
theorem i134_29 : ins 134 29 = some (.iconst (1), 30, 0, 1) := by decide +kernel
theorem i134_30 : ins 134 30 = some (.istore 5, 32, 0, 0) := by decide +kernel
theorem i134_32 : ins 134 32 = some (.iload 5, 34, 0, 0) := by decide +kernel
theorem i134_34 : ins 134 34 = some (.aload_n 0, 35, 0, 0) := by decide +kernel
theorem i134_35 : ins 134 35 = some (.getfield 34, 38, 11, 4) := by decide +kernel
theorem i134_38 : ins 134 38 = some (.invokevirtual 220, 41, 90, 0) := by decide +kernel
theorem i134_41 : ins 134 41 = some (.if_icmp .gt (32), 44, 73, 0) := by decide +kernel
theorem i134_44 : ins 134 44 = some (.aload_n 0, 45, 0, 0) := by decide +kernel
theorem i134_45 : ins 134 45 = some (.iload_n 1, 46, 0, 0) := by decide +kernel
theorem i134_46 : ins 134 46 = some (.iload 5, 48, 0, 0) := by decide +kernel
theorem i134_48 : ins 134 48 = some (.invokevirtual 255, 51, 135, 0) := by decide +kernel
theorem i134_51 : ins 134 51 = some (.istore 6, 53, 0, 0) := by decide +kernel
theorem i134_53 : ins 134 53 = some (.iload 6, 55, 0, 0) := by decide +kernel
theorem i134_55 : ins 134 55 = some (.iload 4, 57, 0, 0) := by decide +kernel
theorem i134_57 : ins 134 57 = some (.if_icmp .ge (10), 60, 67, 0) := by decide +kernel
theorem i134_60 : ins 134 60 = some (.iload 5, 62, 0, 0) := by decide +kernel
theorem i134_62 : ins 134 62 = some (.istore_n 3, 63, 0, 0) := by decide +kernel
theorem i134_63 : ins 134 63 = some (.iload 6, 65, 0, 0) := by decide +kernel
theorem i134_65 : ins 134 65 = some (.istore 4, 67, 0, 0) := by decide +kernel
theorem i134_67 : ins 134 67 = some (.iinc 5 (1), 70, 0, 1) := by decide +kernel
theorem i134_70 : ins 134 70 = some (.goto (-38), 73, 32, 0) := by decide +kernel
theorem i134_73 : ins 134 73 = some (.iload_n 2, 74, 0, 0) := by decide +kernel
theorem i134_74 : ins 134 74 = some (.ifCond .ne (11), 77, 85, 0) := by decide +kernel
theorem i134_77 : ins 134 77 = some (.aload_n 0, 78, 0, 0) := by decide +kernel
theorem i134_78 : ins 134 78 = some (.iload_n 3, 79, 0, 0) := by decide +kernel
theorem i134_79 : ins 134 79 = some (.invokevirtual 258, 82, 137, 0) := by decide +kernel
theorem i134_82 : ins 134 82 = some (.goto (5), 85, 87, 0) := by decide +kernel
theorem i134_85 : ins 134 85 = some (.iload 4, 87, 0, 0) := by decide +kernel
theorem i134_87 : ins 134 87 = some (.ireturn, 88, 0, 0) := by decide +kernel
theorem i137_0 : ins 137 0 = some (.iload_n 1, 1, 0, 0) := by decide +kernel
theorem i137_1 : ins 137 1 = some (.aload_n 0, 2, 0, 0) := by decide +kernel
theorem i137_2 : ins 137 2 = some (.getfield 34, 5, 11, 4) := by decide +kernel
theorem i137_5 : ins 137 5 = some (.invokevirtual 220, 8, 90, 0) := by decide +kernel
theorem i137_8 : ins 137 8 = some (.if_icmp .ge (7), 11, 15, 0) := by decide +kernel
theorem i137_11 : ins 137 11 = some (.iload_n 1, 12, 0, 0) := by decide +kernel
theorem i137_12 : ins 137 12 = some (.goto (10), 15, 22, 0) := by decide +kernel
theorem i137_15 : ins 137 15 = some (.aload_n 0, 16, 0, 0) := by decide +kernel
theorem i137_16 : ins 137 16 = some (.getfield 34, 19, 11, 4) := by decide +kernel
theorem i137_19 : ins 137 19 = some (.getfield 213, 22, 9, 0) := by decide +kernel
theorem i137_22 : ins 137 22 = some (.ireturn, 23, 0, 0) := by decide +kernel
theorem i138_0 : ins 138 0 = some (.aload_n 0, 1, 0, 0) := by decide +kernel
theorem i138_1 : ins 138 1 = some (.iload_n 1, 2, 0, 0) := by decide +kernel
theorem i138_2 : ins 138 2 = some (.invokevirtual 123, 5, 109, 0) := by decide +kernel
theorem i138_5 : ins 138 5 = some (.ifCond .eq (13), 8, 18, 0) := by decide +kernel
theorem i138_8 : ins 138 8 = some (.iload_n 2, 9, 0, 0) := by decide +kernel
theorem i138_9 : ins 138 9 = some (.iconst (0), 10, 0, 0) := by decide +kernel
theorem i138_10 : ins 138 10 = some (.bipush (99), 12, 0, 99) := by decide +kernel
theorem i138_12 : ins 138 12 = some (.invokestatic 187, 15, 112, 0) := by decide +kernel
theorem i138_15 : ins 138 15 = some (.ifCond .ne (5), 18, 20, 0) := by decide +kernel
theorem i138_18 : ins 138 18 = some (.iconst (-1), 19, 0, -1) := by decide +kernel
theorem i138_19 : ins 138 19 = some (.ireturn, 20, 0, 0) := by decide +kernel
theorem i138_20 : ins 138 20 = some (.aload_n 0, 21, 0, 0) := by decide +kernel
theorem i138_21 : ins 138 21 = some (.getfield 64, 24, 11, 9) := by decide +kernel
theorem i138_24 : ins 138 24 = some (.iload_n 1, 25, 0, 0) := by decide +kernel
theorem i138_25 : ins 138 25 = some (.iload_n 2, 26, 0, 0) := by decide +kernel
theorem i138_26 : ins 138 26 = some (.invokevirtual 269, 29, 44, 0) := by decide +kernel
theorem i138_29 : ins 138 29 = some (.ireturn, 30, 0, 0) := by decide +kernel
theorem i139_0 : ins 139 0 = some (.aload_n 0, 1, 0, 0) := by decide +kernel
theorem i139_1 : ins 139 1 = some (.getfield 64, 4, 11, 9) := by decide +kernel
theorem i139_4 : ins 139 4 = some (.getfield 104, 7, 3, 0) := by decide +kernel
theorem i139_7 : ins 139 7 = some (.istore_n 1, 8, 0, 0) := by decide +kernel
theorem i139_8 : ins 139 8 = some (.aload_n 0, 9, 0, 0) := by decide +kernel
theorem i139_9 : ins 139 9 = some (.getfield 64, 12, 11, 9) := by decide +kernel
theorem i139_12 : ins 139 12 = some (.iconst (0), 13, 0, 0) := by decide +kernel
theorem i139_13 : ins 139 13 = some (.putfield 104, 16, 3, 0) := by decide +kernel
theorem i139_16 : ins 139 16 = some (.iload_n 1, 17, 0, 0) := by decide +kernel
theorem i139_17 : ins 139 17 = some (.ireturn, 18, 0, 0) := by decide +kernel
theorem i140_0 : ins 140 0 = some (.iload_n 1, 1, 0, 0) := by decide +kernel
theorem i140_1 : ins 140 1 = some (.iconst (0), 2, 0, 0) := by decide +kernel
theorem i140_2 : ins 140 2 = some (.bipush (99), 4, 0, 99) := by decide +kernel
theorem i140_4 : ins 140 4 = some (.invokestatic 187, 7, 112, 0) := by decide +kernel
theorem i140_7 : ins 140 7 = some (.ifCond .eq (23), 10, 30, 0) := by decide +kernel
theorem i140_10 : ins 140 10 = some (.iload_n 2, 11, 0, 0) := by decide +kernel
theorem i140_11 : ins 140 11 = some (.iconst (0), 12, 0, 0) := by decide +kernel
theorem i140_12 : ins 140 12 = some (.aload_n 0, 13, 0, 0) := by decide +kernel
theorem i140_13 : ins 140 13 = some (.getfield 64, 16, 11, 9) := by decide +kernel
theorem i140_16 : ins 140 16 = some (.getfield 104, 19, 3, 0) := by decide +kernel
theorem i140_19 : ins 140 19 = some (.invokestatic 187, 22, 112, 0) := by decide +kernel
theorem i140_22 : ins 140 22 = some (.ifCond .eq (8), 25, 30, 0) := by decide +kernel
theorem i140_25 : ins 140 25 = some (.iload_n 3, 26, 0, 0) := by decide +kernel
theorem i140_26 : ins 140 26 = some (.iconst (-1), 27, 0, -1) := by decide +kernel
theorem i140_27 : ins 140 27 = some (.if_icmp .ge (5), 30, 32, 0) := by decide +kernel
theorem i140_30 : ins 140 30 = some (.iconst (-1), 31, 0, -1) := by decide +kernel
theorem i140_31 : ins 140 31 = some (.ireturn, 32, 0, 0) := by decide +kernel
theorem i140_32 : ins 140 32 = some (.iconst (0), 33, 0, 0) := by decide +kernel
theorem i140_33 : ins 140 33 = some (.istore 4, 35, 0, 0) := by decide +kernel
theorem i140_35 : ins 140 35 = some (.iconst (0), 36, 0, 0) := by decide +kernel
theorem i140_36 : ins 140 36 = some (.istore 5, 38, 0, 0) := by decide +kernel
theorem i140_38 : ins 140 38 = some (.iload 5, 40, 0, 0) := by decide +kernel
theorem i140_40 : ins 140 40 = some (.aload_n 0, 41, 0, 0) := by decide +kernel
theorem i140_41 : ins 140 41 = some (.getfield 34, 44, 11, 4) := by decide +kernel
theorem i140_44 : ins 140 44 = some (.invokevirtual 220, 47, 90, 0) := by decide +kernel
theorem i140_47 : ins 140 47 = some (.if_icmp .gt (36), 50, 83, 0) := by decide +kernel
theorem i140_50 : ins 140 50 = some (.aload_n 0, 51, 0, 0) := by decide +kernel
theorem i140_51 : ins 140 51 = some (.iload 5, 53, 0, 0) := by decide +kernel
theorem i140_53 : ins 140 53 = some (.iload_n 1, 54, 0, 0) := by decide +kernel
theorem i140_54 : ins 140 54 = some (.iload_n 2, 55, 0, 0) := by decide +kernel
theorem i140_55 : ins 140 55 = some (.invokevirtual 272, 58, 141, 0) := by decide +kernel
theorem i140_58 : ins 140 58 = some (.ifCond .eq (19), 61, 77, 0) := by decide +kernel
theorem i140_61 : ins 140 61 = some (.iload 4, 63, 0, 0) := by decide +kernel
theorem i140_63 : ins 140 63 = some (.iload_n 3, 64, 0, 0) := by decide +kernel
theorem i140_64 : ins 140 64 = some (.if_icmp .ne (10), 67, 74, 0) := by decide +kernel
theorem i140_67 : ins 140 67 = some (.aload_n 0, 68, 0, 0) := by decide +kernel
theorem i140_68 : ins 140 68 = some (.iload 5, 70, 0, 0) := by decide +kernel
theorem i140_70 : ins 140 70 = some (.invokevirtual 258, 73, 137, 0) := by decide +kernel
theorem i140_73 : ins 140 73 = some (.ireturn, 74, 0, 0) := by decide +kernel
theorem i140_74 : ins 140 74 = some (.iinc 4 (1), 77, 0, 1) := by decide +kernel
theorem i140_77 : ins 140 77 = some (.iinc 5 (1), 80, 0, 1) := by decide +kernel
theorem i140_80 : ins 140 80 = some (.goto (-42), 83, 38, 0) := by decide +kernel
theorem i140_83 : ins 140 83 = some (.iload_n 3, 84, 0, 0) := by decide +kernel
theorem i140_84 : ins 140 84 = some (.iconst (-1), 85, 0, -1) := by decide +kernel
theorem i140_85 : ins 140 85 = some (.if_icmp .ne (8), 88, 93, 0) := by decide +kernel
theorem i140_88 : ins 140 88 = some (.iload 4, 90, 0, 0) := by decide +kernel
theorem i140_90 : ins 140 90 = some (.goto (4), 93, 94, 0) := by decide +kernel
theorem i140_93 : ins 140 93 = some (.iconst (-1), 94, 0, -1) := by decide +kernel
theorem i140_94 : ins 140 94 = some (.ireturn, 95, 0, 0) := by decide +kernel
theorem i141_0 : ins 141 0 = some (.iconst (0), 1, 0, 0) := by decide +kernel
theorem i141_1 : ins 141 1 = some (.istore 4, 3, 0, 0) := by decide +kernel
theorem i141_3 : ins 141 3 = some (.iload 4, 5, 0, 0) := by decide +kernel
theorem i141_5 : ins 141 5 = some (.iload_n 3, 6, 0, 0) := by decide +kernel
theorem i141_6 : ins 141 6 = some (.if_icmp .ge (56), 9, 62, 0) := by decide +kernel
theorem i141_9 : ins 141 9 = some (.iload 4, 11, 0, 0) := by decide +kernel
theorem i141_11 : ins 141 11 = some (.aload_n 0, 12, 0, 0) := by decide +kernel
theorem i141_12 : ins 141 12 = some (.getfield 64, 15, 11, 9) := by decide +kernel
theorem i141_15 : ins 141 15 = some (.getfield 104, 18, 3, 0) := by decide +kernel
theorem i141_18 : ins 141 18 = some (.if_icmp .ge (44), 21, 62, 0) := by decide +kernel
theorem i141_21 : ins 141 21 = some (.aload_n 0, 22, 0, 0) := by decide +kernel
theorem i141_22 : ins 141 22 = some (.iload_n 1, 23, 0, 0) := by decide +kernel
theorem i141_23 : ins 141 23 = some (.aload_n 0, 24, 0, 0) := by decide +kernel
theorem i141_24 : ins 141 24 = some (.getfield 64, 27, 11, 9) := by decide +kernel
theorem i141_27 : ins 141 27 = some (.getfield 275, 30, 3, 1) := by decide +kernel
theorem i141_30 : ins 141 30 = some (.iload 4, 32, 0, 0) := by decide +kernel
theorem i141_32 : ins 141 32 = some (.iaload, 33, 0, 0) := by decide +kernel
theorem i141_33 : ins 141 33 = some (.invokevirtual 261, 36, 136, 0) := by decide +kernel
theorem i141_36 : ins 141 36 = some (.aload_n 0, 37, 0, 0) := by decide +kernel
theorem i141_37 : ins 141 37 = some (.getfield 64, 40, 11, 9) := by decide +kernel
theorem i141_40 : ins 141 40 = some (.getfield 277, 43, 3, 2) := by decide +kernel
theorem i141_43 : ins 141 43 = some (.iload 4, 45, 0, 0) := by decide +kernel
theorem i141_45 : ins 141 45 = some (.iaload, 46, 0, 0) := by decide +kernel
theorem i141_46 : ins 141 46 = some (.isub, 47, 0, 0) := by decide +kernel
theorem i141_47 : ins 141 47 = some (.invokestatic 264, 50, 0, 0) := by decide +kernel
theorem i141_50 : ins 141 50 = some (.iload_n 2, 51, 0, 0) := by decide +kernel
theorem i141_51 : ins 141 51 = some (.if_icmp .le (5), 54, 56, 0) := by decide +kernel
theorem i141_54 : ins 141 54 = some (.iconst (0), 55, 0, 0) := by decide +kernel
theorem i141_55 : ins 141 55 = some (.ireturn, 56, 0, 0) := by decide +kernel
theorem i141_56 : ins 141 56 = some (.iinc 4 (1), 59, 0, 1) := by decide +kernel
theorem i141_59 : ins 141 59 = some (.goto (-56), 62, 3, 0) := by decide +kernel
theorem i141_62 : ins 141 62 = some (.iconst (1), 63, 0, 1) := by decide +kernel
theorem i141_63 : ins 141 63 = some (.ireturn, 64, 0, 0) := by decide +kernel
theorem i142_0 : ins 142 0 = some (.iload_n 1, 1, 0, 0) := by decide +kernel
theorem i142_1 : ins 142 1 = some (.iconst (0), 2, 0, 0) := by decide +kernel
theorem i142_2 : ins 142 2 = some (.iconst (2), 3, 0, 2) := by decide +kernel
theorem i142_3 : ins 142 3 = some (.invokestatic 187, 6, 112, 0) := by decide +kernel
theorem i142_6 : ins 142 6 = some (.ifCond .ne (5), 9, 11, 0) := by decide +kernel
theorem i142_9 : ins 142 9 = some (.iconst (0), 10, 0, 0) := by decide +kernel
theorem i142_10 : ins 142 10 = some (.ireturn, 11, 0, 0) := by decide +kernel
theorem i142_11 : ins 142 11 = some (.aload_n 0, 12, 0, 0) := by decide +kernel
theorem i142_12 : ins 142 12 = some (.getfield 57, 15, 11, 8) := by decide +kernel
theorem i142_15 : ins 142 15 = some (.iload_n 1, 16, 0, 0) := by decide +kernel
theorem i142_16 : ins 142 16 = some (.aaload, 17, 0, 0) := by decide +kernel
theorem i142_17 : ins 142 17 = some (.getfield 280, 20, 8, 1) := by decide +kernel
theorem i142_20 : ins 142 20 = some (.aload_n 0, 21, 0, 0) := by decide +kernel
theorem i142_21 : ins 142 21 = some (.getfield 34, 24, 11, 4) := by decide +kernel
theorem i142_24 : ins 142 24 = some (.invokevirtual 237, 27, 89, 0) := by decide +kernel
theorem i142_27 : ins 142 27 = some (.aload_n 0, 28, 0, 0) := by decide +kernel
theorem i142_28 : ins 142 28 = some (.getfield 57, 31, 11, 8) := by decide +kernel
theorem i142_31 : ins 142 31 = some (.iload_n 1, 32, 0, 0) := by decide +kernel
theorem i142_32 : ins 142 32 = some (.aaload, 33, 0, 0) := by decide +kernel
theorem i142_33 : ins 142 33 = some (.getfield 283, 36, 8, 2) := by decide +kernel
theorem i142_36 : ins 142 36 = some (.aload_n 0, 37, 0, 0) := by decide +kernel
theorem i142_37 : ins 142 37 = some (.getfield 44, 40, 11, 6) := by decide +kernel
theorem i142_40 : ins 142 40 = some (.aload_n 0, 41, 0, 0) := by decide +kernel
theorem i142_41 : ins 142 41 = some (.getfield 34, 44, 11, 4) := by decide +kernel
theorem i142_44 : ins 142 44 = some (.invokevirtual 220, 47, 90, 0) := by decide +kernel
theorem i142_47 : ins 142 47 = some (.invokevirtual 284, 50, 17, 0) := by decide +kernel
theorem i142_50 : ins 142 50 = some (.aload_n 0, 51, 0, 0) := by decide +kernel
theorem i142_51 : ins 142 51 = some (.getfield 57, 54, 11, 8) := by decide +kernel
theorem i142_54 : ins 142 54 = some (.iload_n 1, 55, 0, 0) := by decide +kernel
theorem i142_55 : ins 142 55 = some (.aaload, 56, 0, 0) := by decide +kernel
theorem i142_56 : ins 142 56 = some (.iconst (1), 57, 0, 1) := by decide +kernel
theorem i142_57 : ins 142 57 = some (.putfield 107, 60, 8, 0) := by decide +kernel
theorem i142_60 : ins 142 60 = some (.iconst (1), 61, 0, 1) := by decide +kernel
theorem i142_61 : ins 142 61 = some (.ireturn, 62, 0, 0) := by decide +kernel
theorem i143_0 : ins 143 0 = some (.iload_n 1, 1, 0, 0) := by decide +kernel
theorem i143_1 : ins 143 1 = some (.iconst (0), 2, 0, 0) := by decide +kernel
theorem i143_2 : ins 143 2 = some (.iconst (2), 3, 0, 2) := by decide +kernel
theorem i143_3 : ins 143 3 = some (.invokestatic 187, 6, 112, 0) := by decide +kernel
theorem i143_6 : ins 143 6 = some (.ifCond .eq (15), 9, 21, 0) := by decide +kernel
theorem i143_9 : ins 143 9 = some (.aload_n 0, 10, 0, 0) := by decide +kernel
theorem i143_10 : ins 143 10 = some (.getfield 57, 13, 11, 8) := by decide +kernel
theorem i143_13 : ins 143 13 = some (.iload_n 1, 14, 0, 0) := by decide +kernel
theorem i143_14 : ins 143 14 = some (.aaload, 15, 0, 0) := by decide +kernel
theorem i143_15 : ins 143 15 = some (.getfield 107, 18, 8, 0) := by decide +kernel
theorem i143_18 : ins 143 18 = some (.ifCond .ne (5), 21, 23, 0) := by decide +kernel
theorem i143_21 : ins 143 21 = some (.iconst (0), 22, 0, 0) := by decide +kernel
theorem i143_22 : ins 143 22 = some (.ireturn, 23, 0, 0) := by decide +kernel
theorem i143_23 : ins 143 23 = some (.aload_n 0, 24, 0, 0) := by decide +kernel
theorem i143_24 : ins 143 24 = some (.getfield 34, 27, 11, 4) := by decide +kernel
theorem i143_27 : ins 143 27 = some (.aload_n 0, 28, 0, 0) := by decide +kernel
theorem i143_28 : ins 143 28 = some (.getfield 57, 31, 11, 8) := by decide +kernel
theorem i143_31 : ins 143 31 = some (.iload_n 1, 32, 0, 0) := by decide +kernel
theorem i143_32 : ins 143 32 = some (.aaload, 33, 0, 0) := by decide +kernel
theorem i143_33 : ins 143 33 = some (.getfield 280, 36, 8, 1) := by decide +kernel
theorem i143_36 : ins 143 36 = some (.invokevirtual 237, 39, 89, 0) := by decide +kernel
theorem i143_39 : ins 143 39 = some (.aload_n 0, 40, 0, 0) := by decide +kernel
theorem i143_40 : ins 143 40 = some (.getfield 44, 43, 11, 6) := by decide +kernel
theorem i143_43 : ins 143 43 = some (.aload_n 0, 44, 0, 0) := by decide +kernel
theorem i143_44 : ins 143 44 = some (.getfield 57, 47, 11, 8) := by decide +kernel
theorem i143_47 : ins 143 47 = some (.iload_n 1, 48, 0, 0) := by decide +kernel
theorem i143_48 : ins 143 48 = some (.aaload, 49, 0, 0) := by decide +kernel
theorem i143_49 : ins 143 49 = some (.getfield 283, 52, 8, 2) := by decide +kernel
theorem i143_52 : ins 143 52 = some (.aload_n 0, 53, 0, 0) := by decide +kernel
theorem i143_53 : ins 143 53 = some (.getfield 34, 56, 11, 4) := by decide +kernel
theorem i143_56 : ins 143 56 = some (.invokevirtual 220, 59, 90, 0) := by decide +kernel
theorem i143_59 : ins 143 59 = some (.invokevirtual 284, 62, 17, 0) := by decide +kernel
theorem i143_62 : ins 143 62 = some (.aload_n 0, 63, 0, 0) := by decide +kernel
theorem i143_63 : ins 143 63 = some (.getfield 51, 66, 11, 7) := by decide +kernel
theorem i143_66 : ins 143 66 = some (.invokevirtual 101, 69, 46, 0) := by decide +kernel
theorem i143_69 : ins 143 69 = some (.iconst (1), 70, 0, 1) := by decide +kernel
theorem i143_70 : ins 143 70 = some (.ireturn, 71, 0, 0) := by decide +kernel
theorem i144_0 : ins 144 0 = some (.iload_n 1, 1, 0, 0) := by decide +kernel
theorem i144_1 : ins 144 1 = some (.tableswitch (165) (0) (12) #[67, 75, 83, 91, 99, 107, 115, 123, 131, 139, 144, 152, 160], 68, 0, 0) := by decide +kernel
theorem i144_68 : ins 144 68 = some (.aload_n 0, 69, 0, 0) := by decide +kernel
theorem i144_69 : ins 144 69 = some (.getfield 27, 72, 11, 3) := by decide +kernel
theorem i144_72 : ins 144 72 = some (.getfield 114, 75, 10, 0) := by decide +kernel
theorem i144_75 : ins 144 75 = some (.ireturn, 76, 0, 0) := by decide +kernel
theorem i144_76 : ins 144 76 = some (.aload_n 0, 77, 0, 0) := by decide +kernel
theorem i144_77 : ins 144 77 = some (.getfield 27, 80, 11, 3) := by decide +kernel
theorem i144_80 : ins 144 80 = some (.getfield 117, 83, 10, 1) := by decide +kernel
theorem i144_83 : ins 144 83 = some (.ireturn, 84, 0, 0) := by decide +kernel
theorem i144_84 : ins 144 84 = some (.aload_n 0, 85, 0, 0) := by decide +kernel
theorem i144_85 : ins 144 85 = some (.getfield 27, 88, 11, 3) := by decide +kernel
theorem i144_88 : ins 144 88 = some (.getfield 120, 91, 10, 2) := by decide +kernel
theorem i144_91 : ins 144 91 = some (.ireturn, 92, 0, 0) := by decide +kernel
theorem i144_92 : ins 144 92 = some (.aload_n 0, 93, 0, 0) := by decide +kernel
theorem i144_93 : ins 144 93 = some (.getfield 34, 96, 11, 4) := by decide +kernel
theorem i144_96 : ins 144 96 = some (.getfield 213, 99, 9, 0) := by decide +kernel
theorem i144_99 : ins 144 99 = some (.ireturn, 100, 0, 0) := by decide +kernel
theorem i144_100 : ins 144 100 = some (.aload_n 0, 101, 0, 0) := by decide +kernel
theorem i144_101 : ins 144 101 = some (.getfield 34, 104, 11, 4) := by decide +kernel
theorem i144_104 : ins 144 104 = some (.getfield 287, 107, 9, 2) := by decide +kernel
theorem i144_107 : ins 144 107 = some (.ireturn, 108, 0, 0) := by decide +kernel
theorem i144_108 : ins 144 108 = some (.aload_n 0, 109, 0, 0) := by decide +kernel
theorem i144_109 : ins 144 109 = some (.getfield 34, 112, 11, 4) := by decide +kernel
theorem i144_112 : ins 144 112 = some (.getfield 290, 115, 9, 1) := by decide +kernel
theorem i144_115 : ins 144 115 = some (.ireturn, 116, 0, 0) := by decide +kernel
theorem i144_116 : ins 144 116 = some (.aload_n 0, 117, 0, 0) := by decide +kernel
theorem i144_117 : ins 144 117 = some (.getfield 27, 120, 11, 3) := by decide +kernel
theorem i144_120 : ins 144 120 = some (.getfield 293, 123, 10, 3) := by decide +kernel
theorem i144_123 : ins 144 123 = some (.ireturn, 124, 0, 0) := by decide +kernel
theorem i144_124 : ins 144 124 = some (.aload_n 0, 125, 0, 0) := by decide +kernel
theorem i144_125 : ins 144 125 = some (.getfield 27, 128, 11, 3) := by decide +kernel
theorem i144_128 : ins 144 128 = some (.getfield 295, 131, 10, 4) := by decide +kernel
theorem i144_131 : ins 144 131 = some (.ireturn, 132, 0, 0) := by decide +kernel
theorem i144_132 : ins 144 132 = some (.aload_n 0, 133, 0, 0) := by decide +kernel
theorem i144_133 : ins 144 133 = some (.getfield 34, 136, 11, 4) := by decide +kernel
theorem i144_136 : ins 144 136 = some (.invokevirtual 220, 139, 90, 0) := by decide +kernel
theorem i144_139 : ins 144 139 = some (.ireturn, 140, 0, 0) := by decide +kernel
theorem i144_140 : ins 144 140 = some (.aload_n 0, 141, 0, 0) := by decide +kernel
theorem i144_141 : ins 144 141 = some (.getfield 13, 144, 11, 1) := by decide +kernel
theorem i144_144 : ins 144 144 = some (.ireturn, 145, 0, 0) := by decide +kernel
theorem i144_145 : ins 144 145 = some (.aload_n 0, 146, 0, 0) := by decide +kernel
theorem i144_146 : ins 144 146 = some (.getfield 51, 149, 11, 7) := by decide +kernel
theorem i144_149 : ins 144 149 = some (.getfield 298, 152, 4, 0) := by decide +kernel
theorem i144_152 : ins 144 152 = some (.ireturn, 153, 0, 0) := by decide +kernel
theorem i144_153 : ins 144 153 = some (.aload_n 0, 154, 0, 0) := by decide +kernel
theorem i144_154 : ins 144 154 = some (.getfield 64, 157, 11, 9) := by decide +kernel
theorem i144_157 : ins 144 157 = some (.getfield 104, 160, 3, 0) := by decide +kernel
theorem i144_160 : ins 144 160 = some (.ireturn, 161, 0, 0) := by decide +kernel
theorem i144_161 : ins 144 161 = some (.aload_n 0, 162, 0, 0) := by decide +kernel
theorem i144_162 : ins 144 162 = some (.invokevirtual 299, 165, 145, 0) := by decide +kernel
theorem i144_165 : ins 144 165 = some (.ireturn, 166, 0, 0) := by decide +kernel
theorem i144_166 : ins 144 166 = some (.iconst (-1), 167, 0, -1) := by decide +kernel
theorem i144_167 : ins 144 167 = some (.ireturn, 168, 0, 0) := by decide +kernel
theorem i145_0 : ins 145 0 = some (.iconst (0), 1, 0, 0) := by decide +kernel
theorem i145_1 : ins 145 1 = some (.istore_n 1, 2, 0, 0) := by decide +kernel
theorem i145_2 : ins 145 2 = some (.iconst (0), 3, 0, 0) := by decide +kernel
theorem i145_3 : ins 145 3 = some (.istore_n 2, 4, 0, 0) := by decide +kernel
theorem i145_4 : ins 145 4 = some (.iload_n 2, 5, 0, 0) := by decide +kernel
theorem i145_5 : ins 145 5 = some (.iconst (3), 6, 0, 3) := by decide +kernel
theorem i145_6 : ins 145 6 = some (.if_icmp .ge (24), 9, 30, 0) := by decide +kernel
theorem i145_9 : ins 145 9 = some (.aload_n 0, 10, 0, 0) := by decide +kernel
theorem i145_10 : ins 145 10 = some (.getfield 57, 13, 11, 8) := by decide +kernel
theorem i145_13 : ins 145 13 = some (.iload_n 2, 14, 0, 0) := by decide +kernel
theorem i145_14 : ins 145 14 = some (.aaload, 15, 0, 0) := by decide +kernel
theorem i145_15 : ins 145 15 = some (.getfield 107, 18, 8, 0) := by decide +kernel
theorem i145_18 : ins 145 18 = some (.ifCond .eq (6), 21, 24, 0) := by decide +kernel
theorem i145_21 : ins 145 21 = some (.iinc 1 (1), 24, 0, 1) := by decide +kernel
theorem i145_24 : ins 145 24 = some (.iinc 2 (1), 27, 0, 1) := by decide +kernel
theorem i145_27 : ins 145 27 = some (.goto (-23), 30, 4, 0) := by decide +kernel
theorem i145_30 : ins 145 30 = some (.iload_n 1, 31, 0, 0) := by decide +kernel
theorem i145_31 : ins 145 31 = some (.ireturn, 32, 0, 0) := by decide +kernel
theorem i147_0 : ins 147 0 = some (.aload_n 0, 1, 0, 0) := by decide +kernel
theorem i147_1 : ins 147 1 = some (.invokespecial 7, 4, 1000, 0) := by decide +kernel
theorem i147_4 : ins 147 4 = some (.aload_n 0, 5, 0, 0) := by decide +kernel
theorem i147_5 : ins 147 5 = some (.sipush (2000), 8, 0, 2000) := by decide +kernel
theorem i147_8 : ins 147 8 = some (.newarray .byte, 10, 0, 0) := by decide +kernel
theorem i147_10 : ins 147 10 = some (.putfield 13, 13, 12, 1) := by decide +kernel
theorem i147_13 : ins 147 13 = some (.aload_n 0, 14, 0, 0) := by decide +kernel
theorem i147_14 : ins 147 14 = some (.sipush (2000), 17, 0, 2000) := by decide +kernel
theorem i147_17 : ins 147 17 = some (.newarray .byte, 19, 0, 0) := by decide +kernel
theorem i147_19 : ins 147 19 = some (.putfield 17, 22, 12, 3) := by decide +kernel
theorem i147_22 : ins 147 22 = some (.aload_n 0, 23, 0, 0) := by decide +kernel
theorem i147_23 : ins 147 23 = some (.sipush (403), 26, 0, 403) := by decide +kernel
theorem i147_26 : ins 147 26 = some (.newarray .int, 28, 0, 0) := by decide +kernel
theorem i147_28 : ins 147 28 = some (.putfield 20, 31, 12, 5) := by decide +kernel
theorem i147_31 : ins 147 31 = some (.aload_n 0, 32, 0, 0) := by decide +kernel
theorem i147_32 : ins 147 32 = some (.sipush (403), 35, 0, 403) := by decide +kernel
theorem i147_35 : ins 147 35 = some (.newarray .int, 37, 0, 0) := by decide +kernel
theorem i147_37 : ins 147 37 = some (.putfield 24, 40, 12, 6) := by decide +kernel
theorem i147_40 : ins 147 40 = some (.aload_n 0, 41, 0, 0) := by decide +kernel
theorem i147_41 : ins 147 41 = some (.sipush (403), 44, 0, 403) := by decide +kernel
theorem i147_44 : ins 147 44 = some (.newarray .int, 46, 0, 0) := by decide +kernel
theorem i147_46 : ins 147 46 = some (.putfield 27, 49, 12, 7) := by decide +kernel
theorem i147_49 : ins 147 49 = some (.aload_n 0, 50, 0, 0) := by decide +kernel
theorem i147_50 : ins 147 50 = some (.sipush (403), 53, 0, 403) := by decide +kernel
theorem i147_53 : ins 147 53 = some (.newarray .long, 55, 0, 0) := by decide +kernel
theorem i147_55 : ins 147 55 = some (.putfield 30, 58, 12, 8) := by decide +kernel
theorem i147_58 : ins 147 58 = some (.aload_n 0, 59, 0, 0) := by decide +kernel
theorem i147_59 : ins 147 59 = some (.bipush (17), 61, 0, 17) := by decide +kernel
theorem i147_61 : ins 147 61 = some (.newarray .long, 63, 0, 0) := by decide +kernel
theorem i147_63 : ins 147 63 = some (.putfield 34, 66, 12, 9) := by decide +kernel
theorem i147_66 : ins 147 66 = some (.aload_n 0, 67, 0, 0) := by decide +kernel
theorem i147_67 : ins 147 67 = some (.iconst (-1), 68, 0, -1) := by decide +kernel
theorem i147_68 : ins 147 68 = some (.putfield 37, 71, 12, 17) := by decide +kernel
theorem i147_71 : ins 147 71 = some (.aload_n 0, 72, 0, 0) := by decide +kernel
theorem i147_72 : ins 147 72 = some (.bipush (15), 74, 0, 15) := by decide +kernel
theorem i147_74 : ins 147 74 = some (.newarray .long, 76, 0, 0) := by decide +kernel
theorem i147_76 : ins 147 76 = some (.putfield 40, 79, 12, 21) := by decide +kernel
theorem i147_79 : ins 147 79 = some (.aload_n 0, 80, 0, 0) := by decide +kernel
theorem i147_80 : ins 147 80 = some (.bipush (15), 82, 0, 15) := by decide +kernel
theorem i147_82 : ins 147 82 = some (.newarray .int, 84, 0, 0) := by decide +kernel
theorem i147_84 : ins 147 84 = some (.putfield 43, 87, 12, 22) := by decide +kernel
theorem i147_87 : ins 147 87 = some (.aload_n 0, 88, 0, 0) := by decide +kernel
theorem i147_88 : ins 147 88 = some (.iconst (2), 89, 0, 2) := by decide +kernel
theorem i147_89 : ins 147 89 = some (.newarray .int, 91, 0, 0) := by decide +kernel
theorem i147_91 : ins 147 91 = some (.putfield 46, 94, 12, 23) := by decide +kernel
theorem i147_94 : ins 147 94 = some (.aload_n 0, 95, 0, 0) := by decide +kernel
theorem i147_95 : ins 147 95 = some (.bipush (12), 97, 0, 12) := by decide +kernel
theorem i147_97 : ins 147 97 = some (.newarray .int, 99, 0, 0) := by decide +kernel
theorem i147_99 : ins 147 99 = some (.putfield 49, 102, 12, 24) := by decide +kernel
theorem i147_102 : ins 147 102 = some (.aload_n 0, 103, 0, 0) := by decide +kernel
theorem i147_103 : ins 147 103 = some (.iconst (2), 104, 0, 2) := by decide +kernel
theorem i147_104 : ins 147 104 = some (.newarray .int, 106, 0, 0) := by decide +kernel
theorem i147_106 : ins 147 106 = some (.putfield 52, 109, 12, 25) := by decide +kernel
theorem i147_109 : ins 147 109 = some (.aload_n 0, 110, 0, 0) := by decide +kernel
theorem i147_110 : ins 147 110 = some (.bipush (12), 112, 0, 12) := by decide +kernel
theorem i147_112 : ins 147 112 = some (.newarray .int, 114, 0, 0) := by decide +kernel
theorem i147_114 : ins 147 114 = some (.putfield 55, 117, 12, 26) := by decide +kernel
theorem i147_117 : ins 147 117 = some (.aload_n 0, 118, 0, 0) := by decide +kernel
theorem i147_118 : ins 147 118 = some (.bipush (12), 120, 0, 12) := by decide +kernel
theorem i147_120 : ins 147 120 = some (.newarray .int, 122, 0, 0) := by decide +kernel
theorem i147_122 : ins 147 122 = some (.putfield 58, 125, 12, 27) := by decide +kernel
theorem i147_125 : ins 147 125 = some (.aload_n 0, 126, 0, 0) := by decide +kernel
theorem i147_126 : ins 147 126 = some (.bipush (72), 128, 0, 72) := by decide +kernel
theorem i147_128 : ins 147 128 = some (.newarray .int, 130, 0, 0) := by decide +kernel
theorem i147_130 : ins 147 130 = some (.putfield 61, 133, 12, 28) := by decide +kernel
theorem i147_133 : ins 147 133 = some (.aload_n 0, 134, 0, 0) := by decide +kernel
theorem i147_134 : ins 147 134 = some (.iconst (2), 135, 0, 2) := by decide +kernel
theorem i147_135 : ins 147 135 = some (.newarray .int, 137, 0, 0) := by decide +kernel
theorem i147_137 : ins 147 137 = some (.putfield 64, 140, 12, 29) := by decide +kernel
theorem i147_140 : ins 147 140 = some (.aload_n 0, 141, 0, 0) := by decide +kernel
theorem i147_141 : ins 147 141 = some (.iconst (2), 142, 0, 2) := by decide +kernel
theorem i147_142 : ins 147 142 = some (.newarray .int, 144, 0, 0) := by decide +kernel
theorem i147_144 : ins 147 144 = some (.putfield 67, 147, 12, 30) := by decide +kernel
theorem i147_147 : ins 147 147 = some (.aload_n 0, 148, 0, 0) := by decide +kernel
theorem i147_148 : ins 147 148 = some (.iconst (2), 149, 0, 2) := by decide +kernel
theorem i147_149 : ins 147 149 = some (.newarray .int, 151, 0, 0) := by decide +kernel
theorem i147_151 : ins 147 151 = some (.putfield 70, 154, 12, 31) := by decide +kernel
theorem i147_154 : ins 147 154 = some (.aload_n 0, 155, 0, 0) := by decide +kernel
theorem i147_155 : ins 147 155 = some (.iconst (2), 156, 0, 2) := by decide +kernel
theorem i147_156 : ins 147 156 = some (.newarray .int, 158, 0, 0) := by decide +kernel
theorem i147_158 : ins 147 158 = some (.putfield 73, 161, 12, 32) := by decide +kernel
theorem i147_161 : ins 147 161 = some (.aload_n 0, 162, 0, 0) := by decide +kernel
theorem i147_162 : ins 147 162 = some (.bipush (20), 164, 0, 20) := by decide +kernel
theorem i147_164 : ins 147 164 = some (.newarray .int, 166, 0, 0) := by decide +kernel
theorem i147_166 : ins 147 166 = some (.putfield 76, 169, 12, 33) := by decide +kernel
theorem i147_169 : ins 147 169 = some (.aload_n 0, 170, 0, 0) := by decide +kernel
theorem i147_170 : ins 147 170 = some (.bipush (20), 172, 0, 20) := by decide +kernel
theorem i147_172 : ins 147 172 = some (.newarray .int, 174, 0, 0) := by decide +kernel
theorem i147_174 : ins 147 174 = some (.putfield 79, 177, 12, 34) := by decide +kernel
theorem i147_177 : ins 147 177 = some (.aload_n 0, 178, 0, 0) := by decide +kernel
theorem i147_178 : ins 147 178 = some (.sipush (260), 181, 0, 260) := by decide +kernel
theorem i147_181 : ins 147 181 = some (.newarray .boolean, 183, 0, 0) := by decide +kernel
theorem i147_183 : ins 147 183 = some (.putfield 82, 186, 12, 36) := by decide +kernel
theorem i147_186 : ins 147 186 = some (.aload_n 0, 187, 0, 0) := by decide +kernel
theorem i147_187 : ins 147 187 = some (.sipush (260), 190, 0, 260) := by decide +kernel
theorem i147_190 : ins 147 190 = some (.newarray .int, 192, 0, 0) := by decide +kernel
theorem i147_192 : ins 147 192 = some (.putfield 86, 195, 12, 37) := by decide +kernel
theorem i147_195 : ins 147 195 = some (.aload_n 0, 196, 0, 0) := by decide +kernel
theorem i147_196 : ins 147 196 = some (.sipush (260), 199, 0, 260) := by decide +kernel
theorem i147_199 : ins 147 199 = some (.newarray .int, 201, 0, 0) := by decide +kernel
theorem i147_201 : ins 147 201 = some (.putfield 89, 204, 12, 38) := by decide +kernel
theorem i147_204 : ins 147 204 = some (.aload_n 0, 205, 0, 0) := by decide +kernel
theorem i147_205 : ins 147 205 = some (.sipush (260), 208, 0, 260) := by decide +kernel
theorem i147_208 : ins 147 208 = some (.newarray .int, 210, 0, 0) := by decide +kernel
theorem i147_210 : ins 147 210 = some (.putfield 92, 213, 12, 39) := by decide +kernel
theorem i147_213 : ins 147 213 = some (.aload_n 0, 214, 0, 0) := by decide +kernel
theorem i147_214 : ins 147 214 = some (.sipush (260), 217, 0, 260) := by decide +kernel
theorem i147_217 : ins 147 217 = some (.newarray .int, 219, 0, 0) := by decide +kernel
theorem i147_219 : ins 147 219 = some (.putfield 95, 222, 12, 40) := by decide +kernel
theorem i147_222 : ins 147 222 = some (.aload_n 0, 223, 0, 0) := by decide +kernel
theorem i147_223 : ins 147 223 = some (.sipush (840), 226, 0, 840) := by decide +kernel
theorem i147_226 : ins 147 226 = some (.newarray .int, 228, 0, 0) := by decide +kernel
theorem i147_228 : ins 147 228 = some (.putfield 98, 231, 12, 42) := by decide +kernel
theorem i147_231 : ins 147 231 = some (.aload_n 0, 232, 0, 0) := by decide +kernel
theorem i147_232 : ins 147 232 = some (.sipush (840), 235, 0, 840) := by decide +kernel
theorem i147_235 : ins 147 235 = some (.newarray .int, 237, 0, 0) := by decide +kernel
theorem i147_237 : ins 147 237 = some (.putfield 101, 240, 12, 43) := by decide +kernel
theorem i147_240 : ins 147 240 = some (.aload_n 0, 241, 0, 0) := by decide +kernel
theorem i147_241 : ins 147 241 = some (.bipush (64), 243, 0, 64) := by decide +kernel
theorem i147_243 : ins 147 243 = some (.newarray .int, 245, 0, 0) := by decide +kernel
theorem i147_245 : ins 147 245 = some (.putfield 104, 248, 12, 44) := by decide +kernel
theorem i147_248 : ins 147 248 = some (.aload_n 0, 249, 0, 0) := by decide +kernel
theorem i147_249 : ins 147 249 = some (.bipush (7), 251, 0, 7) := by decide +kernel
theorem i147_251 : ins 147 251 = some (.newarray .int, 253, 0, 0) := by decide +kernel
theorem i147_253 : ins 147 253 = some (.putfield 107, 256, 12, 46) := by decide +kernel
theorem i147_256 : ins 147 256 = some (.aload_n 0, 257, 0, 0) := by decide +kernel
theorem i147_257 : ins 147 257 = some (.sipush (400), 260, 0, 400) := by decide +kernel
theorem i147_260 : ins 147 260 = some (.newarray .int, 262, 0, 0) := by decide +kernel
theorem i147_262 : ins 147 262 = some (.putfield 110, 265, 12, 47) := by decide +kernel
theorem i147_265 : ins 147 265 = some (.aload_n 0, 266, 0, 0) := by decide +kernel
theorem i147_266 : ins 147 266 = some (.sipush (2860), 269, 0, 2860) := by decide +kernel
theorem i147_269 : ins 147 269 = some (.newarray .int, 271, 0, 0) := by decide +kernel
theorem i147_271 : ins 147 271 = some (.putfield 113, 274, 12, 49) := by decide +kernel
theorem i147_274 : ins 147 274 = some (.aload_n 0, 275, 0, 0) := by decide +kernel
theorem i147_275 : ins 147 275 = some (.sipush (2860), 278, 0, 2860) := by decide +kernel
theorem i147_278 : ins 147 278 = some (.newarray .int, 280, 0, 0) := by decide +kernel
theorem i147_280 : ins 147 280 = some (.putfield 116, 283, 12, 50) := by decide +kernel
theorem i147_283 : ins 147 283 = some (.aload_n 0, 284, 0, 0) := by decide +kernel
theorem i147_284 : ins 147 284 = some (.bipush (6), 286, 0, 6) := by decide +kernel
theorem i147_286 : ins 147 286 = some (.newarray .int, 288, 0, 0) := by decide +kernel
theorem i147_288 : ins 147 288 = some (.putfield 119, 291, 12, 56) := by decide +kernel
theorem i147_291 : ins 147 291 = some (.aload_n 0, 292, 0, 0) := by decide +kernel
theorem i147_292 : ins 147 292 = some (.iconst (3), 293, 0, 3) := by decide +kernel
theorem i147_293 : ins 147 293 = some (.newarray .int, 295, 0, 0) := by decide +kernel
theorem i147_295 : ins 147 295 = some (.putfield 122, 298, 12, 57) := by decide +kernel
theorem i147_298 : ins 147 298 = some (.aload_n 0, 299, 0, 0) := by decide +kernel
theorem i147_299 : ins 147 299 = some (.ldc 125, 301, 0, 85800) := by decide +kernel
theorem i147_301 : ins 147 301 = some (.newarray .int, 303, 0, 0) := by decide +kernel
theorem i147_303 : ins 147 303 = some (.putfield 126, 306, 12, 59) := by decide +kernel
theorem i147_306 : ins 147 306 = some (.aload_n 0, 307, 0, 0) := by decide +kernel
theorem i147_307 : ins 147 307 = some (.bipush (91), 309, 0, 91) := by decide +kernel
theorem i147_309 : ins 147 309 = some (.newarray .int, 311, 0, 0) := by decide +kernel
theorem i147_311 : ins 147 311 = some (.putfield 129, 314, 12, 60) := by decide +kernel
theorem i147_314 : ins 147 314 = some (.aload_n 0, 315, 0, 0) := by decide +kernel
theorem i147_315 : ins 147 315 = some (.bipush (6), 317, 0, 6) := by decide +kernel
theorem i147_317 : ins 147 317 = some (.newarray .int, 319, 0, 0) := by decide +kernel
theorem i147_319 : ins 147 319 = some (.putfield 132, 322, 12, 61) := by decide +kernel
theorem i147_322 : ins 147 322 = some (.aload_n 0, 323, 0, 0) := by decide +kernel
theorem i147_323 : ins 147 323 = some (.bipush (78), 325, 0, 78) := by decide +kernel
theorem i147_325 : ins 147 325 = some (.newarray .int, 327, 0, 0) := by decide +kernel
theorem i147_327 : ins 147 327 = some (.putfield 135, 330, 12, 62) := by decide +kernel
theorem i147_330 : ins 147 330 = some (.aload_n 0, 331, 0, 0) := by decide +kernel
theorem i147_331 : ins 147 331 = some (.bipush (20), 333, 0, 20) := by decide +kernel
theorem i147_333 : ins 147 333 = some (.newarray .int, 335, 0, 0) := by decide +kernel
theorem i147_335 : ins 147 335 = some (.putfield 138, 338, 12, 64) := by decide +kernel
theorem i147_338 : ins 147 338 = some (.aload_n 0, 339, 0, 0) := by decide +kernel
theorem i147_339 : ins 147 339 = some (.bipush (20), 341, 0, 20) := by decide +kernel
theorem i147_341 : ins 147 341 = some (.newarray .int, 343, 0, 0) := by decide +kernel
theorem i147_343 : ins 147 343 = some (.putfield 141, 346, 12, 65) := by decide +kernel
theorem i147_346 : ins 147 346 = some (.aload_n 0, 347, 0, 0) := by decide +kernel
theorem i147_347 : ins 147 347 = some (.iconst (3), 348, 0, 3) := by decide +kernel
theorem i147_348 : ins 147 348 = some (.newarray .boolean, 350, 0, 0) := by decide +kernel
theorem i147_350 : ins 147 350 = some (.putfield 144, 353, 12, 66) := by decide +kernel
theorem i147_353 : ins 147 353 = some (.aload_n 0, 354, 0, 0) := by decide +kernel
theorem i147_354 : ins 147 354 = some (.sipush (8580), 357, 0, 8580) := by decide +kernel
theorem i147_357 : ins 147 357 = some (.newarray .int, 359, 0, 0) := by decide +kernel
theorem i147_359 : ins 147 359 = some (.putfield 147, 362, 12, 67) := by decide +kernel
theorem i147_362 : ins 147 362 = some (.aload_n 0, 363, 0, 0) := by decide +kernel
theorem i147_363 : ins 147 363 = some (.iconst (0), 364, 0, 0) := by decide +kernel
theorem i147_364 : ins 147 364 = some (.invokevirtual 150, 367, 164, 0) := by decide +kernel
theorem i147_367 : ins 147 367 = some (.aload_n 0, 368, 0, 0) := by decide +kernel
theorem i147_368 : ins 147 368 = some (.getfield 34, 371, 12, 9) := by decide +kernel
theorem i147_371 : ins 147 371 = some (.iconst (0), 372, 0, 0) := by decide +kernel
theorem i147_372 : ins 147 372 = some (.bipush (108), 374, 0, 108) := by decide +kernel
theorem i147_374 : ins 147 374 = some (.bipush (101), 376, 0, 101) := by decide +kernel
theorem i147_376 : ins 147 376 = some (.bipush (116), 378, 0, 116) := by decide +kernel
theorem i147_378 : ins 147 378 = some (.bipush (116), 380, 0, 116) := by decide +kernel
theorem i147_380 : ins 147 380 = some (.bipush (101), 382, 0, 101) := by decide +kernel
theorem i147_382 : ins 147 382 = some (.bipush (114), 384, 0, 114) := by decide +kernel
theorem i147_384 : ins 147 384 = some (.iconst (0), 385, 0, 0) := by decide +kernel
theorem i147_385 : ins 147 385 = some (.invokestatic 154, 388, 155, 0) := by decide +kernel
theorem i147_388 : ins 147 388 = some (.lastore, 389, 0, 0) := by decide +kernel
theorem i147_389 : ins 147 389 = some (.aload_n 0, 390, 0, 0) := by decide +kernel
theorem i147_390 : ins 147 390 = some (.getfield 34, 393, 12, 9) := by decide +kernel
theorem i147_393 : ins 147 393 = some (.iconst (1), 394, 0, 1) := by decide +kernel
theorem i147_394 : ins 147 394 = some (.bipush (104), 396, 0, 104) := by decide +kernel
theorem i147_396 : ins 147 396 = some (.bipush (101), 398, 0, 101) := by decide +kernel
theorem i147_398 : ins 147 398 = some (.bipush (105), 400, 0, 105) := by decide +kernel
theorem i147_400 : ins 147 400 = some (.bipush (114), 402, 0, 114) := by decide +kernel
theorem i147_402 : ins 147 402 = some (.iconst (0), 403, 0, 0) := by decide +kernel
theorem i147_403 : ins 147 403 = some (.iconst (0), 404, 0, 0) := by decide +kernel
theorem i147_404 : ins 147 404 = some (.iconst (0), 405, 0, 0) := by decide +kernel
theorem i147_405 : ins 147 405 = some (.invokestatic 154, 408, 155, 0) := by decide +kernel
theorem i147_408 : ins 147 408 = some (.lastore, 409, 0, 0) := by decide +kernel
theorem i147_409 : ins 147 409 = some (.aload_n 0, 410, 0, 0) := by decide +kernel
theorem i147_410 : ins 147 410 = some (.getfield 34, 413, 12, 9) := by decide +kernel
theorem i147_413 : ins 147 413 = some (.iconst (2), 414, 0, 2) := by decide +kernel
theorem i147_414 : ins 147 414 = some (.bipush (109), 416, 0, 109) := by decide +kernel
theorem i147_416 : ins 147 416 = some (.bipush (97), 418, 0, 97) := by decide +kernel
theorem i147_418 : ins 147 418 = some (.bipush (115), 420, 0, 115) := by decide +kernel
theorem i147_420 : ins 147 420 = some (.bipush (116), 422, 0, 116) := by decide +kernel
theorem i147_422 : ins 147 422 = some (.bipush (101), 424, 0, 101) := by decide +kernel
theorem i147_424 : ins 147 424 = some (.bipush (114), 426, 0, 114) := by decide +kernel
theorem i147_426 : ins 147 426 = some (.iconst (0), 427, 0, 0) := by decide +kernel
theorem i147_427 : ins 147 427 = some (.invokestatic 154, 430, 155, 0) := by decide +kernel
theorem i147_430 : ins 147 430 = some (.lastore, 431, 0, 0) := by decide +kernel
theorem i147_431 : ins 147 431 = some (.aload_n 0, 432, 0, 0) := by decide +kernel
theorem i147_432 : ins 147 432 = some (.getfield 34, 435, 12, 9) := by decide +kernel
theorem i147_435 : ins 147 435 = some (.iconst (3), 436, 0, 3) := by decide +kernel
theorem i147_436 : ins 147 436 = some (.bipush (108), 438, 0, 108) := by decide +kernel
theorem i147_438 : ins 147 438 = some (.bipush (101), 440, 0, 101) := by decide +kernel
theorem i147_440 : ins 147 440 = some (.bipush (97), 442, 0, 97) := by decide +kernel
theorem i147_442 : ins 147 442 = some (.bipush (114), 444, 0, 114) := by decide +kernel
theorem i147_444 : ins 147 444 = some (.bipush (110), 446, 0, 110) := by decide +kernel
theorem i147_446 : ins 147 446 = some (.iconst (0), 447, 0, 0) := by decide +kernel
theorem i147_447 : ins 147 447 = some (.iconst (0), 448, 0, 0) := by decide +kernel
theorem i147_448 : ins 147 448 = some (.invokestatic 154, 451, 155, 0) := by decide +kernel
theorem i147_451 : ins 147 451 = some (.lastore, 452, 0, 0) := by decide +kernel
theorem i147_452 : ins 147 452 = some (.aload_n 0, 453, 0, 0) := by decide +kernel
theorem i147_453 : ins 147 453 = some (.getfield 34, 456, 12, 9) := by decide +kernel
theorem i147_456 : ins 147 456 = some (.iconst (4), 457, 0, 4) := by decide +kernel
theorem i147_457 : ins 147 457 = some (.bipush (100), 459, 0, 100) := by decide +kernel
theorem i147_459 : ins 147 459 = some (.bipush (114), 461, 0, 114) := by decide +kernel
theorem i147_461 : ins 147 461 = some (.bipush (105), 463, 0, 105) := by decide +kernel
theorem i147_463 : ins 147 463 = some (.bipush (102), 465, 0, 102) := by decide +kernel
theorem i147_465 : ins 147 465 = some (.bipush (116), 467, 0, 116) := by decide +kernel
theorem i147_467 : ins 147 467 = some (.iconst (0), 468, 0, 0) := by decide +kernel
theorem i147_468 : ins 147 468 = some (.iconst (0), 469, 0, 0) := by decide +kernel
theorem i147_469 : ins 147 469 = some (.invokestatic 154, 472, 155, 0) := by decide +kernel
theorem i147_472 : ins 147 472 = some (.lastore, 473, 0, 0) := by decide +kernel
theorem i147_473 : ins 147 473 = some (.aload_n 0, 474, 0, 0) := by decide +kernel
theorem i147_474 : ins 147 474 = some (.getfield 34, 477, 12, 9) := by decide +kernel
theorem i147_477 : ins 147 477 = some (.iconst (5), 478, 0, 5) := by decide +kernel
theorem i147_478 : ins 147 478 = some (.bipush (100), 480, 0, 100) := by decide +kernel
theorem i147_480 : ins 147 480 = some (.bipush (97), 482, 0, 97) := by decide +kernel
theorem i147_482 : ins 147 482 = some (.bipush (121), 484, 0, 121) := by decide +kernel
theorem i147_484 : ins 147 484 = some (.bipush (115), 486, 0, 115) := by decide +kernel
theorem i147_486 : ins 147 486 = some (.iconst (0), 487, 0, 0) := by decide +kernel
theorem i147_487 : ins 147 487 = some (.iconst (0), 488, 0, 0) := by decide +kernel
theorem i147_488 : ins 147 488 = some (.iconst (0), 489, 0, 0) := by decide +kernel
theorem i147_489 : ins 147 489 = some (.invokestatic 154, 492, 155, 0) := by decide +kernel
theorem i147_492 : ins 147 492 = some (.lastore, 493, 0, 0) := by decide +kernel
theorem i147_493 : ins 147 493 = some (.aload_n 0, 494, 0, 0) := by decide +kernel
theorem i147_494 : ins 147 494 = some (.getfield 34, 497, 12, 9) := by decide +kernel
theorem i147_497 : ins 147 497 = some (.bipush (6), 499, 0, 6) := by decide +kernel
theorem i147_499 : ins 147 499 = some (.bipush (108), 501, 0, 108) := by decide +kernel
theorem i147_501 : ins 147 501 = some (.bipush (105), 503, 0, 105) := by decide +kernel
theorem i147_503 : ins 147 503 = some (.bipush (109), 505, 0, 109) := by decide +kernel
theorem i147_505 : ins 147 505 = some (.bipush (105), 507, 0, 105) := by decide +kernel
theorem i147_507 : ins 147 507 = some (.bipush (116), 509, 0, 116) := by decide +kernel
theorem i147_509 : ins 147 509 = some (.iconst (0), 510, 0, 0) := by decide +kernel
theorem i147_510 : ins 147 510 = some (.iconst (0), 511, 0, 0) := by decide +kernel
theorem i147_511 : ins 147 511 = some (.invokestatic 154, 514, 155, 0) := by decide +kernel
theorem i147_514 : ins 147 514 = some (.lastore, 515, 0, 0) := by decide +kernel
theorem i147_515 : ins 147 515 = some (.aload_n 0, 516, 0, 0) := by decide +kernel
theorem i147_516 : ins 147 516 = some (.getfield 34, 519, 12, 9) := by decide +kernel
theorem i147_519 : ins 147 519 = some (.bipush (7), 521, 0, 7) := by decide +kernel
theorem i147_521 : ins 147 521 = some (.bipush (115), 523, 0, 115) := by decide +kernel
theorem i147_523 : ins 147 523 = some (.bipush (101), 525, 0, 101) := by decide +kernel
theorem i147_525 : ins 147 525 = some (.bipush (101), 527, 0, 101) := by decide +kernel
theorem i147_527 : ins 147 527 = some (.bipush (100), 529, 0, 100) := by decide +kernel
theorem i147_529 : ins 147 529 = some (.iconst (0), 530, 0, 0) := by decide +kernel
theorem i147_530 : ins 147 530 = some (.iconst (0), 531, 0, 0) := by decide +kernel
theorem i147_531 : ins 147 531 = some (.iconst (0), 532, 0, 0) := by decide +kernel
theorem i147_532 : ins 147 532 = some (.invokestatic 154, 535, 155, 0) := by decide +kernel
theorem i147_535 : ins 147 535 = some (.lastore, 536, 0, 0) := by decide +kernel
theorem i147_536 : ins 147 536 = some (.aload_n 0, 537, 0, 0) := by decide +kernel
theorem i147_537 : ins 147 537 = some (.getfield 34, 540, 12, 9) := by decide +kernel
theorem i147_540 : ins 147 540 = some (.bipush (8), 542, 0, 8) := by decide +kernel
theorem i147_542 : ins 147 542 = some (.bipush (105), 544, 0, 105) := by decide +kernel
theorem i147_544 : ins 147 544 = some (.bipush (102), 546, 0, 102) := by decide +kernel
theorem i147_546 : ins 147 546 = some (.iconst (0), 547, 0, 0) := by decide +kernel
theorem i147_547 : ins 147 547 = some (.iconst (0), 548, 0, 0) := by decide +kernel
theorem i147_548 : ins 147 548 = some (.iconst (0), 549, 0, 0) := by decide +kernel
theorem i147_549 : ins 147 549 = some (.iconst (0), 550, 0, 0) := by decide +kernel
theorem i147_550 : ins 147 550 = some (.iconst (0), 551, 0, 0) := by decide +kernel
theorem i147_551 : ins 147 551 = some (.invokestatic 154, 554, 155, 0) := by decide +kernel
theorem i147_554 : ins 147 554 = some (.lastore, 555, 0, 0) := by decide +kernel
theorem i147_555 : ins 147 555 = some (.aload_n 0, 556, 0, 0) := by decide +kernel
theorem i147_556 : ins 147 556 = some (.getfield 34, 559, 12, 9) := by decide +kernel
theorem i147_559 : ins 147 559 = some (.bipush (9), 561, 0, 9) := by decide +kernel
theorem i147_561 : ins 147 561 = some (.bipush (116), 563, 0, 116) := by decide +kernel
theorem i147_563 : ins 147 563 = some (.bipush (104), 565, 0, 104) := by decide +kernel
theorem i147_565 : ins 147 565 = some (.bipush (101), 567, 0, 101) := by decide +kernel
theorem i147_567 : ins 147 567 = some (.bipush (110), 569, 0, 110) := by decide +kernel
theorem i147_569 : ins 147 569 = some (.iconst (0), 570, 0, 0) := by decide +kernel
theorem i147_570 : ins 147 570 = some (.iconst (0), 571, 0, 0) := by decide +kernel
theorem i147_571 : ins 147 571 = some (.iconst (0), 572, 0, 0) := by decide +kernel
theorem i147_572 : ins 147 572 = some (.invokestatic 154, 575, 155, 0) := by decide +kernel
theorem i147_575 : ins 147 575 = some (.lastore, 576, 0, 0) := by decide +kernel
theorem i147_576 : ins 147 576 = some (.aload_n 0, 577, 0, 0) := by decide +kernel
theorem i147_577 : ins 147 577 = some (.getfield 34, 580, 12, 9) := by decide +kernel
theorem i147_580 : ins 147 580 = some (.bipush (10), 582, 0, 10) := by decide +kernel
theorem i147_582 : ins 147 582 = some (.bipush (101), 584, 0, 101) := by decide +kernel
theorem i147_584 : ins 147 584 = some (.bipush (108), 586, 0, 108) := by decide +kernel
theorem i147_586 : ins 147 586 = some (.bipush (115), 588, 0, 115) := by decide +kernel
theorem i147_588 : ins 147 588 = some (.bipush (101), 590, 0, 101) := by decide +kernel
theorem i147_590 : ins 147 590 = some (.iconst (0), 591, 0, 0) := by decide +kernel
theorem i147_591 : ins 147 591 = some (.iconst (0), 592, 0, 0) := by decide +kernel
theorem i147_592 : ins 147 592 = some (.iconst (0), 593, 0, 0) := by decide +kernel
theorem i147_593 : ins 147 593 = some (.invokestatic 154, 596, 155, 0) := by decide +kernel
theorem i147_596 : ins 147 596 = some (.lastore, 597, 0, 0) := by decide +kernel
theorem i147_597 : ins 147 597 = some (.aload_n 0, 598, 0, 0) := by decide +kernel
theorem i147_598 : ins 147 598 = some (.getfield 34, 601, 12, 9) := by decide +kernel
theorem i147_601 : ins 147 601 = some (.bipush (11), 603, 0, 11) := by decide +kernel
theorem i147_603 : ins 147 603 = some (.bipush (111), 605, 0, 111) := by decide +kernel
theorem i147_605 : ins 147 605 = some (.bipush (102), 607, 0, 102) := by decide +kernel
theorem i147_607 : ins 147 607 = some (.bipush (102), 609, 0, 102) := by decide +kernel
theorem i147_609 : ins 147 609 = some (.iconst (0), 610, 0, 0) := by decide +kernel
theorem i147_610 : ins 147 610 = some (.iconst (0), 611, 0, 0) := by decide +kernel
theorem i147_611 : ins 147 611 = some (.iconst (0), 612, 0, 0) := by decide +kernel
theorem i147_612 : ins 147 612 = some (.iconst (0), 613, 0, 0) := by decide +kernel
theorem i147_613 : ins 147 613 = some (.invokestatic 154, 616, 155, 0) := by decide +kernel
theorem i147_616 : ins 147 616 = some (.lastore, 617, 0, 0) := by decide +kernel
theorem i147_617 : ins 147 617 = some (.aload_n 0, 618, 0, 0) := by decide +kernel
theorem i147_618 : ins 147 618 = some (.getfield 34, 621, 12, 9) := by decide +kernel
theorem i147_621 : ins 147 621 = some (.bipush (12), 623, 0, 12) := by decide +kernel
theorem i147_623 : ins 147 623 = some (.bipush (121), 625, 0, 121) := by decide +kernel
theorem i147_625 : ins 147 625 = some (.bipush (101), 627, 0, 101) := by decide +kernel
theorem i147_627 : ins 147 627 = some (.bipush (97), 629, 0, 97) := by decide +kernel
theorem i147_629 : ins 147 629 = some (.bipush (114), 631, 0, 114) := by decide +kernel
theorem i147_631 : ins 147 631 = some (.iconst (0), 632, 0, 0) := by decide +kernel
theorem i147_632 : ins 147 632 = some (.iconst (0), 633, 0, 0) := by decide +kernel
theorem i147_633 : ins 147 633 = some (.iconst (0), 634, 0, 0) := by decide +kernel
theorem i147_634 : ins 147 634 = some (.invokestatic 154, 637, 155, 0) := by decide +kernel
theorem i147_637 : ins 147 637 = some (.lastore, 638, 0, 0) := by decide +kernel
theorem i147_638 : ins 147 638 = some (.aload_n 0, 639, 0, 0) := by decide +kernel
theorem i147_639 : ins 147 639 = some (.getfield 34, 642, 12, 9) := by decide +kernel
theorem i147_642 : ins 147 642 = some (.bipush (13), 644, 0, 13) := by decide +kernel
theorem i147_644 : ins 147 644 = some (.bipush (119), 646, 0, 119) := by decide +kernel
theorem i147_646 : ins 147 646 = some (.bipush (111), 648, 0, 111) := by decide +kernel
theorem i147_648 : ins 147 648 = some (.bipush (114), 650, 0, 114) := by decide +kernel
theorem i147_650 : ins 147 650 = some (.bipush (110), 652, 0, 110) := by decide +kernel
theorem i147_652 : ins 147 652 = some (.iconst (0), 653, 0, 0) := by decide +kernel
theorem i147_653 : ins 147 653 = some (.iconst (0), 654, 0, 0) := by decide +kernel
theorem i147_654 : ins 147 654 = some (.iconst (0), 655, 0, 0) := by decide +kernel
theorem i147_655 : ins 147 655 = some (.invokestatic 154, 658, 155, 0) := by decide +kernel
theorem i147_658 : ins 147 658 = some (.lastore, 659, 0, 0) := by decide +kernel
theorem i147_659 : ins 147 659 = some (.aload_n 0, 660, 0, 0) := by decide +kernel
theorem i147_660 : ins 147 660 = some (.getfield 34, 663, 12, 9) := by decide +kernel
theorem i147_663 : ins 147 663 = some (.bipush (14), 665, 0, 14) := by decide +kernel
theorem i147_665 : ins 147 665 = some (.bipush (111), 667, 0, 111) := by decide +kernel
theorem i147_667 : ins 147 667 = some (.bipush (119), 669, 0, 119) := by decide +kernel
theorem i147_669 : ins 147 669 = some (.bipush (110), 671, 0, 110) := by decide +kernel
theorem i147_671 : ins 147 671 = some (.iconst (0), 672, 0, 0) := by decide +kernel
theorem i147_672 : ins 147 672 = some (.iconst (0), 673, 0, 0) := by decide +kernel
theorem i147_673 : ins 147 673 = some (.iconst (0), 674, 0, 0) := by decide +kernel
theorem i147_674 : ins 147 674 = some (.iconst (0), 675, 0, 0) := by decide +kernel
theorem i147_675 : ins 147 675 = some (.invokestatic 154, 678, 155, 0) := by decide +kernel
theorem i147_678 : ins 147 678 = some (.lastore, 679, 0, 0) := by decide +kernel
theorem i147_679 : ins 147 679 = some (.aload_n 0, 680, 0, 0) := by decide +kernel
theorem i147_680 : ins 147 680 = some (.getfield 34, 683, 12, 9) := by decide +kernel
theorem i147_683 : ins 147 683 = some (.bipush (15), 685, 0, 15) := by decide +kernel
theorem i147_685 : ins 147 685 = some (.bipush (104), 687, 0, 104) := by decide +kernel
theorem i147_687 : ins 147 687 = some (.bipush (97), 689, 0, 97) := by decide +kernel
theorem i147_689 : ins 147 689 = some (.bipush (110), 691, 0, 110) := by decide +kernel
theorem i147_691 : ins 147 691 = some (.bipush (100), 693, 0, 100) := by decide +kernel
theorem i147_693 : ins 147 693 = some (.iconst (0), 694, 0, 0) := by decide +kernel
theorem i147_694 : ins 147 694 = some (.iconst (0), 695, 0, 0) := by decide +kernel
theorem i147_695 : ins 147 695 = some (.iconst (0), 696, 0, 0) := by decide +kernel
theorem i147_696 : ins 147 696 = some (.invokestatic 154, 699, 155, 0) := by decide +kernel
theorem i147_699 : ins 147 699 = some (.lastore, 700, 0, 0) := by decide +kernel
theorem i147_700 : ins 147 700 = some (.aload_n 0, 701, 0, 0) := by decide +kernel
theorem i147_701 : ins 147 701 = some (.getfield 34, 704, 12, 9) := by decide +kernel
theorem i147_704 : ins 147 704 = some (.bipush (16), 706, 0, 16) := by decide +kernel
theorem i147_706 : ins 147 706 = some (.bipush (100), 708, 0, 100) := by decide +kernel
theorem i147_708 : ins 147 708 = some (.bipush (97), 710, 0, 97) := by decide +kernel
theorem i147_710 : ins 147 710 = some (.bipush (121), 712, 0, 121) := by decide +kernel
theorem i147_712 : ins 147 712 = some (.iconst (0), 713, 0, 0) := by decide +kernel
theorem i147_713 : ins 147 713 = some (.iconst (0), 714, 0, 0) := by decide +kernel
theorem i147_714 : ins 147 714 = some (.iconst (0), 715, 0, 0) := by decide +kernel
theorem i147_715 : ins 147 715 = some (.iconst (0), 716, 0, 0) := by decide +kernel
theorem i147_716 : ins 147 716 = some (.invokestatic 154, 719, 155, 0) := by decide +kernel
theorem i147_719 : ins 147 719 = some (.lastore, 720, 0, 0) := by decide +kernel
theorem i147_720 : ins 147 720 = some (.aload_n 0, 721, 0, 0) := by decide +kernel
theorem i147_721 : ins 147 721 = some (.invokevirtual 158, 724, 187, 0) := by decide +kernel
theorem i147_724 : ins 147 724 = some (.return_, 725, 0, 0) := by decide +kernel
theorem i148_0 : ins 148 0 = some (.aload_n 0, 1, 0, 0) := by decide +kernel
theorem i148_1 : ins 148 1 = some (.getfield 161, 4, 12, 2) := by decide +kernel
theorem i148_4 : ins 148 4 = some (.bipush (20), 6, 0, 20) := by decide +kernel
theorem i148_6 : ins 148 6 = some (.iadd, 7, 0, 0) := by decide +kernel
theorem i148_7 : ins 148 7 = some (.sipush (2000), 10, 0, 2000) := by decide +kernel
theorem i148_10 : ins 148 10 = some (.if_icmp .le (5), 13, 15, 0) := by decide +kernel
theorem i148_13 : ins 148 13 = some (.iconst (-1), 14, 0, -1) := by decide +kernel
theorem i148_14 : ins 148 14 = some (.ireturn, 15, 0, 0) := by decide +kernel
theorem i148_15 : ins 148 15 = some (.aload_n 0, 16, 0, 0) := by decide +kernel
theorem i148_16 : ins 148 16 = some (.iload_n 1, 17, 0, 0) := by decide +kernel
theorem i148_17 : ins 148 17 = some (.invokevirtual 164, 20, 149, 0) := by decide +kernel
theorem i148_20 : ins 148 20 = some (.aload_n 0, 21, 0, 0) := by decide +kernel
theorem i148_21 : ins 148 21 = some (.iload_n 2, 22, 0, 0) := by decide +kernel
theorem i148_22 : ins 148 22 = some (.invokevirtual 164, 25, 149, 0) := by decide +kernel
theorem i148_25 : ins 148 25 = some (.aload_n 0, 26, 0, 0) := by decide +kernel
theorem i148_26 : ins 148 26 = some (.iload_n 3, 27, 0, 0) := by decide +kernel
theorem i148_27 : ins 148 27 = some (.invokevirtual 164, 30, 149, 0) := by decide +kernel
theorem i148_30 : ins 148 30 = some (.aload_n 0, 31, 0, 0) := by decide +kernel
theorem i148_31 : ins 148 31 = some (.iload 4, 33, 0, 0) := by decide +kernel
theorem i148_33 : ins 148 33 = some (.invokevirtual 164, 36, 149, 0) := by decide +kernel
theorem i148_36 : ins 148 36 = some (.aload_n 0, 37, 0, 0) := by decide +kernel
theorem i148_37 : ins 148 37 = some (.iload 5, 39, 0, 0) := by decide +kernel
theorem i148_39 : ins 148 39 = some (.invokevirtual 164, 42, 149, 0) := by decide +kernel
theorem i148_42 : ins 148 42 = some (.aload_n 0, 43, 0, 0) := by decide +kernel
theorem i148_43 : ins 148 43 = some (.getfield 161, 46, 12, 2) := by decide +kernel
theorem i148_46 : ins 148 46 = some (.ireturn, 47, 0, 0) := by decide +kernel
theorem i149_0 : ins 149 0 = some (.bipush (24), 2, 0, 24) := by decide +kernel
theorem i149_2 : ins 149 2 = some (.istore_n 2, 3, 0, 0) := by decide +kernel
theorem i149_3 : ins 149 3 = some (.iload_n 2, 4, 0, 0) := by decide +kernel
theorem i149_4 : ins 149 4 = some (.ifCond .lt (32), 7, 36, 0) := by decide +kernel
theorem i149_7 : ins 149 7 = some (.aload_n 0, 8, 0, 0) := by decide +kernel
theorem i149_8 : ins 149 8 = some (.getfield 13, 11, 12, 1) := by decide +kernel
theorem i149_11 : ins 149 11 = some (.aload_n 0, 12, 0, 0) := by decide +kernel
theorem i149_12 : ins 149 12 = some (.getfield 161, 15, 12, 2) := by decide +kernel
theorem i149_15 : ins 149 15 = some (.iload_n 1, 16, 0, 0) := by decide +kernel
theorem i149_16 : ins 149 16 = some (.iload_n 2, 17, 0, 0) := by decide +kernel
theorem i149_17 : ins 149 17 = some (.ishr, 18, 0, 0) := by decide +kernel
theorem i149_18 : ins 149 18 = some (.i2b, 19, 0, 0) := by decide +kernel
theorem i149_19 : ins 149 19 = some (.bastore, 20, 0, 0) := by decide +kernel
theorem i149_20 : ins 149 20 = some (.aload_n 0, 21, 0, 0) := by decide +kernel
theorem i149_21 : ins 149 21 = some (.dup, 22, 0, 0) := by decide +kernel
theorem i149_22 : ins 149 22 = some (.getfield 161, 25, 12, 2) := by decide +kernel
theorem i149_25 : ins 149 25 = some (.iconst (1), 26, 0, 1) := by decide +kernel
theorem i149_26 : ins 149 26 = some (.iadd, 27, 0, 0) := by decide +kernel
theorem i149_27 : ins 149 27 = some (.putfield 161, 30, 12, 2) := by decide +kernel
theorem i149_30 : ins 149 30 = some (.iinc 2 (-8), 33, 0, -8) := by decide +kernel
theorem i149_33 : ins 149 33 = some (.goto (-30), 36, 3, 0) := by decide +kernel
theorem i149_36 : ins 149 36 = some (.return_, 37, 0, 0) := by decide +kernel
theorem i150_0 : ins 150 0 = some (.iload_n 1, 1, 0, 0) := by decide +kernel
theorem i150_1 : ins 150 1 = some (.ifCond .lt (11), 4, 12, 0) := by decide +kernel
theorem i150_4 : ins 150 4 = some (.iload_n 1, 5, 0, 0) := by decide +kernel
theorem i150_5 : ins 150 5 = some (.aload_n 0, 6, 0, 0) := by decide +kernel
theorem i150_6 : ins 150 6 = some (.getfield 161, 9, 12, 2) := by decide +kernel
theorem i150_9 : ins 150 9 = some (.if_icmp .le (5), 12, 14, 0) := by decide +kernel
theorem i150_12 : ins 150 12 = some (.iconst (-1), 13, 0, -1) := by decide +kernel
theorem i150_13 : ins 150 13 = some (.ireturn, 14, 0, 0) := by decide +kernel
theorem i150_14 : ins 150 14 = some (.aload_n 0, 15, 0, 0) := by decide +kernel
theorem i150_15 : ins 150 15 = some (.dup, 16, 0, 0) := by decide +kernel
theorem i150_16 : ins 150 16 = some (.getfield 161, 19, 12, 2) := by decide +kernel
theorem i150_19 : ins 150 19 = some (.iload_n 1, 20, 0, 0) := by decide +kernel
theorem i150_20 : ins 150 20 = some (.isub, 21, 0, 0) := by decide +kernel
theorem i150_21 : ins 150 21 = some (.putfield 161, 24, 12, 2) := by decide +kernel
theorem i150_24 : ins 150 24 = some (.aload_n 0, 25, 0, 0) := by decide +kernel
theorem i150_25 : ins 150 25 = some (.getfield 161, 28, 12, 2) := by decide +kernel
theorem i150_28 : ins 150 28 = some (.ireturn, 29, 0, 0) := by decide +kernel
theorem i151_0 : ins 151 0 = some (.iload_n 1, 1, 0, 0) := by decide +kernel
theorem i151_1 : ins 151 1 = some (.aload_n 0, 2, 0, 0) := by decide +kernel
theorem i151_2 : ins 151 2 = some (.getfield 167, 5, 12, 4) := by decide +kernel
theorem i151_5 : ins 151 5 = some (.if_icmp .ge (16), 8, 21, 0) := by decide +kernel
theorem i151_8 : ins 151 8 = some (.aload_n 0, 9, 0, 0) := by decide +kernel
theorem i151_9 : ins 151 9 = some (.getfield 17, 12, 12, 3) := by decide +kernel
theorem i151_12 : ins 151 12 = some (.iload_n 1, 13, 0, 0) := by decide +kernel
theorem i151_13 : ins 151 13 = some (.baload, 14, 0, 0) := by decide +kernel
theorem i151_14 : ins 151 14 = some (.sipush (255), 17, 0, 255) := by decide +kernel
theorem i151_17 : ins 151 17 = some (.iand, 18, 0, 0) := by decide +kernel
theorem i151_18 : ins 151 18 = some (.goto (4), 21, 22, 0) := by decide +kernel
theorem i151_21 : ins 151 21 = some (.iconst (0), 22, 0, 0) := by decide +kernel
theorem i151_22 : ins 151 22 = some (.ireturn, 23, 0, 0) := by decide +kernel
theorem i152_0 : ins 152 0 = some (.iload_n 0, 1, 0, 0) := by decide +kernel
theorem i152_1 : ins 152 1 = some (.bipush (48), 3, 0, 48) := by decide +kernel
theorem i152_3 : ins 152 3 = some (.if_icmp .lt (13), 6, 16, 0) := by decide +kernel
theorem i152_6 : ins 152 6 = some (.iload_n 0, 7, 0, 0) := by decide +kernel
theorem i152_7 : ins 152 7 = some (.bipush (57), 9, 0, 57) := by decide +kernel
theorem i152_9 : ins 152 9 = some (.if_icmp .gt (7), 12, 16, 0) := by decide +kernel
theorem i152_12 : ins 152 12 = some (.iconst (1), 13, 0, 1) := by decide +kernel
theorem i152_13 : ins 152 13 = some (.goto (4), 16, 17, 0) := by decide +kernel
theorem i152_16 : ins 152 16 = some (.iconst (0), 17, 0, 0) := by decide +kernel
theorem i152_17 : ins 152 17 = some (.ireturn, 18, 0, 0) := by decide +kernel
theorem i153_0 : ins 153 0 = some (.iload_n 0, 1, 0, 0) := by decide +kernel
theorem i153_1 : ins 153 1 = some (.bipush (97), 3, 0, 97) := by decide +kernel
theorem i153_3 : ins 153 3 = some (.if_icmp .lt (13), 6, 16, 0) := by decide +kernel
theorem i153_6 : ins 153 6 = some (.iload_n 0, 7, 0, 0) := by decide +kernel
theorem i153_7 : ins 153 7 = some (.bipush (122), 9, 0, 122) := by decide +kernel
theorem i153_9 : ins 153 9 = some (.if_icmp .gt (7), 12, 16, 0) := by decide +kernel
theorem i153_12 : ins 153 12 = some (.iconst (1), 13, 0, 1) := by decide +kernel
theorem i153_13 : ins 153 13 = some (.goto (4), 16, 17, 0) := by decide +kernel
theorem i153_16 : ins 153 16 = some (.iconst (0), 17, 0, 0) := by decide +kernel
theorem i153_17 : ins 153 17 = some (.ireturn, 18, 0, 0) := by decide +kernel
theorem i154_0 : ins 154 0 = some (.iload_n 2, 1, 0, 0) := by decide +kernel
theorem i154_1 : ins 154 1 = some (.ifCond .ne (7), 4, 8, 0) := by decide +kernel
theorem i154_4 : ins 154 4 = some (.lload_n 0, 5, 0, 0) := by decide +kernel
theorem i154_5 : ins 154 5 = some (.goto (16), 8, 21, 0) := by decide +kernel
theorem i154_8 : ins 154 8 = some (.ldc2_w 170, 11, 0, 27) := by decide +kernel
theorem i154_11 : ins 154 11 = some (.lload_n 0, 12, 0, 0) := by decide +kernel
theorem i154_12 : ins 154 12 = some (.lmul, 13, 0, 0) := by decide +kernel
theorem i154_13 : ins 154 13 = some (.iload_n 2, 14, 0, 0) := by decide +kernel
theorem i154_14 : ins 154 14 = some (.bipush (97), 16, 0, 97) := by decide +kernel
theorem i154_16 : ins 154 16 = some (.isub, 17, 0, 0) := by decide +kernel
theorem i154_17 : ins 154 17 = some (.iconst (1), 18, 0, 1) := by decide +kernel
theorem i154_18 : ins 154 18 = some (.iadd, 19, 0, 0) := by decide +kernel
theorem i154_19 : ins 154 19 = some (.i2l, 20, 0, 0) := by decide +kernel
theorem i154_20 : ins 154 20 = some (.ladd, 21, 0, 0) := by decide +kernel
theorem i154_21 : ins 154 21 = some (.lreturn, 22, 0, 0) := by decide +kernel
theorem i155_0 : ins 155 0 = some (.lconst 0, 1, 0, 0) := by decide +kernel
theorem i155_1 : ins 155 1 = some (.iload_n 0, 2, 0, 0) := by decide +kernel
theorem i155_2 : ins 155 2 = some (.invokestatic 172, 5, 154, 0) := by decide +kernel
theorem i155_5 : ins 155 5 = some (.iload_n 1, 6, 0, 0) := by decide +kernel
theorem i155_6 : ins 155 6 = some (.invokestatic 172, 9, 154, 0) := by decide +kernel
theorem i155_9 : ins 155 9 = some (.iload_n 2, 10, 0, 0) := by decide +kernel
theorem i155_10 : ins 155 10 = some (.invokestatic 172, 13, 154, 0) := by decide +kernel
theorem i155_13 : ins 155 13 = some (.iload_n 3, 14, 0, 0) := by decide +kernel
theorem i155_14 : ins 155 14 = some (.invokestatic 172, 17, 154, 0) := by decide +kernel
theorem i155_17 : ins 155 17 = some (.iload 4, 19, 0, 0) := by decide +kernel
theorem i155_19 : ins 155 19 = some (.invokestatic 172, 22, 154, 0) := by decide +kernel
theorem i155_22 : ins 155 22 = some (.iload 5, 24, 0, 0) := by decide +kernel
theorem i155_24 : ins 155 24 = some (.invokestatic 172, 27, 154, 0) := by decide +kernel
theorem i155_27 : ins 155 27 = some (.iload 6, 29, 0, 0) := by decide +kernel
theorem i155_29 : ins 155 29 = some (.invokestatic 172, 32, 154, 0) := by decide +kernel
theorem i155_32 : ins 155 32 = some (.lreturn, 33, 0, 0) := by decide +kernel
theorem i156_0 : ins 156 0 = some (.aload_n 0, 1, 0, 0) := by decide +kernel
theorem i156_1 : ins 156 1 = some (.getfield 20, 4, 12, 5) := by decide +kernel
theorem i156_4 : ins 156 4 = some (.aload_n 0, 5, 0, 0) := by decide +kernel
theorem i156_5 : ins 156 5 = some (.getfield 176, 8, 12, 10) := by decide +kernel
theorem i156_8 : ins 156 8 = some (.iload_n 1, 9, 0, 0) := by decide +kernel
theorem i156_9 : ins 156 9 = some (.iastore, 10, 0, 0) := by decide +kernel
theorem i156_10 : ins 156 10 = some (.aload_n 0, 11, 0, 0) := by decide +kernel
theorem i156_11 : ins 156 11 = some (.getfield 24, 14, 12, 6) := by decide +kernel
theorem i156_14 : ins 156 14 = some (.aload_n 0, 15, 0, 0) := by decide +kernel
theorem i156_15 : ins 156 15 = some (.getfield 176, 18, 12, 10) := by decide +kernel
theorem i156_18 : ins 156 18 = some (.iload_n 2, 19, 0, 0) := by decide +kernel
theorem i156_19 : ins 156 19 = some (.iastore, 20, 0, 0) := by decide +kernel
theorem i156_20 : ins 156 20 = some (.aload_n 0, 21, 0, 0) := by decide +kernel
theorem i156_21 : ins 156 21 = some (.getfield 27, 24, 12, 7) := by decide +kernel
theorem i156_24 : ins 156 24 = some (.aload_n 0, 25, 0, 0) := by decide +kernel
theorem i156_25 : ins 156 25 = some (.getfield 176, 28, 12, 10) := by decide +kernel
theorem i156_28 : ins 156 28 = some (.iload_n 3, 29, 0, 0) := by decide +kernel
theorem i156_29 : ins 156 29 = some (.iastore, 30, 0, 0) := by decide +kernel
theorem i156_30 : ins 156 30 = some (.aload_n 0, 31, 0, 0) := by decide +kernel
theorem i156_31 : ins 156 31 = some (.getfield 30, 34, 12, 8) := by decide +kernel
theorem i156_34 : ins 156 34 = some (.aload_n 0, 35, 0, 0) := by decide +kernel
theorem i156_35 : ins 156 35 = some (.getfield 176, 38, 12, 10) := by decide +kernel
theorem i156_38 : ins 156 38 = some (.lload 4, 40, 0, 0) := by decide +kernel
theorem i156_40 : ins 156 40 = some (.lastore, 41, 0, 0) := by decide +kernel
theorem i156_41 : ins 156 41 = some (.aload_n 0, 42, 0, 0) := by decide +kernel
theorem i156_42 : ins 156 42 = some (.dup, 43, 0, 0) := by decide +kernel
theorem i156_43 : ins 156 43 = some (.getfield 176, 46, 12, 10) := by decide +kernel
theorem i156_46 : ins 156 46 = some (.iconst (1), 47, 0, 1) := by decide +kernel
theorem i156_47 : ins 156 47 = some (.iadd, 48, 0, 0) := by decide +kernel
theorem i156_48 : ins 156 48 = some (.putfield 176, 51, 12, 10) := by decide +kernel
theorem i156_51 : ins 156 51 = some (.return_, 52, 0, 0) := by decide +kernel
theorem i157_0 : ins 157 0 = some (.aload_n 0, 1, 0, 0) := by decide +kernel
theorem i157_1 : ins 157 1 = some (.iconst (0), 2, 0, 0) := by decide +kernel
theorem i157_2 : ins 157 2 = some (.putfield 176, 5, 12, 10) := by decide +kernel
theorem i157_5 : ins 157 5 = some (.iconst (0), 6, 0, 0) := by decide +kernel
theorem i157_6 : ins 157 6 = some (.istore_n 1, 7, 0, 0) := by decide +kernel
theorem i157_7 : ins 157 7 = some (.aload_n 0, 8, 0, 0) := by decide +kernel
theorem i157_8 : ins 157 8 = some (.getfield 176, 11, 12, 10) := by decide +kernel
theorem i157_11 : ins 157 11 = some (.sipush (400), 14, 0, 400) := by decide +kernel
theorem i157_14 : ins 157 14 = some (.if_icmp .gt (280), 17, 294, 0) := by decide +kernel
theorem i157_17 : ins 157 17 = some (.aload_n 0, 18, 0, 0) := by decide +kernel
theorem i157_18 : ins 157 18 = some (.iload_n 1, 19, 0, 0) := by decide +kernel
theorem i157_19 : ins 157 19 = some (.invokevirtual 179, 22, 151, 0) := by decide +kernel
theorem i157_22 : ins 157 22 = some (.istore_n 2, 23, 0, 0) := by decide +kernel
theorem i157_23 : ins 157 23 = some (.iload_n 1, 24, 0, 0) := by decide +kernel
theorem i157_24 : ins 157 24 = some (.aload_n 0, 25, 0, 0) := by decide +kernel
theorem i157_25 : ins 157 25 = some (.getfield 167, 28, 12, 4) := by decide +kernel
theorem i157_28 : ins 157 28 = some (.if_icmp .lt (15), 31, 43, 0) := by decide +kernel
theorem i157_31 : ins 157 31 = some (.aload_n 0, 32, 0, 0) := by decide +kernel
theorem i157_32 : ins 157 32 = some (.iconst (0), 33, 0, 0) := by decide +kernel
theorem i157_33 : ins 157 33 = some (.aload_n 0, 34, 0, 0) := by decide +kernel
theorem i157_34 : ins 157 34 = some (.getfield 167, 37, 12, 4) := by decide +kernel
theorem i157_37 : ins 157 37 = some (.iconst (0), 38, 0, 0) := by decide +kernel
theorem i157_38 : ins 157 38 = some (.lconst 0, 39, 0, 0) := by decide +kernel
theorem i157_39 : ins 157 39 = some (.invokevirtual 183, 42, 156, 0) := by decide +kernel
theorem i157_42 : ins 157 42 = some (.return_, 43, 0, 0) := by decide +kernel
theorem i157_43 : ins 157 43 = some (.iload_n 2, 44, 0, 0) := by decide +kernel
theorem i157_44 : ins 157 44 = some (.bipush (9), 46, 0, 9) := by decide +kernel
theorem i157_46 : ins 157 46 = some (.if_icmp .eq (21), 49, 67, 0) := by decide +kernel
theorem i157_49 : ins 157 49 = some (.iload_n 2, 50, 0, 0) := by decide +kernel
theorem i157_50 : ins 157 50 = some (.bipush (10), 52, 0, 10) := by decide +kernel
theorem i157_52 : ins 157 52 = some (.if_icmp .eq (15), 55, 67, 0) := by decide +kernel
theorem i157_55 : ins 157 55 = some (.iload_n 2, 56, 0, 0) := by decide +kernel
theorem i157_56 : ins 157 56 = some (.bipush (13), 58, 0, 13) := by decide +kernel
theorem i157_58 : ins 157 58 = some (.if_icmp .eq (9), 61, 67, 0) := by decide +kernel
theorem i157_61 : ins 157 61 = some (.iload_n 2, 62, 0, 0) := by decide +kernel
theorem i157_62 : ins 157 62 = some (.bipush (32), 64, 0, 32) := by decide +kernel
theorem i157_64 : ins 157 64 = some (.if_icmp .ne (9), 67, 73, 0) := by decide +kernel
theorem i157_67 : ins 157 67 = some (.iinc 1 (1), 70, 0, 1) := by decide +kernel
theorem i157_70 : ins 157 70 = some (.goto (221), 73, 291, 0) := by decide +kernel
theorem i157_73 : ins 157 73 = some (.iload_n 2, 74, 0, 0) := by decide +kernel
theorem i157_74 : ins 157 74 = some (.invokestatic 187, 77, 153, 0) := by decide +kernel
theorem i157_77 : ins 157 77 = some (.ifCond .eq (119), 80, 196, 0) := by decide +kernel
theorem i157_80 : ins 157 80 = some (.iconst (0), 81, 0, 0) := by decide +kernel
theorem i157_81 : ins 157 81 = some (.istore_n 3, 82, 0, 0) := by decide +kernel
theorem i157_82 : ins 157 82 = some (.lconst 0, 83, 0, 0) := by decide +kernel
theorem i157_83 : ins 157 83 = some (.lstore 4, 85, 0, 0) := by decide +kernel
theorem i157_85 : ins 157 85 = some (.aload_n 0, 86, 0, 0) := by decide +kernel
theorem i157_86 : ins 157 86 = some (.iload_n 1, 87, 0, 0) := by decide +kernel
theorem i157_87 : ins 157 87 = some (.iload_n 3, 88, 0, 0) := by decide +kernel
theorem i157_88 : ins 157 88 = some (.iadd, 89, 0, 0) := by decide +kernel
theorem i157_89 : ins 157 89 = some (.invokevirtual 179, 92, 151, 0) := by decide +kernel
theorem i157_92 : ins 157 92 = some (.invokestatic 187, 95, 153, 0) := by decide +kernel
theorem i157_95 : ins 157 95 = some (.ifCond .eq (29), 98, 124, 0) := by decide +kernel
theorem i157_98 : ins 157 98 = some (.iload_n 3, 99, 0, 0) := by decide +kernel
theorem i157_99 : ins 157 99 = some (.bipush (8), 101, 0, 8) := by decide +kernel
theorem i157_101 : ins 157 101 = some (.if_icmp .ge (17), 104, 118, 0) := by decide +kernel
theorem i157_104 : ins 157 104 = some (.lload 4, 106, 0, 0) := by decide +kernel
theorem i157_106 : ins 157 106 = some (.aload_n 0, 107, 0, 0) := by decide +kernel
theorem i157_107 : ins 157 107 = some (.iload_n 1, 108, 0, 0) := by decide +kernel
theorem i157_108 : ins 157 108 = some (.iload_n 3, 109, 0, 0) := by decide +kernel
theorem i157_109 : ins 157 109 = some (.iadd, 110, 0, 0) := by decide +kernel
theorem i157_110 : ins 157 110 = some (.invokevirtual 179, 113, 151, 0) := by decide +kernel
theorem i157_113 : ins 157 113 = some (.invokestatic 172, 116, 154, 0) := by decide +kernel
theorem i157_116 : ins 157 116 = some (.lstore 4, 118, 0, 0) := by decide +kernel
theorem i157_118 : ins 157 118 = some (.iinc 3 (1), 121, 0, 1) := by decide +kernel
theorem i157_121 : ins 157 121 = some (.goto (-36), 124, 85, 0) := by decide +kernel
theorem i157_124 : ins 157 124 = some (.iload_n 3, 125, 0, 0) := by decide +kernel
theorem i157_125 : ins 157 125 = some (.bipush (8), 127, 0, 8) := by decide +kernel
theorem i157_127 : ins 157 127 = some (.if_icmp .le (7), 130, 134, 0) := by decide +kernel
theorem i157_130 : ins 157 130 = some (.iconst (3), 131, 0, 3) := by decide +kernel
theorem i157_131 : ins 157 131 = some (.goto (4), 134, 135, 0) := by decide +kernel
theorem i157_134 : ins 157 134 = some (.iconst (1), 135, 0, 1) := by decide +kernel
theorem i157_135 : ins 157 135 = some (.istore 6, 137, 0, 0) := by decide +kernel
theorem i157_137 : ins 157 137 = some (.iload_n 3, 138, 0, 0) := by decide +kernel
theorem i157_138 : ins 157 138 = some (.bipush (7), 140, 0, 7) := by decide +kernel
theorem i157_140 : ins 157 140 = some (.if_icmp .gt (39), 143, 179, 0) := by decide +kernel
theorem i157_143 : ins 157 143 = some (.iconst (0), 144, 0, 0) := by decide +kernel
theorem i157_144 : ins 157 144 = some (.istore 7, 146, 0, 0) := by decide +kernel
theorem i157_146 : ins 157 146 = some (.iload 7, 148, 0, 0) := by decide +kernel
theorem i157_148 : ins 157 148 = some (.bipush (17), 150, 0, 17) := by decide +kernel
theorem i157_150 : ins 157 150 = some (.if_icmp .ge (29), 153, 179, 0) := by decide +kernel
theorem i157_153 : ins 157 153 = some (.aload_n 0, 154, 0, 0) := by decide +kernel
theorem i157_154 : ins 157 154 = some (.getfield 34, 157, 12, 9) := by decide +kernel
theorem i157_157 : ins 157 157 = some (.iload 7, 159, 0, 0) := by decide +kernel
theorem i157_159 : ins 157 159 = some (.laload, 160, 0, 0) := by decide +kernel
theorem i157_160 : ins 157 160 = some (.lload 4, 162, 0, 0) := by decide +kernel
theorem i157_162 : ins 157 162 = some (.lcmp, 163, 0, 0) := by decide +kernel
theorem i157_163 : ins 157 163 = some (.ifCond .ne (10), 166, 173, 0) := by decide +kernel
theorem i157_166 : ins 157 166 = some (.bipush (20), 168, 0, 20) := by decide +kernel
theorem i157_168 : ins 157 168 = some (.iload 7, 170, 0, 0) := by decide +kernel
theorem i157_170 : ins 157 170 = some (.iadd, 171, 0, 0) := by decide +kernel
theorem i157_171 : ins 157 171 = some (.istore 6, 173, 0, 0) := by decide +kernel
theorem i157_173 : ins 157 173 = some (.iinc 7 (1), 176, 0, 1) := by decide +kernel
theorem i157_176 : ins 157 176 = some (.goto (-30), 179, 146, 0) := by decide +kernel
theorem i157_179 : ins 157 179 = some (.aload_n 0, 180, 0, 0) := by decide +kernel
theorem i157_180 : ins 157 180 = some (.iload 6, 182, 0, 0) := by decide +kernel
theorem i157_182 : ins 157 182 = some (.iload_n 1, 183, 0, 0) := by decide +kernel
theorem i157_183 : ins 157 183 = some (.iconst (0), 184, 0, 0) := by decide +kernel
theorem i157_184 : ins 157 184 = some (.lload 4, 186, 0, 0) := by decide +kernel
theorem i157_186 : ins 157 186 = some (.invokevirtual 183, 189, 156, 0) := by decide +kernel
theorem i157_189 : ins 157 189 = some (.iload_n 1, 190, 0, 0) := by decide +kernel
theorem i157_190 : ins 157 190 = some (.iload_n 3, 191, 0, 0) := by decide +kernel
theorem i157_191 : ins 157 191 = some (.iadd, 192, 0, 0) := by decide +kernel
theorem i157_192 : ins 157 192 = some (.istore_n 1, 193, 0, 0) := by decide +kernel
theorem i157_193 : ins 157 193 = some (.goto (98), 196, 291, 0) := by decide +kernel
theorem i157_196 : ins 157 196 = some (.iload_n 2, 197, 0, 0) := by decide +kernel
theorem i157_197 : ins 157 197 = some (.invokestatic 191, 200, 152, 0) := by decide +kernel
theorem i157_200 : ins 157 200 = some (.ifCond .eq (75), 203, 275, 0) := by decide +kernel
theorem i157_203 : ins 157 203 = some (.iconst (0), 204, 0, 0) := by decide +kernel
theorem i157_204 : ins 157 204 = some (.istore_n 3, 205, 0, 0) := by decide +kernel
theorem i157_205 : ins 157 205 = some (.iconst (0), 206, 0, 0) := by decide +kernel
theorem i157_206 : ins 157 206 = some (.istore 4, 208, 0, 0) := by decide +kernel
theorem i157_208 : ins 157 208 = some (.aload_n 0, 209, 0, 0) := by decide +kernel
theorem i157_209 : ins 157 209 = some (.iload_n 1, 210, 0, 0) := by decide +kernel
theorem i157_210 : ins 157 210 = some (.iload_n 3, 211, 0, 0) := by decide +kernel
theorem i157_211 : ins 157 211 = some (.iadd, 212, 0, 0) := by decide +kernel
theorem i157_212 : ins 157 212 = some (.invokevirtual 179, 215, 151, 0) := by decide +kernel
theorem i157_215 : ins 157 215 = some (.invokestatic 191, 218, 152, 0) := by decide +kernel
theorem i157_218 : ins 157 218 = some (.ifCond .eq (32), 221, 250, 0) := by decide +kernel
theorem i157_221 : ins 157 221 = some (.iload_n 3, 222, 0, 0) := by decide +kernel
theorem i157_222 : ins 157 222 = some (.iconst (4), 223, 0, 4) := by decide +kernel
theorem i157_223 : ins 157 223 = some (.if_icmp .ge (21), 226, 244, 0) := by decide +kernel
theorem i157_226 : ins 157 226 = some (.bipush (10), 228, 0, 10) := by decide +kernel
theorem i157_228 : ins 157 228 = some (.iload 4, 230, 0, 0) := by decide +kernel
theorem i157_230 : ins 157 230 = some (.imul, 231, 0, 0) := by decide +kernel
theorem i157_231 : ins 157 231 = some (.aload_n 0, 232, 0, 0) := by decide +kernel
theorem i157_232 : ins 157 232 = some (.iload_n 1, 233, 0, 0) := by decide +kernel
theorem i157_233 : ins 157 233 = some (.iload_n 3, 234, 0, 0) := by decide +kernel
theorem i157_234 : ins 157 234 = some (.iadd, 235, 0, 0) := by decide +kernel
theorem i157_235 : ins 157 235 = some (.invokevirtual 179, 238, 151, 0) := by decide +kernel
theorem i157_238 : ins 157 238 = some (.iadd, 239, 0, 0) := by decide +kernel
theorem i157_239 : ins 157 239 = some (.bipush (48), 241, 0, 48) := by decide +kernel
theorem i157_241 : ins 157 241 = some (.isub, 242, 0, 0) := by decide +kernel
theorem i157_242 : ins 157 242 = some (.istore 4, 244, 0, 0) := by decide +kernel
theorem i157_244 : ins 157 244 = some (.iinc 3 (1), 247, 0, 1) := by decide +kernel
theorem i157_247 : ins 157 247 = some (.goto (-39), 250, 208, 0) := by decide +kernel
theorem i157_250 : ins 157 250 = some (.aload_n 0, 251, 0, 0) := by decide +kernel
theorem i157_251 : ins 157 251 = some (.iload_n 3, 252, 0, 0) := by decide +kernel
theorem i157_252 : ins 157 252 = some (.iconst (4), 253, 0, 4) := by decide +kernel
theorem i157_253 : ins 157 253 = some (.if_icmp .le (7), 256, 260, 0) := by decide +kernel
theorem i157_256 : ins 157 256 = some (.iconst (3), 257, 0, 3) := by decide +kernel
theorem i157_257 : ins 157 257 = some (.goto (4), 260, 261, 0) := by decide +kernel
theorem i157_260 : ins 157 260 = some (.iconst (2), 261, 0, 2) := by decide +kernel
theorem i157_261 : ins 157 261 = some (.iload_n 1, 262, 0, 0) := by decide +kernel
theorem i157_262 : ins 157 262 = some (.iload 4, 264, 0, 0) := by decide +kernel
theorem i157_264 : ins 157 264 = some (.lconst 0, 265, 0, 0) := by decide +kernel
theorem i157_265 : ins 157 265 = some (.invokevirtual 183, 268, 156, 0) := by decide +kernel
theorem i157_268 : ins 157 268 = some (.iload_n 1, 269, 0, 0) := by decide +kernel
theorem i157_269 : ins 157 269 = some (.iload_n 3, 270, 0, 0) := by decide +kernel
theorem i157_270 : ins 157 270 = some (.iadd, 271, 0, 0) := by decide +kernel
theorem i157_271 : ins 157 271 = some (.istore_n 1, 272, 0, 0) := by decide +kernel
theorem i157_272 : ins 157 272 = some (.goto (19), 275, 291, 0) := by decide +kernel
theorem i157_275 : ins 157 275 = some (.iload_n 1, 276, 0, 0) := by decide +kernel
theorem i157_276 : ins 157 276 = some (.aload_n 0, 277, 0, 0) := by decide +kernel
theorem i157_277 : ins 157 277 = some (.iload_n 1, 278, 0, 0) := by decide +kernel
theorem i157_278 : ins 157 278 = some (.iload_n 2, 279, 0, 0) := by decide +kernel
theorem i157_279 : ins 157 279 = some (.aload_n 0, 280, 0, 0) := by decide +kernel
theorem i157_280 : ins 157 280 = some (.iload_n 1, 281, 0, 0) := by decide +kernel
theorem i157_281 : ins 157 281 = some (.iconst (1), 282, 0, 1) := by decide +kernel
theorem i157_282 : ins 157 282 = some (.iadd, 283, 0, 0) := by decide +kernel
theorem i157_283 : ins 157 283 = some (.invokevirtual 179, 286, 151, 0) := by decide +kernel
theorem i157_286 : ins 157 286 = some (.invokevirtual 194, 289, 158, 0) := by decide +kernel
theorem i157_289 : ins 157 289 = some (.iadd, 290, 0, 0) := by decide +kernel
theorem i157_290 : ins 157 290 = some (.istore_n 1, 291, 0, 0) := by decide +kernel
theorem i157_291 : ins 157 291 = some (.goto (-284), 294, 7, 0) := by decide +kernel
theorem i157_294 : ins 157 294 = some (.return_, 295, 0, 0) := by decide +kernel
theorem i158_0 : ins 158 0 = some (.iload_n 2, 1, 0, 0) := by decide +kernel
theorem i158_1 : ins 158 1 = some (.bipush (59), 3, 0, 59) := by decide +kernel
theorem i158_3 : ins 158 3 = some (.if_icmp .ne (7), 6, 10, 0) := by decide +kernel
theorem i158_6 : ins 158 6 = some (.iconst (4), 7, 0, 4) := by decide +kernel
theorem i158_7 : ins 158 7 = some (.goto (36), 10, 43, 0) := by decide +kernel
theorem i158_10 : ins 158 10 = some (.iload_n 2, 11, 0, 0) := by decide +kernel
theorem i158_11 : ins 158 11 = some (.bipush (61), 13, 0, 61) := by decide +kernel
theorem i158_13 : ins 158 13 = some (.if_icmp .ne (7), 16, 20, 0) := by decide +kernel
theorem i158_16 : ins 158 16 = some (.iconst (5), 17, 0, 5) := by decide +kernel
theorem i158_17 : ins 158 17 = some (.goto (26), 20, 43, 0) := by decide +kernel
theorem i158_20 : ins 158 20 = some (.iload_n 2, 21, 0, 0) := by decide +kernel
theorem i158_21 : ins 158 21 = some (.bipush (40), 23, 0, 40) := by decide +kernel
theorem i158_23 : ins 158 23 = some (.if_icmp .ne (8), 26, 31, 0) := by decide +kernel
theorem i158_26 : ins 158 26 = some (.bipush (6), 28, 0, 6) := by decide +kernel
theorem i158_28 : ins 158 28 = some (.goto (15), 31, 43, 0) := by decide +kernel
theorem i158_31 : ins 158 31 = some (.iload_n 2, 32, 0, 0) := by decide +kernel
theorem i158_32 : ins 158 32 = some (.bipush (41), 34, 0, 41) := by decide +kernel
theorem i158_34 : ins 158 34 = some (.if_icmp .ne (8), 37, 42, 0) := by decide +kernel
theorem i158_37 : ins 158 37 = some (.bipush (7), 39, 0, 7) := by decide +kernel
theorem i158_39 : ins 158 39 = some (.goto (4), 42, 43, 0) := by decide +kernel
theorem i158_42 : ins 158 42 = some (.iconst (3), 43, 0, 3) := by decide +kernel
theorem i158_43 : ins 158 43 = some (.istore 4, 45, 0, 0) := by decide +kernel
theorem i158_45 : ins 158 45 = some (.iload_n 2, 46, 0, 0) := by decide +kernel
theorem i158_46 : ins 158 46 = some (.bipush (43), 48, 0, 43) := by decide +kernel
theorem i158_48 : ins 158 48 = some (.if_icmp .ne (7), 51, 55, 0) := by decide +kernel
theorem i158_51 : ins 158 51 = some (.bipush (8), 53, 0, 8) := by decide +kernel
theorem i158_53 : ins 158 53 = some (.istore 4, 55, 0, 0) := by decide +kernel
theorem i158_55 : ins 158 55 = some (.iload_n 2, 56, 0, 0) := by decide +kernel
theorem i158_56 : ins 158 56 = some (.bipush (45), 58, 0, 45) := by decide +kernel
theorem i158_58 : ins 158 58 = some (.if_icmp .ne (7), 61, 65, 0) := by decide +kernel
theorem i158_61 : ins 158 61 = some (.bipush (9), 63, 0, 9) := by decide +kernel
theorem i158_63 : ins 158 63 = some (.istore 4, 65, 0, 0) := by decide +kernel
theorem i158_65 : ins 158 65 = some (.iload_n 2, 66, 0, 0) := by decide +kernel
theorem i158_66 : ins 158 66 = some (.bipush (42), 68, 0, 42) := by decide +kernel
theorem i158_68 : ins 158 68 = some (.if_icmp .ne (7), 71, 75, 0) := by decide +kernel
theorem i158_71 : ins 158 71 = some (.bipush (10), 73, 0, 10) := by decide +kernel
theorem i158_73 : ins 158 73 = some (.istore 4, 75, 0, 0) := by decide +kernel
theorem i158_75 : ins 158 75 = some (.iload_n 2, 76, 0, 0) := by decide +kernel
theorem i158_76 : ins 158 76 = some (.bipush (47), 78, 0, 47) := by decide +kernel
theorem i158_78 : ins 158 78 = some (.if_icmp .ne (7), 81, 85, 0) := by decide +kernel
theorem i158_81 : ins 158 81 = some (.bipush (15), 83, 0, 15) := by decide +kernel
theorem i158_83 : ins 158 83 = some (.istore 4, 85, 0, 0) := by decide +kernel
theorem i158_85 : ins 158 85 = some (.iload_n 2, 86, 0, 0) := by decide +kernel
theorem i158_86 : ins 158 86 = some (.bipush (60), 88, 0, 60) := by decide +kernel
theorem i158_88 : ins 158 88 = some (.if_icmp .ne (7), 91, 95, 0) := by decide +kernel
theorem i158_91 : ins 158 91 = some (.bipush (13), 93, 0, 13) := by decide +kernel
theorem i158_93 : ins 158 93 = some (.istore 4, 95, 0, 0) := by decide +kernel
theorem i158_95 : ins 158 95 = some (.aload_n 0, 96, 0, 0) := by decide +kernel
theorem i158_96 : ins 158 96 = some (.iload 4, 98, 0, 0) := by decide +kernel
theorem i158_98 : ins 158 98 = some (.iload_n 1, 99, 0, 0) := by decide +kernel
theorem i158_99 : ins 158 99 = some (.iconst (0), 100, 0, 0) := by decide +kernel
theorem i158_100 : ins 158 100 = some (.lconst 0, 101, 0, 0) := by decide +kernel
theorem i158_101 : ins 158 101 = some (.invokevirtual 183, 104, 156, 0) := by decide +kernel
theorem i158_104 : ins 158 104 = some (.iconst (1), 105, 0, 1) := by decide +kernel
theorem i158_105 : ins 158 105 = some (.ireturn, 106, 0, 0) := by decide +kernel
theorem i159_0 : ins 159 0 = some (.aload_n 0, 1, 0, 0) := by decide +kernel
theorem i159_1 : ins 159 1 = some (.getfield 198, 4, 12, 13) := by decide +kernel
theorem i159_4 : ins 159 4 = some (.ifCond .ne (20), 7, 24, 0) := by decide +kernel
theorem i159_7 : ins 159 7 = some (.aload_n 0, 8, 0, 0) := by decide +kernel
theorem i159_8 : ins 159 8 = some (.getfield 20, 11, 12, 5) := by decide +kernel
theorem i159_11 : ins 159 11 = some (.aload_n 0, 12, 0, 0) := by decide +kernel
theorem i159_12 : ins 159 12 = some (.getfield 201, 15, 12, 11) := by decide +kernel
theorem i159_15 : ins 159 15 = some (.iaload, 16, 0, 0) := by decide +kernel
theorem i159_16 : ins 159 16 = some (.iload_n 1, 17, 0, 0) := by decide +kernel
theorem i159_17 : ins 159 17 = some (.if_icmp .ne (7), 20, 24, 0) := by decide +kernel
theorem i159_20 : ins 159 20 = some (.iconst (1), 21, 0, 1) := by decide +kernel
theorem i159_21 : ins 159 21 = some (.goto (4), 24, 25, 0) := by decide +kernel
theorem i159_24 : ins 159 24 = some (.iconst (0), 25, 0, 0) := by decide +kernel
theorem i159_25 : ins 159 25 = some (.ireturn, 26, 0, 0) := by decide +kernel
theorem i160_0 : ins 160 0 = some (.aload_n 0, 1, 0, 0) := by decide +kernel
theorem i160_1 : ins 160 1 = some (.getfield 198, 4, 12, 13) := by decide +kernel
theorem i160_4 : ins 160 4 = some (.ifCond .le (4), 7, 8, 0) := by decide +kernel
theorem i160_7 : ins 160 7 = some (.return_, 8, 0, 0) := by decide +kernel
theorem i160_8 : ins 160 8 = some (.aload_n 0, 9, 0, 0) := by decide +kernel
theorem i160_9 : ins 160 9 = some (.iload_n 1, 10, 0, 0) := by decide +kernel
theorem i160_10 : ins 160 10 = some (.putfield 198, 13, 12, 13) := by decide +kernel
theorem i160_13 : ins 160 13 = some (.aload_n 0, 14, 0, 0) := by decide +kernel
theorem i160_14 : ins 160 14 = some (.aload_n 0, 15, 0, 0) := by decide +kernel
theorem i160_15 : ins 160 15 = some (.getfield 24, 18, 12, 6) := by decide +kernel
theorem i160_18 : ins 160 18 = some (.aload_n 0, 19, 0, 0) := by decide +kernel
theorem i160_19 : ins 160 19 = some (.getfield 201, 22, 12, 11) := by decide +kernel
theorem i160_22 : ins 160 22 = some (.iaload, 23, 0, 0) := by decide +kernel
theorem i160_23 : ins 160 23 = some (.putfield 204, 26, 12, 14) := by decide +kernel
theorem i160_26 : ins 160 26 = some (.return_, 27, 0, 0) := by decide +kernel
theorem i161_0 : ins 161 0 = some (.aload_n 0, 1, 0, 0) := by decide +kernel
theorem i161_1 : ins 161 1 = some (.getfield 24, 4, 12, 6) := by decide +kernel
theorem i161_4 : ins 161 4 = some (.iload_n 2, 5, 0, 0) := by decide +kernel
theorem i161_5 : ins 161 5 = some (.iaload, 6, 0, 0) := by decide +kernel
theorem i161_6 : ins 161 6 = some (.istore_n 3, 7, 0, 0) := by decide +kernel
theorem i161_7 : ins 161 7 = some (.aload_n 0, 8, 0, 0) := by decide +kernel
theorem i161_8 : ins 161 8 = some (.getfield 198, 11, 12, 13) := by decide +kernel
theorem i161_11 : ins 161 11 = some (.ifCond .gt (34), 14, 45, 0) := by decide +kernel
theorem i161_14 : ins 161 14 = some (.aload_n 0, 15, 0, 0) := by decide +kernel
theorem i161_15 : ins 161 15 = some (.getfield 207, 18, 12, 15) := by decide +kernel
theorem i161_18 : ins 161 18 = some (.ifCond .eq (28), 21, 46, 0) := by decide +kernel
theorem i161_21 : ins 161 21 = some (.iload_n 3, 22, 0, 0) := by decide +kernel
theorem i161_22 : ins 161 22 = some (.aload_n 0, 23, 0, 0) := by decide +kernel
theorem i161_23 : ins 161 23 = some (.getfield 210, 26, 12, 16) := by decide +kernel
theorem i161_26 : ins 161 26 = some (.if_icmp .gt (19), 29, 45, 0) := by decide +kernel
theorem i161_29 : ins 161 29 = some (.iload_n 3, 30, 0, 0) := by decide +kernel
theorem i161_30 : ins 161 30 = some (.aload_n 0, 31, 0, 0) := by decide +kernel
theorem i161_31 : ins 161 31 = some (.getfield 210, 34, 12, 16) := by decide +kernel
theorem i161_34 : ins 161 34 = some (.if_icmp .ne (12), 37, 46, 0) := by decide +kernel
theorem i161_37 : ins 161 37 = some (.iload_n 1, 38, 0, 0) := by decide +kernel
theorem i161_38 : ins 161 38 = some (.aload_n 0, 39, 0, 0) := by decide +kernel
theorem i161_39 : ins 161 39 = some (.getfield 207, 42, 12, 15) := by decide +kernel
theorem i161_42 : ins 161 42 = some (.if_icmp .lt (4), 45, 46, 0) := by decide +kernel
theorem i161_45 : ins 161 45 = some (.return_, 46, 0, 0) := by decide +kernel
theorem i161_46 : ins 161 46 = some (.aload_n 0, 47, 0, 0) := by decide +kernel
theorem i161_47 : ins 161 47 = some (.iload_n 1, 48, 0, 0) := by decide +kernel
theorem i161_48 : ins 161 48 = some (.putfield 207, 51, 12, 15) := by decide +kernel
theorem i161_51 : ins 161 51 = some (.aload_n 0, 52, 0, 0) := by decide +kernel
theorem i161_52 : ins 161 52 = some (.iload_n 3, 53, 0, 0) := by decide +kernel
theorem i161_53 : ins 161 53 = some (.putfield 210, 56, 12, 16) := by decide +kernel
theorem i161_56 : ins 161 56 = some (.return_, 57, 0, 0) := by decide +kernel
theorem i162_0 : ins 162 0 = some (.aload_n 0, 1, 0, 0) := by decide +kernel
theorem i162_1 : ins 162 1 = some (.getfield 201, 4, 12, 11) := by decide +kernel
theorem i162_4 : ins 162 4 = some (.sipush (400), 7, 0, 400) := by decide +kernel
theorem i162_7 : ins 162 7 = some (.if_icmp .ne (11), 10, 18, 0) := by decide +kernel
theorem i162_10 : ins 162 10 = some (.aload_n 0, 11, 0, 0) := by decide +kernel
theorem i162_11 : ins 162 11 = some (.iconst (2), 12, 0, 2) := by decide +kernel
theorem i162_12 : ins 162 12 = some (.invokevirtual 213, 15, 160, 0) := by decide +kernel
theorem i162_15 : ins 162 15 = some (.goto (13), 18, 28, 0) := by decide +kernel
theorem i162_18 : ins 162 18 = some (.aload_n 0, 19, 0, 0) := by decide +kernel
theorem i162_19 : ins 162 19 = some (.dup, 20, 0, 0) := by decide +kernel
theorem i162_20 : ins 162 20 = some (.getfield 201, 23, 12, 11) := by decide +kernel
theorem i162_23 : ins 162 23 = some (.iconst (1), 24, 0, 1) := by decide +kernel
theorem i162_24 : ins 162 24 = some (.iadd, 25, 0, 0) := by decide +kernel
theorem i162_25 : ins 162 25 = some (.putfield 201, 28, 12, 11) := by decide +kernel
theorem i162_28 : ins 162 28 = some (.return_, 29, 0, 0) := by decide +kernel
theorem i163_0 : ins 163 0 = some (.aload_n 0, 1, 0, 0) := by decide +kernel
theorem i163_1 : ins 163 1 = some (.iload_n 1, 2, 0, 0) := by decide +kernel
theorem i163_2 : ins 163 2 = some (.invokevirtual 216, 5, 159, 0) := by decide +kernel
theorem i163_5 : ins 163 5 = some (.ifCond .eq (10), 8, 15, 0) := by decide +kernel
theorem i163_8 : ins 163 8 = some (.aload_n 0, 9, 0, 0) := by decide +kernel
theorem i163_9 : ins 163 9 = some (.invokevirtual 219, 12, 162, 0) := by decide +kernel
theorem i163_12 : ins 163 12 = some (.goto (8), 15, 20, 0) := by decide +kernel
theorem i163_15 : ins 163 15 = some (.aload_n 0, 16, 0, 0) := by decide +kernel
theorem i163_16 : ins 163 16 = some (.iconst (1), 17, 0, 1) := by decide +kernel
theorem i163_17 : ins 163 17 = some (.invokevirtual 213, 20, 160, 0) := by decide +kernel
theorem i163_20 : ins 163 20 = some (.return_, 21, 0, 0) := by decide +kernel
theorem i164_0 : ins 164 0 = some (.aload_n 0, 1, 0, 0) := by decide +kernel
theorem i164_1 : ins 164 1 = some (.getfield 46, 4, 12, 23) := by decide +kernel
theorem i164_4 : ins 164 4 = some (.iload_n 1, 5, 0, 0) := by decide +kernel
theorem i164_5 : ins 164 5 = some (.iconst (0), 6, 0, 0) := by decide +kernel
theorem i164_6 : ins 164 6 = some (.iastore, 7, 0, 0) := by decide +kernel
theorem i164_7 : ins 164 7 = some (.aload_n 0, 8, 0, 0) := by decide +kernel
theorem i164_8 : ins 164 8 = some (.getfield 52, 11, 12, 25) := by decide +kernel
theorem i164_11 : ins 164 11 = some (.iload_n 1, 12, 0, 0) := by decide +kernel
theorem i164_12 : ins 164 12 = some (.iconst (0), 13, 0, 0) := by decide +kernel
theorem i164_13 : ins 164 13 = some (.iastore, 14, 0, 0) := by decide +kernel
theorem i164_14 : ins 164 14 = some (.aload_n 0, 15, 0, 0) := by decide +kernel
theorem i164_15 : ins 164 15 = some (.getfield 64, 18, 12, 29) := by decide +kernel
theorem i164_18 : ins 164 18 = some (.iload_n 1, 19, 0, 0) := by decide +kernel
theorem i164_19 : ins 164 19 = some (.iconst (0), 20, 0, 0) := by decide +kernel
theorem i164_20 : ins 164 20 = some (.iastore, 21, 0, 0) := by decide +kernel
theorem i164_21 : ins 164 21 = some (.aload_n 0, 22, 0, 0) := by decide +kernel
theorem i164_22 : ins 164 22 = some (.getfield 67, 25, 12, 30) := by decide +kernel
theorem i164_25 : ins 164 25 = some (.iload_n 1, 26, 0, 0) := by decide +kernel
theorem i164_26 : ins 164 26 = some (.iconst (3), 27, 0, 3) := by decide +kernel
theorem i164_27 : ins 164 27 = some (.iastore, 28, 0, 0) := by decide +kernel
theorem i164_28 : ins 164 28 = some (.aload_n 0, 29, 0, 0) := by decide +kernel
theorem i164_29 : ins 164 29 = some (.getfield 70, 32, 12, 31) := by decide +kernel
theorem i164_32 : ins 164 32 = some (.iload_n 1, 33, 0, 0) := by decide +kernel
theorem i164_33 : ins 164 33 = some (.sipush (9999), 36, 0, 9999) := by decide +kernel
theorem i164_36 : ins 164 36 = some (.iastore, 37, 0, 0) := by decide +kernel
theorem i164_37 : ins 164 37 = some (.aload_n 0, 38, 0, 0) := by decide +kernel
theorem i164_38 : ins 164 38 = some (.getfield 73, 41, 12, 32) := by decide +kernel
theorem i164_41 : ins 164 41 = some (.iload_n 1, 42, 0, 0) := by decide +kernel
theorem i164_42 : ins 164 42 = some (.iconst (0), 43, 0, 0) := by decide +kernel
theorem i164_43 : ins 164 43 = some (.iastore, 44, 0, 0) := by decide +kernel
theorem i164_44 : ins 164 44 = some (.iconst (0), 45, 0, 0) := by decide +kernel
theorem i164_45 : ins 164 45 = some (.istore_n 2, 46, 0, 0) := by decide +kernel
theorem i164_46 : ins 164 46 = some (.iload_n 2, 47, 0, 0) := by decide +kernel
theorem i164_47 : ins 164 47 = some (.bipush (10), 49, 0, 10) := by decide +kernel
theorem i164_49 : ins 164 49 = some (.if_icmp .ge (33), 52, 82, 0) := by decide +kernel
theorem i164_52 : ins 164 52 = some (.aload_n 0, 53, 0, 0) := by decide +kernel
theorem i164_53 : ins 164 53 = some (.getfield 76, 56, 12, 33) := by decide +kernel
theorem i164_56 : ins 164 56 = some (.bipush (10), 58, 0, 10) := by decide +kernel
theorem i164_58 : ins 164 58 = some (.iload_n 1, 59, 0, 0) := by decide +kernel
theorem i164_59 : ins 164 59 = some (.imul, 60, 0, 0) := by decide +kernel
theorem i164_60 : ins 164 60 = some (.iload_n 2, 61, 0, 0) := by decide +kernel
theorem i164_61 : ins 164 61 = some (.iadd, 62, 0, 0) := by decide +kernel
theorem i164_62 : ins 164 62 = some (.iconst (0), 63, 0, 0) := by decide +kernel
theorem i164_63 : ins 164 63 = some (.iastore, 64, 0, 0) := by decide +kernel
theorem i164_64 : ins 164 64 = some (.aload_n 0, 65, 0, 0) := by decide +kernel
theorem i164_65 : ins 164 65 = some (.getfield 79, 68, 12, 34) := by decide +kernel
theorem i164_68 : ins 164 68 = some (.bipush (10), 70, 0, 10) := by decide +kernel
theorem i164_70 : ins 164 70 = some (.iload_n 1, 71, 0, 0) := by decide +kernel
theorem i164_71 : ins 164 71 = some (.imul, 72, 0, 0) := by decide +kernel
theorem i164_72 : ins 164 72 = some (.iload_n 2, 73, 0, 0) := by decide +kernel
theorem i164_73 : ins 164 73 = some (.iadd, 74, 0, 0) := by decide +kernel
theorem i164_74 : ins 164 74 = some (.iconst (0), 75, 0, 0) := by decide +kernel
theorem i164_75 : ins 164 75 = some (.iastore, 76, 0, 0) := by decide +kernel
theorem i164_76 : ins 164 76 = some (.iinc 2 (1), 79, 0, 1) := by decide +kernel
theorem i164_79 : ins 164 79 = some (.goto (-33), 82, 46, 0) := by decide +kernel
theorem i164_82 : ins 164 82 = some (.return_, 83, 0, 0) := by decide +kernel
theorem i167_0 : ins 167 0 = some (.iload_n 1, 1, 0, 0) := by decide +kernel
theorem i167_1 : ins 167 1 = some (.iload_n 2, 2, 0, 0) := by decide +kernel
theorem i167_2 : ins 167 2 = some (.if_icmp .ne (8), 5, 10, 0) := by decide +kernel
theorem i167_5 : ins 167 5 = some (.aload_n 0, 6, 0, 0) := by decide +kernel
theorem i167_6 : ins 167 6 = some (.iconst (2), 7, 0, 2) := by decide +kernel
theorem i167_7 : ins 167 7 = some (.invokevirtual 213, 10, 160, 0) := by decide +kernel
theorem i167_10 : ins 167 10 = some (.aload_n 0, 11, 0, 0) := by decide +kernel
theorem i167_11 : ins 167 11 = some (.getfield 198, 14, 12, 13) := by decide +kernel
theorem i167_14 : ins 167 14 = some (.ifCond .ne (7), 17, 21, 0) := by decide +kernel
theorem i167_17 : ins 167 17 = some (.aload_n 0, 18, 0, 0) := by decide +kernel
theorem i167_18 : ins 167 18 = some (.invokevirtual 219, 21, 162, 0) := by decide +kernel
theorem i167_21 : ins 167 21 = some (.return_, 22, 0, 0) := by decide +kernel
theorem i171_0 : ins 171 0 = some (.aload_n 0, 1, 0, 0) := by decide +kernel
theorem i171_1 : ins 171 1 = some (.getfield 201, 4, 12, 11) := by decide +kernel
theorem i171_4 : ins 171 4 = some (.istore_n 1, 5, 0, 0) := by decide +kernel
theorem i171_5 : ins 171 5 = some (.aload_n 0, 6, 0, 0) := by decide +kernel
theorem i171_6 : ins 171 6 = some (.iconst (1), 7, 0, 1) := by decide +kernel
theorem i171_7 : ins 171 7 = some (.invokevirtual 276, 10, 163, 0) := by decide +kernel
theorem i171_10 : ins 171 10 = some (.aload_n 0, 11, 0, 0) := by decide +kernel
theorem i171_11 : ins 171 11 = some (.getfield 198, 14, 12, 13) := by decide +kernel
theorem i171_14 : ins 171 14 = some (.ifCond .le (5), 17, 19, 0) := by decide +kernel
theorem i171_17 : ins 171 17 = some (.iconst (-1), 18, 0, -1) := by decide +kernel
theorem i171_18 : ins 171 18 = some (.ireturn, 19, 0, 0) := by decide +kernel
theorem i171_19 : ins 171 19 = some (.iconst (0), 20, 0, 0) := by decide +kernel
theorem i171_20 : ins 171 20 = some (.istore_n 2, 21, 0, 0) := by decide +kernel
theorem i171_21 : ins 171 21 = some (.iload_n 2, 22, 0, 0) := by decide +kernel
theorem i171_22 : ins 171 22 = some (.aload_n 0, 23, 0, 0) := by decide +kernel
theorem i171_23 : ins 171 23 = some (.getfield 234, 26, 12, 20) := by decide +kernel
theorem i171_26 : ins 171 26 = some (.if_icmp .ge (41), 29, 67, 0) := by decide +kernel
theorem i171_29 : ins 171 29 = some (.aload_n 0, 30, 0, 0) := by decide +kernel
theorem i171_30 : ins 171 30 = some (.getfield 40, 33, 12, 21) := by decide +kernel
theorem i171_33 : ins 171 33 = some (.iload_n 2, 34, 0, 0) := by decide +kernel
theorem i171_34 : ins 171 34 = some (.laload, 35, 0, 0) := by decide +kernel
theorem i171_35 : ins 171 35 = some (.aload_n 0, 36, 0, 0) := by decide +kernel
theorem i171_36 : ins 171 36 = some (.getfield 30, 39, 12, 8) := by decide +kernel
theorem i171_39 : ins 171 39 = some (.iload_n 1, 40, 0, 0) := by decide +kernel
theorem i171_40 : ins 171 40 = some (.laload, 41, 0, 0) := by decide +kernel
theorem i171_41 : ins 171 41 = some (.lcmp, 42, 0, 0) := by decide +kernel
theorem i171_42 : ins 171 42 = some (.ifCond .ne (19), 45, 61, 0) := by decide +kernel
theorem i171_45 : ins 171 45 = some (.aload_n 0, 46, 0, 0) := by decide +kernel
theorem i171_46 : ins 171 46 = some (.getfield 43, 49, 12, 22) := by decide +kernel
theorem i171_49 : ins 171 49 = some (.iload_n 2, 50, 0, 0) := by decide +kernel
theorem i171_50 : ins 171 50 = some (.iaload, 51, 0, 0) := by decide +kernel
theorem i171_51 : ins 171 51 = some (.ifCond .lt (10), 54, 61, 0) := by decide +kernel
theorem i171_54 : ins 171 54 = some (.aload_n 0, 55, 0, 0) := by decide +kernel
theorem i171_55 : ins 171 55 = some (.getfield 43, 58, 12, 22) := by decide +kernel
theorem i171_58 : ins 171 58 = some (.iload_n 2, 59, 0, 0) := by decide +kernel
theorem i171_59 : ins 171 59 = some (.iaload, 60, 0, 0) := by decide +kernel
theorem i171_60 : ins 171 60 = some (.ireturn, 61, 0, 0) := by decide +kernel
theorem i171_61 : ins 171 61 = some (.iinc 2 (1), 64, 0, 1) := by decide +kernel
theorem i171_64 : ins 171 64 = some (.goto (-43), 67, 21, 0) := by decide +kernel
theorem i171_67 : ins 171 67 = some (.aload_n 0, 68, 0, 0) := by decide +kernel
theorem i171_68 : ins 171 68 = some (.iconst (4), 69, 0, 4) := by decide +kernel
theorem i171_69 : ins 171 69 = some (.iload_n 1, 70, 0, 0) := by decide +kernel
theorem i171_70 : ins 171 70 = some (.invokevirtual 279, 73, 161, 0) := by decide +kernel
theorem i171_73 : ins 171 73 = some (.iconst (-1), 74, 0, -1) := by decide +kernel
theorem i171_74 : ins 171 74 = some (.ireturn, 75, 0, 0) := by decide +kernel
theorem i187_0 : ins 187 0 = some (.iconst (0), 1, 0, 0) := by decide +kernel
theorem i187_1 : ins 187 1 = some (.istore_n 1, 2, 0, 0) := by decide +kernel
theorem i187_2 : ins 187 2 = some (.iload_n 1, 3, 0, 0) := by decide +kernel
theorem i187_3 : ins 187 3 = some (.sipush (2860), 6, 0, 2860) := by decide +kernel
theorem i187_6 : ins 187 6 = some (.if_icmp .ge (16), 9, 22, 0) := by decide +kernel
theorem i187_9 : ins 187 9 = some (.aload_n 0, 10, 0, 0) := by decide +kernel
theorem i187_10 : ins 187 10 = some (.getfield 113, 13, 12, 49) := by decide +kernel
theorem i187_13 : ins 187 13 = some (.iload_n 1, 14, 0, 0) := by decide +kernel
theorem i187_14 : ins 187 14 = some (.iconst (0), 15, 0, 0) := by decide +kernel
theorem i187_15 : ins 187 15 = some (.iastore, 16, 0, 0) := by decide +kernel
theorem i187_16 : ins 187 16 = some (.iinc 1 (1), 19, 0, 1) := by decide +kernel
theorem i187_19 : ins 187 19 = some (.goto (-17), 22, 2, 0) := by decide +kernel
theorem i187_22 : ins 187 22 = some (.iconst (0), 23, 0, 0) := by decide +kernel
theorem i187_23 : ins 187 23 = some (.istore_n 1, 24, 0, 0) := by decide +kernel
theorem i187_24 : ins 187 24 = some (.iload_n 1, 25, 0, 0) := by decide +kernel
theorem i187_25 : ins 187 25 = some (.aload_n 0, 26, 0, 0) := by decide +kernel
theorem i187_26 : ins 187 26 = some (.getfield 46, 29, 12, 23) := by decide +kernel
theorem i187_29 : ins 187 29 = some (.aload_n 0, 30, 0, 0) := by decide +kernel
theorem i187_30 : ins 187 30 = some (.getfield 228, 33, 12, 18) := by decide +kernel
theorem i187_33 : ins 187 33 = some (.iaload, 34, 0, 0) := by decide +kernel
theorem i187_34 : ins 187 34 = some (.if_icmp .ge (29), 37, 63, 0) := by decide +kernel
theorem i187_37 : ins 187 37 = some (.aload_n 0, 38, 0, 0) := by decide +kernel
theorem i187_38 : ins 187 38 = some (.getfield 113, 41, 12, 49) := by decide +kernel
theorem i187_41 : ins 187 41 = some (.iload_n 1, 42, 0, 0) := by decide +kernel
theorem i187_42 : ins 187 42 = some (.aload_n 0, 43, 0, 0) := by decide +kernel
theorem i187_43 : ins 187 43 = some (.getfield 49, 46, 12, 24) := by decide +kernel
theorem i187_46 : ins 187 46 = some (.bipush (6), 48, 0, 6) := by decide +kernel
theorem i187_48 : ins 187 48 = some (.aload_n 0, 49, 0, 0) := by decide +kernel
theorem i187_49 : ins 187 49 = some (.getfield 228, 52, 12, 18) := by decide +kernel
theorem i187_52 : ins 187 52 = some (.imul, 53, 0, 0) := by decide +kernel
theorem i187_53 : ins 187 53 = some (.iload_n 1, 54, 0, 0) := by decide +kernel
theorem i187_54 : ins 187 54 = some (.iadd, 55, 0, 0) := by decide +kernel
theorem i187_55 : ins 187 55 = some (.iaload, 56, 0, 0) := by decide +kernel
theorem i187_56 : ins 187 56 = some (.iastore, 57, 0, 0) := by decide +kernel
theorem i187_57 : ins 187 57 = some (.iinc 1 (1), 60, 0, 1) := by decide +kernel
theorem i187_60 : ins 187 60 = some (.goto (-36), 63, 24, 0) := by decide +kernel
theorem i187_63 : ins 187 63 = some (.iconst (0), 64, 0, 0) := by decide +kernel
theorem i187_64 : ins 187 64 = some (.istore_n 1, 65, 0, 0) := by decide +kernel
theorem i187_65 : ins 187 65 = some (.iload_n 1, 66, 0, 0) := by decide +kernel
theorem i187_66 : ins 187 66 = some (.bipush (36), 68, 0, 36) := by decide +kernel
theorem i187_68 : ins 187 68 = some (.if_icmp .ge (32), 71, 100, 0) := by decide +kernel
theorem i187_71 : ins 187 71 = some (.aload_n 0, 72, 0, 0) := by decide +kernel
theorem i187_72 : ins 187 72 = some (.getfield 113, 75, 12, 49) := by decide +kernel
theorem i187_75 : ins 187 75 = some (.bipush (6), 77, 0, 6) := by decide +kernel
theorem i187_77 : ins 187 77 = some (.iload_n 1, 78, 0, 0) := by decide +kernel
theorem i187_78 : ins 187 78 = some (.iadd, 79, 0, 0) := by decide +kernel
theorem i187_79 : ins 187 79 = some (.aload_n 0, 80, 0, 0) := by decide +kernel
theorem i187_80 : ins 187 80 = some (.getfield 61, 83, 12, 28) := by decide +kernel
theorem i187_83 : ins 187 83 = some (.bipush (36), 85, 0, 36) := by decide +kernel
theorem i187_85 : ins 187 85 = some (.aload_n 0, 86, 0, 0) := by decide +kernel
theorem i187_86 : ins 187 86 = some (.getfield 228, 89, 12, 18) := by decide +kernel
theorem i187_89 : ins 187 89 = some (.imul, 90, 0, 0) := by decide +kernel
theorem i187_90 : ins 187 90 = some (.iload_n 1, 91, 0, 0) := by decide +kernel
theorem i187_91 : ins 187 91 = some (.iadd, 92, 0, 0) := by decide +kernel
theorem i187_92 : ins 187 92 = some (.iaload, 93, 0, 0) := by decide +kernel
theorem i187_93 : ins 187 93 = some (.iastore, 94, 0, 0) := by decide +kernel
theorem i187_94 : ins 187 94 = some (.iinc 1 (1), 97, 0, 1) := by decide +kernel
theorem i187_97 : ins 187 97 = some (.goto (-32), 100, 65, 0) := by decide +kernel
theorem i187_100 : ins 187 100 = some (.aload_n 0, 101, 0, 0) := by decide +kernel
theorem i187_101 : ins 187 101 = some (.getfield 113, 104, 12, 49) := by decide +kernel
theorem i187_104 : ins 187 104 = some (.bipush (43), 106, 0, 43) := by decide +kernel
theorem i187_106 : ins 187 106 = some (.iconst (-1), 107, 0, -1) := by decide +kernel
theorem i187_107 : ins 187 107 = some (.iastore, 108, 0, 0) := by decide +kernel
theorem i187_108 : ins 187 108 = some (.return_, 109, 0, 0) := by decide +kernel
def Hh_yearOn_22 (s0 : Int) (w : Wd) : Option (Int × Wd) :=
  some (s0, w)
theorem s_Hh_yearOn_22 {g : Gp} {l : Launch} {D : Nat} (hD : 2 ≤ D) (s0 : Int) (w : Wd) (r : Int × Wd) (h : Hh_yearOn_22 s0 w = some r) : Rn g l D 137 22 [] [.inl s0] w (some (.inl r.1)) r.2 := by
  unfold Hh_yearOn_22 at h
  obtain rfl := Option.some.inj h
  exact rn_retI i137_22 mr137
def Hh_yearOn_0 (a0 : Nat) (x1 : Int) (w : Wd) : Option (Int × Wd) :=
  (fgR w a0 11 4).bind fun v2 =>
  (St_led v2 w).bind fun r5 =>
  if (r5.1 : Int) ≤ x1 then
    (fgR r5.2 a0 11 4).bind fun v16 =>
    (fgI r5.2 v16 9 0).bind fun v19 =>
    Hh_yearOn_22 v19 r5.2
  else
    Hh_yearOn_22 x1 r5.2
theorem s_Hh_yearOn_0 {g : Gp} {l : Launch} {D : Nat} (hD : 2 ≤ D) (a0 : Nat) (x1 : Int) (w : Wd) (r : Int × Wd) (h : Hh_yearOn_0 a0 x1 w = some r) : Rn g l D 137 0 [(0, .inr (.inr a0)), (1, .inl x1)] [] w (some (.inl r.1)) r.2 := by
  obtain ⟨D, rfl⟩ : ∃ D1, D = D1 + 1 := ⟨D - 1, by omega⟩
  unfold Hh_yearOn_0 at h
  refine rn_iload_n i137_0 rfl ?_
  refine fr_aload_n i137_1 rfl ?_
  obtain ⟨v2, h2, h⟩ := Option.bind_eq_some_iff.mp h
  refine fr_gR (k := 4) i137_2 tf11_4 h2 ?_
  obtain ⟨r5, h5, h⟩ := Option.bind_eq_some_iff.mp h
  obtain ⟨g5, c5⟩ := S_St_led v2 w r5 h5
  refine fr_callV (a := v2) (As := []) (st := [.inl x1]) i137_5 (cq90 v2) rfl (Nat.le_of_ble_eq_true rfl) g5 (c5 _ (by omega)) ?_
  show Rn _ _ _ _ _ _ [.inl r5.1, .inl x1] _ _ _
  by_cases c8 : (r5.1 : Int) ≤ x1
  · rw [if_pos c8] at h
    refine rn_icmp_ge_t i137_8 c8 ?_
    refine fr_aload_n i137_15 rfl ?_
    obtain ⟨v16, h16, h⟩ := Option.bind_eq_some_iff.mp h
    refine fr_gR (k := 4) i137_16 tf11_4 h16 ?_
    obtain ⟨v19, h19, h⟩ := Option.bind_eq_some_iff.mp h
    refine fr_gI (k := 0) i137_19 tf9_0 h19 ?_
    exact rn_sub [] rfl (s_Hh_yearOn_22 hD v19 r5.2 r h)
  · rw [if_neg c8] at h
    refine rn_icmp_ge_f i137_8 c8 ?_
    refine rn_iload_n i137_11 rfl ?_
    refine rn_goto i137_12 ?_
    exact rn_sub [] rfl (s_Hh_yearOn_22 hD x1 r5.2 r h)
/-- HandHeirs.yearOn(I)I -/
def Hh_yearOn (a0 : Nat) (x1 : Int) (w : Wd) : Option (Int × Wd) := gd 11 w a0 (Hh_yearOn_0 a0 x1 w)
theorem S_Hh_yearOn {g : Gp} {l : Launch} (a0 : Nat) (x1 : Int) (w : Wd) (r : Int × Wd) (h : Hh_yearOn a0 x1 w = some r) : (wsh w a0).1 = 11 ∧ ∀ D, 2 ≤ D → Rn g l D 137 0 [(0, .inr (.inr a0)), (1, .inl x1)] [] w (some (.inl r.1)) r.2 := by
  obtain ⟨hg, h⟩ := gd_some h
  exact ⟨hg, fun D hD => rn_sub [0, 1] rfl (s_Hh_yearOn_0 hD a0 x1 w r h)⟩
def Hh_copied_17 (w : Wd) : Option (Int × Wd) :=
  some ((-1), w)
theorem s_Hh_copied_17 {g : Gp} {l : Launch} {D : Nat} (hD : 4 ≤ D) (w : Wd) (r : Int × Wd) (h : Hh_copied_17 w = some r) : Rn g l D 134 17 [] [] w (some (.inl r.1)) r.2 := by
  unfold Hh_copied_17 at h
  refine rn_iconst i134_17 ?_
  obtain rfl := Option.some.inj h
  exact rn_retI i134_18 mr134
def Hh_copied_67 (k32 : Nat → Int → Int → Int → Int → Int → Wd → Option (Int × Wd)) (a0 : Nat) (x1 : Int) (x2 : Int) (x3 : Int) (x4 : Int) (x5 : Int) (w : Wd) : Option (Int × Wd) :=
  k32 a0 x1 x2 x3 x4 (w32 (x5 + 1)) w
theorem s_Hh_copied_67 {g : Gp} {l : Launch} {D : Nat} (hD : 4 ≤ D) (k32 : Nat → Int → Int → Int → Int → Int → Wd → Option (Int × Wd)) (hk32 : ∀ (a0 : Nat) (x1 : Int) (x2 : Int) (x3 : Int) (x4 : Int) (x5 : Int) (w : Wd) (r : Int × Wd), k32 a0 x1 x2 x3 x4 x5 w = some r → Rn g l D 134 32 [(0, .inr (.inr a0)), (1, .inl x1), (2, .inl x2), (3, .inl x3), (4, .inl x4), (5, .inl x5)] [] w (some (.inl r.1)) r.2) (a0 : Nat) (x1 : Int) (x2 : Int) (x3 : Int) (x4 : Int) (x5 : Int) (w : Wd) (r : Int × Wd) (h : Hh_copied_67 k32 a0 x1 x2 x3 x4 x5 w = some r) : Rn g l D 134 67 [(0, .inr (.inr a0)), (1, .inl x1), (2, .inl x2), (3, .inl x3), (4, .inl x4), (5, .inl x5)] [] w (some (.inl r.1)) r.2 := by
  unfold Hh_copied_67 at h
  refine rn_iinc (ls1 := [(5, .inl (w32 (x5 + 1))), (0, .inr (.inr a0)), (1, .inl x1), (2, .inl x2), (3, .inl x3), (4, .inl x4)]) i134_67 rfl rfl ?_
  refine rn_goto i134_70 ?_
  exact rn_sub [1, 2, 3, 4, 5, 0] rfl (hk32 a0 x1 x2 x3 x4 (w32 (x5 + 1)) w r h)
def Hh_copied_87 (s0 : Int) (w : Wd) : Option (Int × Wd) :=
  some (s0, w)
theorem s_Hh_copied_87 {g : Gp} {l : Launch} {D : Nat} (hD : 4 ≤ D) (s0 : Int) (w : Wd) (r : Int × Wd) (h : Hh_copied_87 s0 w = some r) : Rn g l D 134 87 [] [.inl s0] w (some (.inl r.1)) r.2 := by
  unfold Hh_copied_87 at h
  obtain rfl := Option.some.inj h
  exact rn_retI i134_87 mr134
def Hh_copied_73 (a0 : Nat) (x2 : Int) (x3 : Int) (x4 : Int) (w : Wd) : Option (Int × Wd) :=
  if (x2 : Int) = 0 then
    (Hh_yearOn a0 x3 w).bind fun r79 =>
    Hh_copied_87 r79.1 r79.2
  else
    Hh_copied_87 x4 w
theorem s_Hh_copied_73 {g : Gp} {l : Launch} {D : Nat} (hD : 4 ≤ D) (a0 : Nat) (x2 : Int) (x3 : Int) (x4 : Int) (w : Wd) (r : Int × Wd) (h : Hh_copied_73 a0 x2 x3 x4 w = some r) : Rn g l D 134 73 [(0, .inr (.inr a0)), (2, .inl x2), (3, .inl x3), (4, .inl x4)] [] w (some (.inl r.1)) r.2 := by
  obtain ⟨D, rfl⟩ : ∃ D1, D = D1 + 1 := ⟨D - 1, by omega⟩
  unfold Hh_copied_73 at h
  refine rn_iload_n i134_73 rfl ?_
  by_cases c74 : (x2 : Int) = 0
  · rw [if_pos c74] at h
    refine rn_if_ne_f i134_74 c74 ?_
    refine fr_aload_n i134_77 rfl ?_
    refine rn_iload_n i134_78 rfl ?_
    obtain ⟨r79, h79, h⟩ := Option.bind_eq_some_iff.mp h
    obtain ⟨g79, c79⟩ := S_Hh_yearOn a0 x3 w r79 h79
    refine fr_callV (a := a0) (As := [.inl x3]) (st := []) i134_79 (cq137 a0 x3) rfl (Nat.le_of_ble_eq_true rfl) g79 (c79 _ (by omega)) ?_
    show Rn _ _ _ _ _ _ [.inl r79.1] _ _ _
    refine rn_goto i134_82 ?_
    exact rn_sub [] rfl (s_Hh_copied_87 hD r79.1 r79.2 r h)
  · rw [if_neg c74] at h
    refine rn_if_ne_t i134_74 c74 ?_
    refine rn_iload i134_85 rfl ?_
    exact rn_sub [] rfl (s_Hh_copied_87 hD x4 w r h)
def Hh_copied_32 : Nat → Nat → Int → Int → Int → Int → Int → Wd → Option (Int × Wd)
  | 0, _, _, _, _, _, _, _ => none
  | n + 1, a0, x1, x2, x3, x4, x5, w =>
    (fgR w a0 11 4).bind fun v35 =>
    (St_led v35 w).bind fun r38 =>
    if (r38.1 : Int) < x5 then
      Hh_copied_73 a0 x2 x3 x4 r38.2
    else
      (Hh_apart a0 x1 x5 r38.2).bind fun r48 =>
      if (x4 : Int) ≤ r48.1 then
        Hh_copied_67 (Hh_copied_32 n) a0 x1 x2 x3 x4 x5 r48.2
      else
        Hh_copied_67 (Hh_copied_32 n) a0 x1 x2 x5 r48.1 x5 r48.2
theorem s_Hh_copied_32 {g : Gp} {l : Launch} {D : Nat} (hD : 4 ≤ D) : ∀ (n : Nat) (a0 : Nat) (x1 : Int) (x2 : Int) (x3 : Int) (x4 : Int) (x5 : Int) (w : Wd) (r : Int × Wd), Hh_copied_32 n a0 x1 x2 x3 x4 x5 w = some r → Rn g l D 134 32 [(0, .inr (.inr a0)), (1, .inl x1), (2, .inl x2), (3, .inl x3), (4, .inl x4), (5, .inl x5)] [] w (some (.inl r.1)) r.2 := by
  obtain ⟨D, rfl⟩ : ∃ D1, D = D1 + 1 := ⟨D - 1, by omega⟩
  intro n
  induction n with
  | zero => intro a0 x1 x2 x3 x4 x5 w r h; cases (show (none : Option (Int × Wd)) = some r from h)
  | succ n ih =>
    intro a0 x1 x2 x3 x4 x5 w r h
    unfold Hh_copied_32 at h
    refine rn_iload i134_32 rfl ?_
    refine fr_aload_n i134_34 rfl ?_
    obtain ⟨v35, h35, h⟩ := Option.bind_eq_some_iff.mp h
    refine fr_gR (k := 4) i134_35 tf11_4 h35 ?_
    obtain ⟨r38, h38, h⟩ := Option.bind_eq_some_iff.mp h
    obtain ⟨g38, c38⟩ := S_St_led v35 w r38 h38
    refine fr_callV (a := v35) (As := []) (st := [.inl x5]) i134_38 (cq90 v35) rfl (Nat.le_of_ble_eq_true rfl) g38 (c38 _ (by omega)) ?_
    show Rn _ _ _ _ _ _ [.inl r38.1, .inl x5] _ _ _
    by_cases c41 : (r38.1 : Int) < x5
    · rw [if_pos c41] at h
      refine rn_icmp_gt_t i134_41 c41 ?_
      exact rn_sub [0, 2, 3, 4] rfl (s_Hh_copied_73 hD a0 x2 x3 x4 r38.2 r h)
    · rw [if_neg c41] at h
      refine rn_icmp_gt_f i134_41 c41 ?_
      refine fr_aload_n i134_44 rfl ?_
      refine rn_iload_n i134_45 rfl ?_
      refine rn_iload i134_46 rfl ?_
      obtain ⟨r48, h48, h⟩ := Option.bind_eq_some_iff.mp h
      obtain ⟨g48, c48⟩ := S_Hh_apart a0 x1 x5 r38.2 r48 h48
      refine fr_callV (a := a0) (As := [.inl x1, .inl x5]) (st := []) i134_48 (cq135 a0 x1 x5) rfl (Nat.le_of_ble_eq_true rfl) g48 (c48 _ (by omega)) ?_
      show Rn _ _ _ _ _ _ [.inl r48.1] _ _ _
      refine rn_istore (ls1 := [(6, .inl r48.1), (0, .inr (.inr a0)), (1, .inl x1), (2, .inl x2), (3, .inl x3), (4, .inl x4), (5, .inl x5)]) i134_51 rfl ?_
      refine rn_iload i134_53 rfl ?_
      refine rn_iload i134_55 rfl ?_
      by_cases c57 : (x4 : Int) ≤ r48.1
      · rw [if_pos c57] at h
        refine rn_icmp_ge_t i134_57 c57 ?_
        exact rn_sub [1, 2, 3, 4, 5, 6] rfl (s_Hh_copied_67 hD (Hh_copied_32 n) ih a0 x1 x2 x3 x4 x5 r48.2 r h)
      · rw [if_neg c57] at h
        refine rn_icmp_ge_f i134_57 c57 ?_
        refine rn_iload i134_60 rfl ?_
        refine rn_istore_n (ls1 := [(3, .inl x5), (6, .inl r48.1), (0, .inr (.inr a0)), (1, .inl x1), (2, .inl x2), (4, .inl x4), (5, .inl x5)]) i134_62 rfl ?_
        refine rn_iload i134_63 rfl ?_
        refine rn_istore (ls1 := [(4, .inl r48.1), (3, .inl x5), (6, .inl r48.1), (0, .inr (.inr a0)), (1, .inl x1), (2, .inl x2), (5, .inl x5)]) i134_65 rfl ?_
        exact rn_sub [3, 4, 5, 1, 0, 6] rfl (s_Hh_copied_67 hD (Hh_copied_32 n) ih a0 x1 x2 x5 r48.1 x5 r48.2 r h)
def Hh_copied_0 (a0 : Nat) (x1 : Int) (x2 : Int) (w : Wd) : Option (Int × Wd) :=
  (Hh_isHeir a0 x1 w).bind fun r2 =>
  if (r2.1 : Int) = 0 then
    Hh_copied_17 r2.2
  else
    (Hh_isWithin x2 0 1 r2.2).bind fun r11 =>
    if (r11.1 : Int) = 0 then
      Hh_copied_17 r11.2
    else
      (Hh_apart a0 x1 0 r11.2).bind fun r24 =>
      Hh_copied_32 FU a0 x1 x2 0 r24.1 1 r24.2
theorem s_Hh_copied_0 {g : Gp} {l : Launch} {D : Nat} (hD : 4 ≤ D) (a0 : Nat) (x1 : Int) (x2 : Int) (w : Wd) (r : Int × Wd) (h : Hh_copied_0 a0 x1 x2 w = some r) : Rn g l D 134 0 [(0, .inr (.inr a0)), (1, .inl x1), (2, .inl x2)] [] w (some (.inl r.1)) r.2 := by
  obtain ⟨D, rfl⟩ : ∃ D1, D = D1 + 1 := ⟨D - 1, by omega⟩
  unfold Hh_copied_0 at h
  refine fr_aload_n i134_0 rfl ?_
  refine rn_iload_n i134_1 rfl ?_
  obtain ⟨r2, h2, h⟩ := Option.bind_eq_some_iff.mp h
  obtain ⟨g2, c2⟩ := S_Hh_isHeir a0 x1 w r2 h2
  refine fr_callV (a := a0) (As := [.inl x1]) (st := []) i134_2 (cq110 a0 x1) rfl (Nat.le_of_ble_eq_true rfl) g2 (c2 _ (by omega)) ?_
  show Rn _ _ _ _ _ _ [.inl r2.1] _ _ _
  by_cases c5 : (r2.1 : Int) = 0
  · rw [if_pos c5] at h
    refine rn_if_eq_t i134_5 c5 ?_
    exact rn_sub [] rfl (s_Hh_copied_17 hD r2.2 r h)
  · rw [if_neg c5] at h
    refine rn_if_eq_f i134_5 c5 ?_
    refine rn_iload_n i134_8 rfl ?_
    refine rn_iconst i134_9 ?_
    refine rn_iconst i134_10 ?_
    obtain ⟨r11, h11, h⟩ := Option.bind_eq_some_iff.mp h
    refine fr_callS (nst := 0) (As := [.inl x2, .inl 0, .inl 1]) (st := []) i134_11 (cq112 x2 0 1) rfl (Nat.le_of_ble_eq_true rfl) (S_Hh_isWithin x2 0 1 r2.2 r11 h11 _ (by omega)) ?_
    show Rn _ _ _ _ _ _ [.inl r11.1] _ _ _
    by_cases c14 : (r11.1 : Int) = 0
    · rw [if_pos c14] at h
      refine rn_if_ne_f i134_14 c14 ?_
      exact rn_sub [] rfl (s_Hh_copied_17 hD r11.2 r h)
    · rw [if_neg c14] at h
      refine rn_if_ne_t i134_14 c14 ?_
      refine rn_iconst i134_19 ?_
      refine rn_istore_n (ls1 := [(3, .inl 0), (0, .inr (.inr a0)), (1, .inl x1), (2, .inl x2)]) i134_20 rfl ?_
      refine fr_aload_n i134_21 rfl ?_
      refine rn_iload_n i134_22 rfl ?_
      refine rn_iconst i134_23 ?_
      obtain ⟨r24, h24, h⟩ := Option.bind_eq_some_iff.mp h
      obtain ⟨g24, c24⟩ := S_Hh_apart a0 x1 0 r11.2 r24 h24
      refine fr_callV (a := a0) (As := [.inl x1, .inl 0]) (st := []) i134_24 (cq135 a0 x1 0) rfl (Nat.le_of_ble_eq_true rfl) g24 (c24 _ (by omega)) ?_
      show Rn _ _ _ _ _ _ [.inl r24.1] _ _ _
      refine rn_istore (ls1 := [(4, .inl r24.1), (3, .inl 0), (0, .inr (.inr a0)), (1, .inl x1), (2, .inl x2)]) i134_27 rfl ?_
      refine rn_iconst i134_29 ?_
      refine rn_istore (ls1 := [(5, .inl 1), (4, .inl r24.1), (3, .inl 0), (0, .inr (.inr a0)), (1, .inl x1), (2, .inl x2)]) i134_30 rfl ?_
      exact rn_sub [3, 4, 5, 2, 1, 0] rfl (s_Hh_copied_32 hD FU a0 x1 x2 0 r24.1 1 r24.2 r h)
/-- HandHeirs.copied(II)I -/
def Hh_copied (a0 : Nat) (x1 : Int) (x2 : Int) (w : Wd) : Option (Int × Wd) := gd 11 w a0 (Hh_copied_0 a0 x1 x2 w)
theorem S_Hh_copied {g : Gp} {l : Launch} (a0 : Nat) (x1 : Int) (x2 : Int) (w : Wd) (r : Int × Wd) (h : Hh_copied a0 x1 x2 w = some r) : (wsh w a0).1 = 11 ∧ ∀ D, 4 ≤ D → Rn g l D 134 0 [(0, .inr (.inr a0)), (1, .inl x1), (2, .inl x2)] [] w (some (.inl r.1)) r.2 := by
  obtain ⟨hg, h⟩ := gd_some h
  exact ⟨hg, fun D hD => rn_sub [0, 1, 2] rfl (s_Hh_copied_0 hD a0 x1 x2 w r h)⟩
def Hh_tell_18 (w : Wd) : Option (Int × Wd) :=
  some ((-1), w)
theorem s_Hh_tell_18 {g : Gp} {l : Launch} {D : Nat} (hD : 1 ≤ D) (w : Wd) (r : Int × Wd) (h : Hh_tell_18 w = some r) : Rn g l D 138 18 [] [] w (some (.inl r.1)) r.2 := by
  unfold Hh_tell_18 at h
  refine rn_iconst i138_18 ?_
  obtain rfl := Option.some.inj h
  exact rn_retI i138_19 mr138
def Hh_tell_0 (a0 : Nat) (x1 : Int) (x2 : Int) (w : Wd) : Option (Int × Wd) :=
  (Hh_isLetter a0 x1 w).bind fun r2 =>
  if (r2.1 : Int) = 0 then
    Hh_tell_18 r2.2
  else
    (Hh_isWithin x2 0 99 r2.2).bind fun r12 =>
    if (r12.1 : Int) = 0 then
      Hh_tell_18 r12.2
    else
      (fgR r12.2 a0 11 9).bind fun v21 =>
      (Pa_add v21 x1 x2 r12.2).bind fun r26 =>
      some (r26.1, r26.2)
theorem s_Hh_tell_0 {g : Gp} {l : Launch} {D : Nat} (hD : 1 ≤ D) (a0 : Nat) (x1 : Int) (x2 : Int) (w : Wd) (r : Int × Wd) (h : Hh_tell_0 a0 x1 x2 w = some r) : Rn g l D 138 0 [(0, .inr (.inr a0)), (1, .inl x1), (2, .inl x2)] [] w (some (.inl r.1)) r.2 := by
  obtain ⟨D, rfl⟩ : ∃ D1, D = D1 + 1 := ⟨D - 1, by omega⟩
  unfold Hh_tell_0 at h
  refine fr_aload_n i138_0 rfl ?_
  refine rn_iload_n i138_1 rfl ?_
  obtain ⟨r2, h2, h⟩ := Option.bind_eq_some_iff.mp h
  obtain ⟨g2, c2⟩ := S_Hh_isLetter a0 x1 w r2 h2
  refine fr_callV (a := a0) (As := [.inl x1]) (st := []) i138_2 (cq109 a0 x1) rfl (Nat.le_of_ble_eq_true rfl) g2 (c2 _ (by omega)) ?_
  show Rn _ _ _ _ _ _ [.inl r2.1] _ _ _
  by_cases c5 : (r2.1 : Int) = 0
  · rw [if_pos c5] at h
    refine rn_if_eq_t i138_5 c5 ?_
    exact rn_sub [] rfl (s_Hh_tell_18 hD r2.2 r h)
  · rw [if_neg c5] at h
    refine rn_if_eq_f i138_5 c5 ?_
    refine rn_iload_n i138_8 rfl ?_
    refine rn_iconst i138_9 ?_
    refine rn_bipush i138_10 ?_
    obtain ⟨r12, h12, h⟩ := Option.bind_eq_some_iff.mp h
    refine fr_callS (nst := 0) (As := [.inl x2, .inl 0, .inl 99]) (st := []) i138_12 (cq112 x2 0 99) rfl (Nat.le_of_ble_eq_true rfl) (S_Hh_isWithin x2 0 99 r2.2 r12 h12 _ (by omega)) ?_
    show Rn _ _ _ _ _ _ [.inl r12.1] _ _ _
    by_cases c15 : (r12.1 : Int) = 0
    · rw [if_pos c15] at h
      refine rn_if_ne_f i138_15 c15 ?_
      exact rn_sub [] rfl (s_Hh_tell_18 hD r12.2 r h)
    · rw [if_neg c15] at h
      refine rn_if_ne_t i138_15 c15 ?_
      refine fr_aload_n i138_20 rfl ?_
      obtain ⟨v21, h21, h⟩ := Option.bind_eq_some_iff.mp h
      refine fr_gR (k := 9) i138_21 tf11_9 h21 ?_
      refine rn_iload_n i138_24 rfl ?_
      refine rn_iload_n i138_25 rfl ?_
      obtain ⟨r26, h26, h⟩ := Option.bind_eq_some_iff.mp h
      obtain ⟨g26, c26⟩ := S_Pa_add v21 x1 x2 r12.2 r26 h26
      refine fr_callV (a := v21) (As := [.inl x1, .inl x2]) (st := []) i138_26 (cq44 v21 x1 x2) rfl (Nat.le_of_ble_eq_true rfl) g26 (c26 _ (by omega)) ?_
      show Rn _ _ _ _ _ _ [.inl r26.1] _ _ _
      obtain rfl := Option.some.inj h
      exact rn_retI i138_29 mr138
/-- HandHeirs.tell(II)I -/
def Hh_tell (a0 : Nat) (x1 : Int) (x2 : Int) (w : Wd) : Option (Int × Wd) := gd 11 w a0 (Hh_tell_0 a0 x1 x2 w)
theorem S_Hh_tell {g : Gp} {l : Launch} (a0 : Nat) (x1 : Int) (x2 : Int) (w : Wd) (r : Int × Wd) (h : Hh_tell a0 x1 x2 w = some r) : (wsh w a0).1 = 11 ∧ ∀ D, 1 ≤ D → Rn g l D 138 0 [(0, .inr (.inr a0)), (1, .inl x1), (2, .inl x2)] [] w (some (.inl r.1)) r.2 := by
  obtain ⟨hg, h⟩ := gd_some h
  exact ⟨hg, fun D hD => rn_sub [0, 1, 2] rfl (s_Hh_tell_0 hD a0 x1 x2 w r h)⟩
def Hh_forget_0 (a0 : Nat) (w : Wd) : Option (Int × Wd) :=
  (fgR w a0 11 9).bind fun v1 =>
  (fgI w v1 3 0).bind fun v4 =>
  (fgR w a0 11 9).bind fun v9 =>
  (fpI w v9 3 0 0).bind fun w13 =>
  some (v4, w13)
theorem s_Hh_forget_0 {g : Gp} {l : Launch} {D : Nat} (hD : 0 ≤ D) (a0 : Nat) (w : Wd) (r : Int × Wd) (h : Hh_forget_0 a0 w = some r) : Rn g l D 139 0 [(0, .inr (.inr a0))] [] w (some (.inl r.1)) r.2 := by
  unfold Hh_forget_0 at h
  refine fr_aload_n i139_0 rfl ?_
  obtain ⟨v1, h1, h⟩ := Option.bind_eq_some_iff.mp h
  refine fr_gR (k := 9) i139_1 tf11_9 h1 ?_
  obtain ⟨v4, h4, h⟩ := Option.bind_eq_some_iff.mp h
  refine fr_gI (k := 0) i139_4 tf3_0 h4 ?_
  refine rn_istore_n (ls1 := [(1, .inl v4), (0, .inr (.inr a0))]) i139_7 rfl ?_
  refine fr_aload_n i139_8 rfl ?_
  obtain ⟨v9, h9, h⟩ := Option.bind_eq_some_iff.mp h
  refine fr_gR (k := 9) i139_9 tf11_9 h9 ?_
  refine rn_iconst i139_12 ?_
  obtain ⟨w13, h13, h⟩ := Option.bind_eq_some_iff.mp h
  refine fr_pI (k := 0) i139_13 (pf3_0 139) h13 ?_
  refine rn_iload_n i139_16 rfl ?_
  obtain rfl := Option.some.inj h
  exact rn_retI i139_17 mr139
/-- HandHeirs.forget()I -/
def Hh_forget (a0 : Nat) (w : Wd) : Option (Int × Wd) := gd 11 w a0 (Hh_forget_0 a0 w)
theorem S_Hh_forget {g : Gp} {l : Launch} (a0 : Nat) (w : Wd) (r : Int × Wd) (h : Hh_forget a0 w = some r) : (wsh w a0).1 = 11 ∧ ∀ D, 0 ≤ D → Rn g l D 139 0 [(0, .inr (.inr a0))] [] w (some (.inl r.1)) r.2 := by
  obtain ⟨hg, h⟩ := gd_some h
  exact ⟨hg, fun D hD => rn_sub [0] rfl (s_Hh_forget_0 hD a0 w r h)⟩
def Hh_isDated_62 (w : Wd) : Option (Int × Wd) :=
  some (1, w)
theorem s_Hh_isDated_62 {g : Gp} {l : Launch} {D : Nat} (hD : 3 ≤ D) (w : Wd) (r : Int × Wd) (h : Hh_isDated_62 w = some r) : Rn g l D 141 62 [] [] w (some (.inl r.1)) r.2 := by
  unfold Hh_isDated_62 at h
  refine rn_iconst i141_62 ?_
  obtain rfl := Option.some.inj h
  exact rn_retZ i141_63 mr141 (by decide)
def Hh_isDated_3 : Nat → Nat → Int → Int → Int → Int → Wd → Option (Int × Wd)
  | 0, _, _, _, _, _, _ => none
  | n + 1, a0, x1, x2, x3, x4, w =>
    if (x3 : Int) ≤ x4 then
      Hh_isDated_62 w
    else
      (fgR w a0 11 9).bind fun v12 =>
      (fgI w v12 3 0).bind fun v15 =>
      if (v15 : Int) ≤ x4 then
        Hh_isDated_62 w
      else
        (fgR w a0 11 9).bind fun v24 =>
        (fgR w v24 3 1).bind fun v27 =>
        (rdI w v27 x4).bind fun v32 =>
        (Hh_handOn a0 x1 v32 w).bind fun r33 =>
        (fgR r33.2 a0 11 9).bind fun v37 =>
        (fgR r33.2 v37 3 2).bind fun v40 =>
        (rdI r33.2 v40 x4).bind fun v45 =>
        if ((iabs (w32 (r33.1 - v45))) : Int) ≤ x2 then
          Hh_isDated_3 n a0 x1 x2 x3 (w32 (x4 + 1)) r33.2
        else
          some (0, r33.2)
theorem s_Hh_isDated_3 {g : Gp} {l : Launch} {D : Nat} (hD : 3 ≤ D) : ∀ (n : Nat) (a0 : Nat) (x1 : Int) (x2 : Int) (x3 : Int) (x4 : Int) (w : Wd) (r : Int × Wd), Hh_isDated_3 n a0 x1 x2 x3 x4 w = some r → Rn g l D 141 3 [(0, .inr (.inr a0)), (1, .inl x1), (2, .inl x2), (3, .inl x3), (4, .inl x4)] [] w (some (.inl r.1)) r.2 := by
  obtain ⟨D, rfl⟩ : ∃ D1, D = D1 + 1 := ⟨D - 1, by omega⟩
  intro n
  induction n with
  | zero => intro a0 x1 x2 x3 x4 w r h; cases (show (none : Option (Int × Wd)) = some r from h)
  | succ n ih =>
    intro a0 x1 x2 x3 x4 w r h
    unfold Hh_isDated_3 at h
    refine rn_iload i141_3 rfl ?_
    refine rn_iload_n i141_5 rfl ?_
    by_cases c6 : (x3 : Int) ≤ x4
    · rw [if_pos c6] at h
      refine rn_icmp_ge_t i141_6 c6 ?_
      exact rn_sub [] rfl (s_Hh_isDated_62 hD w r h)
    · rw [if_neg c6] at h
      refine rn_icmp_ge_f i141_6 c6 ?_
      refine rn_iload i141_9 rfl ?_
      refine fr_aload_n i141_11 rfl ?_
      obtain ⟨v12, h12, h⟩ := Option.bind_eq_some_iff.mp h
      refine fr_gR (k := 9) i141_12 tf11_9 h12 ?_
      obtain ⟨v15, h15, h⟩ := Option.bind_eq_some_iff.mp h
      refine fr_gI (k := 0) i141_15 tf3_0 h15 ?_
      by_cases c18 : (v15 : Int) ≤ x4
      · rw [if_pos c18] at h
        refine rn_icmp_ge_t i141_18 c18 ?_
        exact rn_sub [] rfl (s_Hh_isDated_62 hD w r h)
      · rw [if_neg c18] at h
        refine rn_icmp_ge_f i141_18 c18 ?_
        refine fr_aload_n i141_21 rfl ?_
        refine rn_iload_n i141_22 rfl ?_
        refine fr_aload_n i141_23 rfl ?_
        obtain ⟨v24, h24, h⟩ := Option.bind_eq_some_iff.mp h
        refine fr_gR (k := 9) i141_24 tf11_9 h24 ?_
        obtain ⟨v27, h27, h⟩ := Option.bind_eq_some_iff.mp h
        refine fr_gR (k := 1) i141_27 tf3_1 h27 ?_
        refine rn_iload i141_30 rfl ?_
        obtain ⟨v32, h32, h⟩ := Option.bind_eq_some_iff.mp h
        refine rn_iald i141_32 h32 ?_
        obtain ⟨r33, h33, h⟩ := Option.bind_eq_some_iff.mp h
        obtain ⟨g33, c33⟩ := S_Hh_handOn a0 x1 v32 w r33 h33
        refine fr_callV (a := a0) (As := [.inl x1, .inl v32]) (st := []) i141_33 (cq136 a0 x1 v32) rfl (Nat.le_of_ble_eq_true rfl) g33 (c33 _ (by omega)) ?_
        show Rn _ _ _ _ _ _ [.inl r33.1] _ _ _
        refine fr_aload_n i141_36 rfl ?_
        obtain ⟨v37, h37, h⟩ := Option.bind_eq_some_iff.mp h
        refine fr_gR (k := 9) i141_37 tf11_9 h37 ?_
        obtain ⟨v40, h40, h⟩ := Option.bind_eq_some_iff.mp h
        refine fr_gR (k := 2) i141_40 tf3_2 h40 ?_
        refine rn_iload i141_43 rfl ?_
        obtain ⟨v45, h45, h⟩ := Option.bind_eq_some_iff.mp h
        refine rn_iald i141_45 h45 ?_
        refine rn_isub i141_46 ?_
        refine rn_abs i141_47 (Nat.le_of_ble_eq_true rfl) ?_
        refine rn_iload_n i141_50 rfl ?_
        by_cases c51 : ((iabs (w32 (r33.1 - v45))) : Int) ≤ x2
        · rw [if_pos c51] at h
          refine rn_icmp_le_t i141_51 c51 ?_
          refine rn_iinc (ls1 := [(4, .inl (w32 (x4 + 1))), (0, .inr (.inr a0)), (1, .inl x1), (2, .inl x2), (3, .inl x3)]) i141_56 rfl rfl ?_
          refine rn_goto i141_59 ?_
          exact rn_sub [1, 2, 3, 4, 0] rfl (ih a0 x1 x2 x3 (w32 (x4 + 1)) r33.2 r h)
        · rw [if_neg c51] at h
          refine rn_icmp_le_f i141_51 c51 ?_
          refine rn_iconst i141_54 ?_
          obtain rfl := Option.some.inj h
          exact rn_retZ i141_55 mr141 (by decide)
def Hh_isDated_0 (a0 : Nat) (x1 : Int) (x2 : Int) (x3 : Int) (w : Wd) : Option (Int × Wd) :=
  Hh_isDated_3 FU a0 x1 x2 x3 0 w
theorem s_Hh_isDated_0 {g : Gp} {l : Launch} {D : Nat} (hD : 3 ≤ D) (a0 : Nat) (x1 : Int) (x2 : Int) (x3 : Int) (w : Wd) (r : Int × Wd) (h : Hh_isDated_0 a0 x1 x2 x3 w = some r) : Rn g l D 141 0 [(0, .inr (.inr a0)), (1, .inl x1), (2, .inl x2), (3, .inl x3)] [] w (some (.inl r.1)) r.2 := by
  unfold Hh_isDated_0 at h
  refine rn_iconst i141_0 ?_
  refine rn_istore (ls1 := [(4, .inl 0), (0, .inr (.inr a0)), (1, .inl x1), (2, .inl x2), (3, .inl x3)]) i141_1 rfl ?_
  exact rn_sub [1, 2, 3, 4, 0] rfl (s_Hh_isDated_3 hD FU a0 x1 x2 x3 0 w r h)
/-- HandHeirs.isDated(III)Z -/
def Hh_isDated (a0 : Nat) (x1 : Int) (x2 : Int) (x3 : Int) (w : Wd) : Option (Int × Wd) := gd 11 w a0 (Hh_isDated_0 a0 x1 x2 x3 w)
theorem S_Hh_isDated {g : Gp} {l : Launch} (a0 : Nat) (x1 : Int) (x2 : Int) (x3 : Int) (w : Wd) (r : Int × Wd) (h : Hh_isDated a0 x1 x2 x3 w = some r) : (wsh w a0).1 = 11 ∧ ∀ D, 3 ≤ D → Rn g l D 141 0 [(0, .inr (.inr a0)), (1, .inl x1), (2, .inl x2), (3, .inl x3)] [] w (some (.inl r.1)) r.2 := by
  obtain ⟨hg, h⟩ := gd_some h
  exact ⟨hg, fun D hD => rn_sub [0, 1, 2, 3] rfl (s_Hh_isDated_0 hD a0 x1 x2 x3 w r h)⟩
def Hh_dated_30 (w : Wd) : Option (Int × Wd) :=
  some ((-1), w)
theorem s_Hh_dated_30 {g : Gp} {l : Launch} {D : Nat} (hD : 4 ≤ D) (w : Wd) (r : Int × Wd) (h : Hh_dated_30 w = some r) : Rn g l D 140 30 [] [] w (some (.inl r.1)) r.2 := by
  unfold Hh_dated_30 at h
  refine rn_iconst i140_30 ?_
  obtain rfl := Option.some.inj h
  exact rn_retI i140_31 mr140
def Hh_dated_67 (a0 : Nat) (x5 : Int) (w : Wd) : Option (Int × Wd) :=
  (Hh_yearOn a0 x5 w).bind fun r70 =>
  some (r70.1, r70.2)
theorem s_Hh_dated_67 {g : Gp} {l : Launch} {D : Nat} (hD : 4 ≤ D) (a0 : Nat) (x5 : Int) (w : Wd) (r : Int × Wd) (h : Hh_dated_67 a0 x5 w = some r) : Rn g l D 140 67 [(0, .inr (.inr a0)), (5, .inl x5)] [] w (some (.inl r.1)) r.2 := by
  obtain ⟨D, rfl⟩ : ∃ D1, D = D1 + 1 := ⟨D - 1, by omega⟩
  unfold Hh_dated_67 at h
  refine fr_aload_n i140_67 rfl ?_
  refine rn_iload i140_68 rfl ?_
  obtain ⟨r70, h70, h⟩ := Option.bind_eq_some_iff.mp h
  obtain ⟨g70, c70⟩ := S_Hh_yearOn a0 x5 w r70 h70
  refine fr_callV (a := a0) (As := [.inl x5]) (st := []) i140_70 (cq137 a0 x5) rfl (Nat.le_of_ble_eq_true rfl) g70 (c70 _ (by omega)) ?_
  show Rn _ _ _ _ _ _ [.inl r70.1] _ _ _
  obtain rfl := Option.some.inj h
  exact rn_retI i140_73 mr140
def Hh_dated_77 (k38 : Nat → Int → Int → Int → Int → Int → Wd → Option (Int × Wd)) (a0 : Nat) (x1 : Int) (x2 : Int) (x3 : Int) (x4 : Int) (x5 : Int) (w : Wd) : Option (Int × Wd) :=
  k38 a0 x1 x2 x3 x4 (w32 (x5 + 1)) w
theorem s_Hh_dated_77 {g : Gp} {l : Launch} {D : Nat} (hD : 4 ≤ D) (k38 : Nat → Int → Int → Int → Int → Int → Wd → Option (Int × Wd)) (hk38 : ∀ (a0 : Nat) (x1 : Int) (x2 : Int) (x3 : Int) (x4 : Int) (x5 : Int) (w : Wd) (r : Int × Wd), k38 a0 x1 x2 x3 x4 x5 w = some r → Rn g l D 140 38 [(0, .inr (.inr a0)), (1, .inl x1), (2, .inl x2), (3, .inl x3), (4, .inl x4), (5, .inl x5)] [] w (some (.inl r.1)) r.2) (a0 : Nat) (x1 : Int) (x2 : Int) (x3 : Int) (x4 : Int) (x5 : Int) (w : Wd) (r : Int × Wd) (h : Hh_dated_77 k38 a0 x1 x2 x3 x4 x5 w = some r) : Rn g l D 140 77 [(0, .inr (.inr a0)), (1, .inl x1), (2, .inl x2), (3, .inl x3), (4, .inl x4), (5, .inl x5)] [] w (some (.inl r.1)) r.2 := by
  unfold Hh_dated_77 at h
  refine rn_iinc (ls1 := [(5, .inl (w32 (x5 + 1))), (0, .inr (.inr a0)), (1, .inl x1), (2, .inl x2), (3, .inl x3), (4, .inl x4)]) i140_77 rfl rfl ?_
  refine rn_goto i140_80 ?_
  exact rn_sub [1, 2, 3, 4, 5, 0] rfl (hk38 a0 x1 x2 x3 x4 (w32 (x5 + 1)) w r h)
def Hh_dated_94 (s0 : Int) (w : Wd) : Option (Int × Wd) :=
  some (s0, w)
theorem s_Hh_dated_94 {g : Gp} {l : Launch} {D : Nat} (hD : 4 ≤ D) (s0 : Int) (w : Wd) (r : Int × Wd) (h : Hh_dated_94 s0 w = some r) : Rn g l D 140 94 [] [.inl s0] w (some (.inl r.1)) r.2 := by
  unfold Hh_dated_94 at h
  obtain rfl := Option.some.inj h
  exact rn_retI i140_94 mr140
def Hh_dated_83 (x3 : Int) (x4 : Int) (w : Wd) : Option (Int × Wd) :=
  if (x3 : Int) = (-1) then
    Hh_dated_94 x4 w
  else
    Hh_dated_94 (-1) w
theorem s_Hh_dated_83 {g : Gp} {l : Launch} {D : Nat} (hD : 4 ≤ D) (x3 : Int) (x4 : Int) (w : Wd) (r : Int × Wd) (h : Hh_dated_83 x3 x4 w = some r) : Rn g l D 140 83 [(3, .inl x3), (4, .inl x4)] [] w (some (.inl r.1)) r.2 := by
  unfold Hh_dated_83 at h
  refine rn_iload_n i140_83 rfl ?_
  refine rn_iconst i140_84 ?_
  by_cases c85 : (x3 : Int) = (-1)
  · rw [if_pos c85] at h
    refine rn_icmp_ne_f i140_85 c85 ?_
    refine rn_iload i140_88 rfl ?_
    refine rn_goto i140_90 ?_
    exact rn_sub [] rfl (s_Hh_dated_94 hD x4 w r h)
  · rw [if_neg c85] at h
    refine rn_icmp_ne_t i140_85 c85 ?_
    refine rn_iconst i140_93 ?_
    exact rn_sub [] rfl (s_Hh_dated_94 hD (-1) w r h)
def Hh_dated_38 : Nat → Nat → Int → Int → Int → Int → Int → Wd → Option (Int × Wd)
  | 0, _, _, _, _, _, _, _ => none
  | n + 1, a0, x1, x2, x3, x4, x5, w =>
    (fgR w a0 11 4).bind fun v41 =>
    (St_led v41 w).bind fun r44 =>
    if (r44.1 : Int) < x5 then
      Hh_dated_83 x3 x4 r44.2
    else
      (Hh_isDated a0 x5 x1 x2 r44.2).bind fun r55 =>
      if (r55.1 : Int) = 0 then
        Hh_dated_77 (Hh_dated_38 n) a0 x1 x2 x3 x4 x5 r55.2
      else
        if (x4 : Int) = x3 then
          Hh_dated_67 a0 x5 r55.2
        else
          Hh_dated_77 (Hh_dated_38 n) a0 x1 x2 x3 (w32 (x4 + 1)) x5 r55.2
theorem s_Hh_dated_38 {g : Gp} {l : Launch} {D : Nat} (hD : 4 ≤ D) : ∀ (n : Nat) (a0 : Nat) (x1 : Int) (x2 : Int) (x3 : Int) (x4 : Int) (x5 : Int) (w : Wd) (r : Int × Wd), Hh_dated_38 n a0 x1 x2 x3 x4 x5 w = some r → Rn g l D 140 38 [(0, .inr (.inr a0)), (1, .inl x1), (2, .inl x2), (3, .inl x3), (4, .inl x4), (5, .inl x5)] [] w (some (.inl r.1)) r.2 := by
  obtain ⟨D, rfl⟩ : ∃ D1, D = D1 + 1 := ⟨D - 1, by omega⟩
  intro n
  induction n with
  | zero => intro a0 x1 x2 x3 x4 x5 w r h; cases (show (none : Option (Int × Wd)) = some r from h)
  | succ n ih =>
    intro a0 x1 x2 x3 x4 x5 w r h
    unfold Hh_dated_38 at h
    refine rn_iload i140_38 rfl ?_
    refine fr_aload_n i140_40 rfl ?_
    obtain ⟨v41, h41, h⟩ := Option.bind_eq_some_iff.mp h
    refine fr_gR (k := 4) i140_41 tf11_4 h41 ?_
    obtain ⟨r44, h44, h⟩ := Option.bind_eq_some_iff.mp h
    obtain ⟨g44, c44⟩ := S_St_led v41 w r44 h44
    refine fr_callV (a := v41) (As := []) (st := [.inl x5]) i140_44 (cq90 v41) rfl (Nat.le_of_ble_eq_true rfl) g44 (c44 _ (by omega)) ?_
    show Rn _ _ _ _ _ _ [.inl r44.1, .inl x5] _ _ _
    by_cases c47 : (r44.1 : Int) < x5
    · rw [if_pos c47] at h
      refine rn_icmp_gt_t i140_47 c47 ?_
      exact rn_sub [3, 4] rfl (s_Hh_dated_83 hD x3 x4 r44.2 r h)
    · rw [if_neg c47] at h
      refine rn_icmp_gt_f i140_47 c47 ?_
      refine fr_aload_n i140_50 rfl ?_
      refine rn_iload i140_51 rfl ?_
      refine rn_iload_n i140_53 rfl ?_
      refine rn_iload_n i140_54 rfl ?_
      obtain ⟨r55, h55, h⟩ := Option.bind_eq_some_iff.mp h
      obtain ⟨g55, c55⟩ := S_Hh_isDated a0 x5 x1 x2 r44.2 r55 h55
      refine fr_callV (a := a0) (As := [.inl x5, .inl x1, .inl x2]) (st := []) i140_55 (cq141 a0 x5 x1 x2) rfl (Nat.le_of_ble_eq_true rfl) g55 (c55 _ (by omega)) ?_
      show Rn _ _ _ _ _ _ [.inl r55.1] _ _ _
      by_cases c58 : (r55.1 : Int) = 0
      · rw [if_pos c58] at h
        refine rn_if_eq_t i140_58 c58 ?_
        exact rn_sub [0, 1, 2, 3, 4, 5] rfl (s_Hh_dated_77 hD (Hh_dated_38 n) ih a0 x1 x2 x3 x4 x5 r55.2 r h)
      · rw [if_neg c58] at h
        refine rn_if_eq_f i140_58 c58 ?_
        refine rn_iload i140_61 rfl ?_
        refine rn_iload_n i140_63 rfl ?_
        by_cases c64 : (x4 : Int) = x3
        · rw [if_pos c64] at h
          refine rn_icmp_ne_f i140_64 c64 ?_
          exact rn_sub [0, 5] rfl (s_Hh_dated_67 hD a0 x5 r55.2 r h)
        · rw [if_neg c64] at h
          refine rn_icmp_ne_t i140_64 c64 ?_
          refine rn_iinc (ls1 := [(4, .inl (w32 (x4 + 1))), (0, .inr (.inr a0)), (1, .inl x1), (2, .inl x2), (3, .inl x3), (5, .inl x5)]) i140_74 rfl rfl ?_
          exact rn_sub [1, 2, 3, 4, 0, 5] rfl (s_Hh_dated_77 hD (Hh_dated_38 n) ih a0 x1 x2 x3 (w32 (x4 + 1)) x5 r55.2 r h)
def Hh_dated_0 (a0 : Nat) (x1 : Int) (x2 : Int) (x3 : Int) (w : Wd) : Option (Int × Wd) :=
  (Hh_isWithin x1 0 99 w).bind fun r4 =>
  if (r4.1 : Int) = 0 then
    Hh_dated_30 r4.2
  else
    (fgR r4.2 a0 11 9).bind fun v13 =>
    (fgI r4.2 v13 3 0).bind fun v16 =>
    (Hh_isWithin x2 0 v16 r4.2).bind fun r19 =>
    if (r19.1 : Int) = 0 then
      Hh_dated_30 r19.2
    else
      if ((-1) : Int) ≤ x3 then
        Hh_dated_38 FU a0 x1 x2 x3 0 0 r19.2
      else
        Hh_dated_30 r19.2
theorem s_Hh_dated_0 {g : Gp} {l : Launch} {D : Nat} (hD : 4 ≤ D) (a0 : Nat) (x1 : Int) (x2 : Int) (x3 : Int) (w : Wd) (r : Int × Wd) (h : Hh_dated_0 a0 x1 x2 x3 w = some r) : Rn g l D 140 0 [(0, .inr (.inr a0)), (1, .inl x1), (2, .inl x2), (3, .inl x3)] [] w (some (.inl r.1)) r.2 := by
  obtain ⟨D, rfl⟩ : ∃ D1, D = D1 + 1 := ⟨D - 1, by omega⟩
  unfold Hh_dated_0 at h
  refine rn_iload_n i140_0 rfl ?_
  refine rn_iconst i140_1 ?_
  refine rn_bipush i140_2 ?_
  obtain ⟨r4, h4, h⟩ := Option.bind_eq_some_iff.mp h
  refine fr_callS (nst := 0) (As := [.inl x1, .inl 0, .inl 99]) (st := []) i140_4 (cq112 x1 0 99) rfl (Nat.le_of_ble_eq_true rfl) (S_Hh_isWithin x1 0 99 w r4 h4 _ (by omega)) ?_
  show Rn _ _ _ _ _ _ [.inl r4.1] _ _ _
  by_cases c7 : (r4.1 : Int) = 0
  · rw [if_pos c7] at h
    refine rn_if_eq_t i140_7 c7 ?_
    exact rn_sub [] rfl (s_Hh_dated_30 hD r4.2 r h)
  · rw [if_neg c7] at h
    refine rn_if_eq_f i140_7 c7 ?_
    refine rn_iload_n i140_10 rfl ?_
    refine rn_iconst i140_11 ?_
    refine fr_aload_n i140_12 rfl ?_
    obtain ⟨v13, h13, h⟩ := Option.bind_eq_some_iff.mp h
    refine fr_gR (k := 9) i140_13 tf11_9 h13 ?_
    obtain ⟨v16, h16, h⟩ := Option.bind_eq_some_iff.mp h
    refine fr_gI (k := 0) i140_16 tf3_0 h16 ?_
    obtain ⟨r19, h19, h⟩ := Option.bind_eq_some_iff.mp h
    refine fr_callS (nst := 0) (As := [.inl x2, .inl 0, .inl v16]) (st := []) i140_19 (cq112 x2 0 v16) rfl (Nat.le_of_ble_eq_true rfl) (S_Hh_isWithin x2 0 v16 r4.2 r19 h19 _ (by omega)) ?_
    show Rn _ _ _ _ _ _ [.inl r19.1] _ _ _
    by_cases c22 : (r19.1 : Int) = 0
    · rw [if_pos c22] at h
      refine rn_if_eq_t i140_22 c22 ?_
      exact rn_sub [] rfl (s_Hh_dated_30 hD r19.2 r h)
    · rw [if_neg c22] at h
      refine rn_if_eq_f i140_22 c22 ?_
      refine rn_iload_n i140_25 rfl ?_
      refine rn_iconst i140_26 ?_
      by_cases c27 : ((-1) : Int) ≤ x3
      · rw [if_pos c27] at h
        refine rn_icmp_ge_t i140_27 c27 ?_
        refine rn_iconst i140_32 ?_
        refine rn_istore (ls1 := [(4, .inl 0), (0, .inr (.inr a0)), (1, .inl x1), (2, .inl x2), (3, .inl x3)]) i140_33 rfl ?_
        refine rn_iconst i140_35 ?_
        refine rn_istore (ls1 := [(5, .inl 0), (4, .inl 0), (0, .inr (.inr a0)), (1, .inl x1), (2, .inl x2), (3, .inl x3)]) i140_36 rfl ?_
        exact rn_sub [2, 3, 4, 5, 1, 0] rfl (s_Hh_dated_38 hD FU a0 x1 x2 x3 0 0 r19.2 r h)
      · rw [if_neg c27] at h
        refine rn_icmp_ge_f i140_27 c27 ?_
        exact rn_sub [] rfl (s_Hh_dated_30 hD r19.2 r h)
/-- HandHeirs.dated(III)I -/
def Hh_dated (a0 : Nat) (x1 : Int) (x2 : Int) (x3 : Int) (w : Wd) : Option (Int × Wd) := gd 11 w a0 (Hh_dated_0 a0 x1 x2 x3 w)
theorem S_Hh_dated {g : Gp} {l : Launch} (a0 : Nat) (x1 : Int) (x2 : Int) (x3 : Int) (w : Wd) (r : Int × Wd) (h : Hh_dated a0 x1 x2 x3 w = some r) : (wsh w a0).1 = 11 ∧ ∀ D, 4 ≤ D → Rn g l D 140 0 [(0, .inr (.inr a0)), (1, .inl x1), (2, .inl x2), (3, .inl x3)] [] w (some (.inl r.1)) r.2 := by
  obtain ⟨hg, h⟩ := gd_some h
  exact ⟨hg, fun D hD => rn_sub [0, 1, 2, 3] rfl (s_Hh_dated_0 hD a0 x1 x2 x3 w r h)⟩
def Hh_hold_0 (a0 : Nat) (x1 : Int) (w : Wd) : Option (Int × Wd) :=
  (Hh_isWithin x1 0 2 w).bind fun r3 =>
  if (r3.1 : Int) = 0 then
    some (0, r3.2)
  else
    (fgR r3.2 a0 11 8).bind fun v12 =>
    (rdR r3.2 v12 x1).bind fun v16 =>
    (fgR r3.2 v16 8 1).bind fun v17 =>
    (fgR r3.2 a0 11 4).bind fun v21 =>
    (St_copy v17 v21 r3.2).bind fun r24 =>
    (fgR r24 a0 11 8).bind fun v28 =>
    (rdR r24 v28 x1).bind fun v32 =>
    (fgR r24 v32 8 2).bind fun v33 =>
    (fgR r24 a0 11 6).bind fun v37 =>
    (fgR r24 a0 11 4).bind fun v41 =>
    (St_led v41 r24).bind fun r44 =>
    (Bk_copy v33 v37 (r44.1) r44.2).bind fun r47 =>
    (fgR r47 a0 11 8).bind fun v51 =>
    (rdR r47 v51 x1).bind fun v55 =>
    (fpZ r47 v55 8 0 1).bind fun w57 =>
    some (1, w57)
theorem s_Hh_hold_0 {g : Gp} {l : Launch} {D : Nat} (hD : 2 ≤ D) (a0 : Nat) (x1 : Int) (w : Wd) (r : Int × Wd) (h : Hh_hold_0 a0 x1 w = some r) : Rn g l D 142 0 [(0, .inr (.inr a0)), (1, .inl x1)] [] w (some (.inl r.1)) r.2 := by
  obtain ⟨D, rfl⟩ : ∃ D1, D = D1 + 1 := ⟨D - 1, by omega⟩
  unfold Hh_hold_0 at h
  refine rn_iload_n i142_0 rfl ?_
  refine rn_iconst i142_1 ?_
  refine rn_iconst i142_2 ?_
  obtain ⟨r3, h3, h⟩ := Option.bind_eq_some_iff.mp h
  refine fr_callS (nst := 0) (As := [.inl x1, .inl 0, .inl 2]) (st := []) i142_3 (cq112 x1 0 2) rfl (Nat.le_of_ble_eq_true rfl) (S_Hh_isWithin x1 0 2 w r3 h3 _ (by omega)) ?_
  show Rn _ _ _ _ _ _ [.inl r3.1] _ _ _
  by_cases c6 : (r3.1 : Int) = 0
  · rw [if_pos c6] at h
    refine rn_if_ne_f i142_6 c6 ?_
    refine rn_iconst i142_9 ?_
    obtain rfl := Option.some.inj h
    exact rn_retZ i142_10 mr142 (by decide)
  · rw [if_neg c6] at h
    refine rn_if_ne_t i142_6 c6 ?_
    refine fr_aload_n i142_11 rfl ?_
    obtain ⟨v12, h12, h⟩ := Option.bind_eq_some_iff.mp h
    refine fr_gR (k := 8) i142_12 tf11_8 h12 ?_
    refine rn_iload_n i142_15 rfl ?_
    obtain ⟨v16, h16, h⟩ := Option.bind_eq_some_iff.mp h
    refine rn_aald i142_16 h16 ?_
    obtain ⟨v17, h17, h⟩ := Option.bind_eq_some_iff.mp h
    refine fr_gR (k := 1) i142_17 tf8_1 h17 ?_
    refine fr_aload_n i142_20 rfl ?_
    obtain ⟨v21, h21, h⟩ := Option.bind_eq_some_iff.mp h
    refine fr_gR (k := 4) i142_21 tf11_4 h21 ?_
    obtain ⟨r24, h24, h⟩ := Option.bind_eq_some_iff.mp h
    obtain ⟨g24, c24⟩ := S_St_copy v17 v21 r3.2 r24 h24
    refine fr_callV (a := v17) (As := [.inr (.inr v21)]) (st := []) i142_24 (cq89 v17 v21) rfl (Nat.le_of_ble_eq_true rfl) g24 (c24 _ (by omega)) ?_
    refine fr_aload_n i142_27 rfl ?_
    obtain ⟨v28, h28, h⟩ := Option.bind_eq_some_iff.mp h
    refine fr_gR (k := 8) i142_28 tf11_8 h28 ?_
    refine rn_iload_n i142_31 rfl ?_
    obtain ⟨v32, h32, h⟩ := Option.bind_eq_some_iff.mp h
    refine rn_aald i142_32 h32 ?_
    obtain ⟨v33, h33, h⟩ := Option.bind_eq_some_iff.mp h
    refine fr_gR (k := 2) i142_33 tf8_2 h33 ?_
    refine fr_aload_n i142_36 rfl ?_
    obtain ⟨v37, h37, h⟩ := Option.bind_eq_some_iff.mp h
    refine fr_gR (k := 6) i142_37 tf11_6 h37 ?_
    refine fr_aload_n i142_40 rfl ?_
    obtain ⟨v41, h41, h⟩ := Option.bind_eq_some_iff.mp h
    refine fr_gR (k := 4) i142_41 tf11_4 h41 ?_
    obtain ⟨r44, h44, h⟩ := Option.bind_eq_some_iff.mp h
    obtain ⟨g44, c44⟩ := S_St_led v41 r24 r44 h44
    refine fr_callV (a := v41) (As := []) (st := [.inr (.inr v37), .inr (.inr v33)]) i142_44 (cq90 v41) rfl (Nat.le_of_ble_eq_true rfl) g44 (c44 _ (by omega)) ?_
    show Rn _ _ _ _ _ _ [.inl r44.1, .inr (.inr v37), .inr (.inr v33)] _ _ _
    obtain ⟨r47, h47, h⟩ := Option.bind_eq_some_iff.mp h
    obtain ⟨g47, c47⟩ := S_Bk_copy v33 v37 (r44.1) r44.2 r47 h47
    refine fr_callV (a := v33) (As := [.inr (.inr v37), .inl r44.1]) (st := []) i142_47 (cq17 v33 v37 (r44.1)) rfl (Nat.le_of_ble_eq_true rfl) g47 (c47 _ (by omega)) ?_
    refine fr_aload_n i142_50 rfl ?_
    obtain ⟨v51, h51, h⟩ := Option.bind_eq_some_iff.mp h
    refine fr_gR (k := 8) i142_51 tf11_8 h51 ?_
    refine rn_iload_n i142_54 rfl ?_
    obtain ⟨v55, h55, h⟩ := Option.bind_eq_some_iff.mp h
    refine rn_aald i142_55 h55 ?_
    refine rn_iconst i142_56 ?_
    obtain ⟨w57, h57, h⟩ := Option.bind_eq_some_iff.mp h
    refine fr_pZ (k := 0) i142_57 (pf8_0 142) h57 ?_
    refine rn_iconst i142_60 ?_
    obtain rfl := Option.some.inj h
    exact rn_retZ i142_61 mr142 (by decide)
/-- HandHeirs.hold(I)Z -/
def Hh_hold (a0 : Nat) (x1 : Int) (w : Wd) : Option (Int × Wd) := gd 11 w a0 (Hh_hold_0 a0 x1 w)
theorem S_Hh_hold {g : Gp} {l : Launch} (a0 : Nat) (x1 : Int) (w : Wd) (r : Int × Wd) (h : Hh_hold a0 x1 w = some r) : (wsh w a0).1 = 11 ∧ ∀ D, 2 ≤ D → Rn g l D 142 0 [(0, .inr (.inr a0)), (1, .inl x1)] [] w (some (.inl r.1)) r.2 := by
  obtain ⟨hg, h⟩ := gd_some h
  exact ⟨hg, fun D hD => rn_sub [0, 1] rfl (s_Hh_hold_0 hD a0 x1 w r h)⟩
def Hh_restore_21 (w : Wd) : Option (Int × Wd) :=
  some (0, w)
theorem s_Hh_restore_21 {g : Gp} {l : Launch} {D : Nat} (hD : 2 ≤ D) (w : Wd) (r : Int × Wd) (h : Hh_restore_21 w = some r) : Rn g l D 143 21 [] [] w (some (.inl r.1)) r.2 := by
  unfold Hh_restore_21 at h
  refine rn_iconst i143_21 ?_
  obtain rfl := Option.some.inj h
  exact rn_retZ i143_22 mr143 (by decide)
def Hh_restore_0 (a0 : Nat) (x1 : Int) (w : Wd) : Option (Int × Wd) :=
  (Hh_isWithin x1 0 2 w).bind fun r3 =>
  if (r3.1 : Int) = 0 then
    Hh_restore_21 r3.2
  else
    (fgR r3.2 a0 11 8).bind fun v10 =>
    (rdR r3.2 v10 x1).bind fun v14 =>
    (fgI r3.2 v14 8 0).bind fun v15 =>
    if (v15 : Int) = 0 then
      Hh_restore_21 r3.2
    else
      (fgR r3.2 a0 11 4).bind fun v24 =>
      (fgR r3.2 a0 11 8).bind fun v28 =>
      (rdR r3.2 v28 x1).bind fun v32 =>
      (fgR r3.2 v32 8 1).bind fun v33 =>
      (St_copy v24 v33 r3.2).bind fun r36 =>
      (fgR r36 a0 11 6).bind fun v40 =>
      (fgR r36 a0 11 8).bind fun v44 =>
      (rdR r36 v44 x1).bind fun v48 =>
      (fgR r36 v48 8 2).bind fun v49 =>
      (fgR r36 a0 11 4).bind fun v53 =>
      (St_led v53 r36).bind fun r56 =>
      (Bk_copy v40 v49 (r56.1) r56.2).bind fun r59 =>
      (fgR r59 a0 11 7).bind fun v63 =>
      (Ps_clear v63 r59).bind fun r66 =>
      some (1, r66)
theorem s_Hh_restore_0 {g : Gp} {l : Launch} {D : Nat} (hD : 2 ≤ D) (a0 : Nat) (x1 : Int) (w : Wd) (r : Int × Wd) (h : Hh_restore_0 a0 x1 w = some r) : Rn g l D 143 0 [(0, .inr (.inr a0)), (1, .inl x1)] [] w (some (.inl r.1)) r.2 := by
  obtain ⟨D, rfl⟩ : ∃ D1, D = D1 + 1 := ⟨D - 1, by omega⟩
  unfold Hh_restore_0 at h
  refine rn_iload_n i143_0 rfl ?_
  refine rn_iconst i143_1 ?_
  refine rn_iconst i143_2 ?_
  obtain ⟨r3, h3, h⟩ := Option.bind_eq_some_iff.mp h
  refine fr_callS (nst := 0) (As := [.inl x1, .inl 0, .inl 2]) (st := []) i143_3 (cq112 x1 0 2) rfl (Nat.le_of_ble_eq_true rfl) (S_Hh_isWithin x1 0 2 w r3 h3 _ (by omega)) ?_
  show Rn _ _ _ _ _ _ [.inl r3.1] _ _ _
  by_cases c6 : (r3.1 : Int) = 0
  · rw [if_pos c6] at h
    refine rn_if_eq_t i143_6 c6 ?_
    exact rn_sub [] rfl (s_Hh_restore_21 hD r3.2 r h)
  · rw [if_neg c6] at h
    refine rn_if_eq_f i143_6 c6 ?_
    refine fr_aload_n i143_9 rfl ?_
    obtain ⟨v10, h10, h⟩ := Option.bind_eq_some_iff.mp h
    refine fr_gR (k := 8) i143_10 tf11_8 h10 ?_
    refine rn_iload_n i143_13 rfl ?_
    obtain ⟨v14, h14, h⟩ := Option.bind_eq_some_iff.mp h
    refine rn_aald i143_14 h14 ?_
    obtain ⟨v15, h15, h⟩ := Option.bind_eq_some_iff.mp h
    refine fr_gI (k := 0) i143_15 tf8_0 h15 ?_
    by_cases c18 : (v15 : Int) = 0
    · rw [if_pos c18] at h
      refine rn_if_ne_f i143_18 c18 ?_
      exact rn_sub [] rfl (s_Hh_restore_21 hD r3.2 r h)
    · rw [if_neg c18] at h
      refine rn_if_ne_t i143_18 c18 ?_
      refine fr_aload_n i143_23 rfl ?_
      obtain ⟨v24, h24, h⟩ := Option.bind_eq_some_iff.mp h
      refine fr_gR (k := 4) i143_24 tf11_4 h24 ?_
      refine fr_aload_n i143_27 rfl ?_
      obtain ⟨v28, h28, h⟩ := Option.bind_eq_some_iff.mp h
      refine fr_gR (k := 8) i143_28 tf11_8 h28 ?_
      refine rn_iload_n i143_31 rfl ?_
      obtain ⟨v32, h32, h⟩ := Option.bind_eq_some_iff.mp h
      refine rn_aald i143_32 h32 ?_
      obtain ⟨v33, h33, h⟩ := Option.bind_eq_some_iff.mp h
      refine fr_gR (k := 1) i143_33 tf8_1 h33 ?_
      obtain ⟨r36, h36, h⟩ := Option.bind_eq_some_iff.mp h
      obtain ⟨g36, c36⟩ := S_St_copy v24 v33 r3.2 r36 h36
      refine fr_callV (a := v24) (As := [.inr (.inr v33)]) (st := []) i143_36 (cq89 v24 v33) rfl (Nat.le_of_ble_eq_true rfl) g36 (c36 _ (by omega)) ?_
      refine fr_aload_n i143_39 rfl ?_
      obtain ⟨v40, h40, h⟩ := Option.bind_eq_some_iff.mp h
      refine fr_gR (k := 6) i143_40 tf11_6 h40 ?_
      refine fr_aload_n i143_43 rfl ?_
      obtain ⟨v44, h44, h⟩ := Option.bind_eq_some_iff.mp h
      refine fr_gR (k := 8) i143_44 tf11_8 h44 ?_
      refine rn_iload_n i143_47 rfl ?_
      obtain ⟨v48, h48, h⟩ := Option.bind_eq_some_iff.mp h
      refine rn_aald i143_48 h48 ?_
      obtain ⟨v49, h49, h⟩ := Option.bind_eq_some_iff.mp h
      refine fr_gR (k := 2) i143_49 tf8_2 h49 ?_
      refine fr_aload_n i143_52 rfl ?_
      obtain ⟨v53, h53, h⟩ := Option.bind_eq_some_iff.mp h
      refine fr_gR (k := 4) i143_53 tf11_4 h53 ?_
      obtain ⟨r56, h56, h⟩ := Option.bind_eq_some_iff.mp h
      obtain ⟨g56, c56⟩ := S_St_led v53 r36 r56 h56
      refine fr_callV (a := v53) (As := []) (st := [.inr (.inr v49), .inr (.inr v40)]) i143_56 (cq90 v53) rfl (Nat.le_of_ble_eq_true rfl) g56 (c56 _ (by omega)) ?_
      show Rn _ _ _ _ _ _ [.inl r56.1, .inr (.inr v49), .inr (.inr v40)] _ _ _
      obtain ⟨r59, h59, h⟩ := Option.bind_eq_some_iff.mp h
      obtain ⟨g59, c59⟩ := S_Bk_copy v40 v49 (r56.1) r56.2 r59 h59
      refine fr_callV (a := v40) (As := [.inr (.inr v49), .inl r56.1]) (st := []) i143_59 (cq17 v40 v49 (r56.1)) rfl (Nat.le_of_ble_eq_true rfl) g59 (c59 _ (by omega)) ?_
      refine fr_aload_n i143_62 rfl ?_
      obtain ⟨v63, h63, h⟩ := Option.bind_eq_some_iff.mp h
      refine fr_gR (k := 7) i143_63 tf11_7 h63 ?_
      obtain ⟨r66, h66, h⟩ := Option.bind_eq_some_iff.mp h
      obtain ⟨g66, c66⟩ := S_Ps_clear v63 r59 r66 h66
      refine fr_callV (a := v63) (As := []) (st := []) i143_66 (cq46 v63) rfl (Nat.le_of_ble_eq_true rfl) g66 (c66 _ (by omega)) ?_
      refine rn_iconst i143_69 ?_
      obtain rfl := Option.some.inj h
      exact rn_retZ i143_70 mr143 (by decide)
/-- HandHeirs.restore(I)Z -/
def Hh_restore (a0 : Nat) (x1 : Int) (w : Wd) : Option (Int × Wd) := gd 11 w a0 (Hh_restore_0 a0 x1 w)
theorem S_Hh_restore {g : Gp} {l : Launch} (a0 : Nat) (x1 : Int) (w : Wd) (r : Int × Wd) (h : Hh_restore a0 x1 w = some r) : (wsh w a0).1 = 11 ∧ ∀ D, 2 ≤ D → Rn g l D 143 0 [(0, .inr (.inr a0)), (1, .inl x1)] [] w (some (.inl r.1)) r.2 := by
  obtain ⟨hg, h⟩ := gd_some h
  exact ⟨hg, fun D hD => rn_sub [0, 1] rfl (s_Hh_restore_0 hD a0 x1 w r h)⟩
def Hh_fullSlots_24 (k4 : Nat → Int → Int → Wd → Option (Int × Wd)) (a0 : Nat) (x1 : Int) (x2 : Int) (w : Wd) : Option (Int × Wd) :=
  k4 a0 x1 (w32 (x2 + 1)) w
theorem s_Hh_fullSlots_24 {g : Gp} {l : Launch} {D : Nat} (hD : 0 ≤ D) (k4 : Nat → Int → Int → Wd → Option (Int × Wd)) (hk4 : ∀ (a0 : Nat) (x1 : Int) (x2 : Int) (w : Wd) (r : Int × Wd), k4 a0 x1 x2 w = some r → Rn g l D 145 4 [(0, .inr (.inr a0)), (1, .inl x1), (2, .inl x2)] [] w (some (.inl r.1)) r.2) (a0 : Nat) (x1 : Int) (x2 : Int) (w : Wd) (r : Int × Wd) (h : Hh_fullSlots_24 k4 a0 x1 x2 w = some r) : Rn g l D 145 24 [(0, .inr (.inr a0)), (1, .inl x1), (2, .inl x2)] [] w (some (.inl r.1)) r.2 := by
  unfold Hh_fullSlots_24 at h
  refine rn_iinc (ls1 := [(2, .inl (w32 (x2 + 1))), (0, .inr (.inr a0)), (1, .inl x1)]) i145_24 rfl rfl ?_
  refine rn_goto i145_27 ?_
  exact rn_sub [1, 2, 0] rfl (hk4 a0 x1 (w32 (x2 + 1)) w r h)
def Hh_fullSlots_4 : Nat → Nat → Int → Int → Wd → Option (Int × Wd)
  | 0, _, _, _, _ => none
  | n + 1, a0, x1, x2, w =>
    if (3 : Int) ≤ x2 then
      some (x1, w)
    else
      (fgR w a0 11 8).bind fun v10 =>
      (rdR w v10 x2).bind fun v14 =>
      (fgI w v14 8 0).bind fun v15 =>
      if (v15 : Int) = 0 then
        Hh_fullSlots_24 (Hh_fullSlots_4 n) a0 x1 x2 w
      else
        Hh_fullSlots_24 (Hh_fullSlots_4 n) a0 (w32 (x1 + 1)) x2 w
theorem s_Hh_fullSlots_4 {g : Gp} {l : Launch} {D : Nat} (hD : 0 ≤ D) : ∀ (n : Nat) (a0 : Nat) (x1 : Int) (x2 : Int) (w : Wd) (r : Int × Wd), Hh_fullSlots_4 n a0 x1 x2 w = some r → Rn g l D 145 4 [(0, .inr (.inr a0)), (1, .inl x1), (2, .inl x2)] [] w (some (.inl r.1)) r.2 := by
  intro n
  induction n with
  | zero => intro a0 x1 x2 w r h; cases (show (none : Option (Int × Wd)) = some r from h)
  | succ n ih =>
    intro a0 x1 x2 w r h
    unfold Hh_fullSlots_4 at h
    refine rn_iload_n i145_4 rfl ?_
    refine rn_iconst i145_5 ?_
    by_cases c6 : (3 : Int) ≤ x2
    · rw [if_pos c6] at h
      refine rn_icmp_ge_t i145_6 c6 ?_
      refine rn_iload_n i145_30 rfl ?_
      obtain rfl := Option.some.inj h
      exact rn_retI i145_31 mr145
    · rw [if_neg c6] at h
      refine rn_icmp_ge_f i145_6 c6 ?_
      refine fr_aload_n i145_9 rfl ?_
      obtain ⟨v10, h10, h⟩ := Option.bind_eq_some_iff.mp h
      refine fr_gR (k := 8) i145_10 tf11_8 h10 ?_
      refine rn_iload_n i145_13 rfl ?_
      obtain ⟨v14, h14, h⟩ := Option.bind_eq_some_iff.mp h
      refine rn_aald i145_14 h14 ?_
      obtain ⟨v15, h15, h⟩ := Option.bind_eq_some_iff.mp h
      refine fr_gI (k := 0) i145_15 tf8_0 h15 ?_
      by_cases c18 : (v15 : Int) = 0
      · rw [if_pos c18] at h
        refine rn_if_eq_t i145_18 c18 ?_
        exact rn_sub [0, 1, 2] rfl (s_Hh_fullSlots_24 hD (Hh_fullSlots_4 n) ih a0 x1 x2 w r h)
      · rw [if_neg c18] at h
        refine rn_if_eq_f i145_18 c18 ?_
        refine rn_iinc (ls1 := [(1, .inl (w32 (x1 + 1))), (0, .inr (.inr a0)), (2, .inl x2)]) i145_21 rfl rfl ?_
        exact rn_sub [1, 0, 2] rfl (s_Hh_fullSlots_24 hD (Hh_fullSlots_4 n) ih a0 (w32 (x1 + 1)) x2 w r h)
def Hh_fullSlots_0 (a0 : Nat) (w : Wd) : Option (Int × Wd) :=
  Hh_fullSlots_4 FU a0 0 0 w
theorem s_Hh_fullSlots_0 {g : Gp} {l : Launch} {D : Nat} (hD : 0 ≤ D) (a0 : Nat) (w : Wd) (r : Int × Wd) (h : Hh_fullSlots_0 a0 w = some r) : Rn g l D 145 0 [(0, .inr (.inr a0))] [] w (some (.inl r.1)) r.2 := by
  unfold Hh_fullSlots_0 at h
  refine rn_iconst i145_0 ?_
  refine rn_istore_n (ls1 := [(1, .inl 0), (0, .inr (.inr a0))]) i145_1 rfl ?_
  refine rn_iconst i145_2 ?_
  refine rn_istore_n (ls1 := [(2, .inl 0), (1, .inl 0), (0, .inr (.inr a0))]) i145_3 rfl ?_
  exact rn_sub [2, 1, 0] rfl (s_Hh_fullSlots_4 hD FU a0 0 0 w r h)
/-- HandHeirs.fullSlots()I -/
def Hh_fullSlots (a0 : Nat) (w : Wd) : Option (Int × Wd) := gd 11 w a0 (Hh_fullSlots_0 a0 w)
theorem S_Hh_fullSlots {g : Gp} {l : Launch} (a0 : Nat) (w : Wd) (r : Int × Wd) (h : Hh_fullSlots a0 w = some r) : (wsh w a0).1 = 11 ∧ ∀ D, 0 ≤ D → Rn g l D 145 0 [(0, .inr (.inr a0))] [] w (some (.inl r.1)) r.2 := by
  obtain ⟨hg, h⟩ := gd_some h
  exact ⟨hg, fun D hD => rn_sub [0] rfl (s_Hh_fullSlots_0 hD a0 w r h)⟩
def Hh_count_0 (a0 : Nat) (x1 : Int) (w : Wd) : Option (Int × Wd) :=
  if (x1 : Int) = 0 then
    (fgR w a0 11 3).bind fun v69 =>
    (fgI w v69 10 0).bind fun v72 =>
    some (v72, w)
  else
    if (x1 : Int) = 1 then
      (fgR w a0 11 3).bind fun v77 =>
      (fgI w v77 10 1).bind fun v80 =>
      some (v80, w)
    else
      if (x1 : Int) = 2 then
        (fgR w a0 11 3).bind fun v85 =>
        (fgI w v85 10 2).bind fun v88 =>
        some (v88, w)
      else
        if (x1 : Int) = 3 then
          (fgR w a0 11 4).bind fun v93 =>
          (fgI w v93 9 0).bind fun v96 =>
          some (v96, w)
        else
          if (x1 : Int) = 4 then
            (fgR w a0 11 4).bind fun v101 =>
            (fgI w v101 9 2).bind fun v104 =>
            some (v104, w)
          else
            if (x1 : Int) = 5 then
              (fgR w a0 11 4).bind fun v109 =>
              (fgI w v109 9 1).bind fun v112 =>
              some (v112, w)
            else
              if (x1 : Int) = 6 then
                (fgR w a0 11 3).bind fun v117 =>
                (fgI w v117 10 3).bind fun v120 =>
                some (v120, w)
              else
                if (x1 : Int) = 7 then
                  (fgR w a0 11 3).bind fun v125 =>
                  (fgI w v125 10 4).bind fun v128 =>
                  some (v128, w)
                else
                  if (x1 : Int) = 8 then
                    (fgR w a0 11 4).bind fun v133 =>
                    (St_led v133 w).bind fun r136 =>
                    some (r136.1, r136.2)
                  else
                    if (x1 : Int) = 9 then
                      (fgI w a0 11 1).bind fun v141 =>
                      some (v141, w)
                    else
                      if (x1 : Int) = 10 then
                        (fgR w a0 11 7).bind fun v146 =>
                        (fgI w v146 4 0).bind fun v149 =>
                        some (v149, w)
                      else
                        if (x1 : Int) = 11 then
                          (fgR w a0 11 9).bind fun v154 =>
                          (fgI w v154 3 0).bind fun v157 =>
                          some (v157, w)
                        else
                          if (x1 : Int) = 12 then
                            (Hh_fullSlots a0 w).bind fun r162 =>
                            some (r162.1, r162.2)
                          else
                            some ((-1), w)
theorem s_Hh_count_0 {g : Gp} {l : Launch} {D : Nat} (hD : 2 ≤ D) (a0 : Nat) (x1 : Int) (w : Wd) (r : Int × Wd) (h : Hh_count_0 a0 x1 w = some r) : Rn g l D 144 0 [(0, .inr (.inr a0)), (1, .inl x1)] [] w (some (.inl r.1)) r.2 := by
  obtain ⟨D, rfl⟩ : ∃ D1, D = D1 + 1 := ⟨D - 1, by omega⟩
  unfold Hh_count_0 at h
  refine rn_iload_n i144_0 rfl ?_
  by_cases c1_0 : (x1 : Int) = 0
  · rw [if_pos c1_0] at h
    refine rn_tsw_in (tgt := 68) i144_1 0 (by omega) (by omega) rfl rfl ?_
    refine fr_aload_n i144_68 rfl ?_
    obtain ⟨v69, h69, h⟩ := Option.bind_eq_some_iff.mp h
    refine fr_gR (k := 3) i144_69 tf11_3 h69 ?_
    obtain ⟨v72, h72, h⟩ := Option.bind_eq_some_iff.mp h
    refine fr_gI (k := 0) i144_72 tf10_0 h72 ?_
    obtain rfl := Option.some.inj h
    exact rn_retI i144_75 mr144
  · rw [if_neg c1_0] at h
    by_cases c1_1 : (x1 : Int) = 1
    · rw [if_pos c1_1] at h
      refine rn_tsw_in (tgt := 76) i144_1 1 (by omega) (by omega) rfl rfl ?_
      refine fr_aload_n i144_76 rfl ?_
      obtain ⟨v77, h77, h⟩ := Option.bind_eq_some_iff.mp h
      refine fr_gR (k := 3) i144_77 tf11_3 h77 ?_
      obtain ⟨v80, h80, h⟩ := Option.bind_eq_some_iff.mp h
      refine fr_gI (k := 1) i144_80 tf10_1 h80 ?_
      obtain rfl := Option.some.inj h
      exact rn_retI i144_83 mr144
    · rw [if_neg c1_1] at h
      by_cases c1_2 : (x1 : Int) = 2
      · rw [if_pos c1_2] at h
        refine rn_tsw_in (tgt := 84) i144_1 2 (by omega) (by omega) rfl rfl ?_
        refine fr_aload_n i144_84 rfl ?_
        obtain ⟨v85, h85, h⟩ := Option.bind_eq_some_iff.mp h
        refine fr_gR (k := 3) i144_85 tf11_3 h85 ?_
        obtain ⟨v88, h88, h⟩ := Option.bind_eq_some_iff.mp h
        refine fr_gI (k := 2) i144_88 tf10_2 h88 ?_
        obtain rfl := Option.some.inj h
        exact rn_retI i144_91 mr144
      · rw [if_neg c1_2] at h
        by_cases c1_3 : (x1 : Int) = 3
        · rw [if_pos c1_3] at h
          refine rn_tsw_in (tgt := 92) i144_1 3 (by omega) (by omega) rfl rfl ?_
          refine fr_aload_n i144_92 rfl ?_
          obtain ⟨v93, h93, h⟩ := Option.bind_eq_some_iff.mp h
          refine fr_gR (k := 4) i144_93 tf11_4 h93 ?_
          obtain ⟨v96, h96, h⟩ := Option.bind_eq_some_iff.mp h
          refine fr_gI (k := 0) i144_96 tf9_0 h96 ?_
          obtain rfl := Option.some.inj h
          exact rn_retI i144_99 mr144
        · rw [if_neg c1_3] at h
          by_cases c1_4 : (x1 : Int) = 4
          · rw [if_pos c1_4] at h
            refine rn_tsw_in (tgt := 100) i144_1 4 (by omega) (by omega) rfl rfl ?_
            refine fr_aload_n i144_100 rfl ?_
            obtain ⟨v101, h101, h⟩ := Option.bind_eq_some_iff.mp h
            refine fr_gR (k := 4) i144_101 tf11_4 h101 ?_
            obtain ⟨v104, h104, h⟩ := Option.bind_eq_some_iff.mp h
            refine fr_gI (k := 2) i144_104 tf9_2 h104 ?_
            obtain rfl := Option.some.inj h
            exact rn_retI i144_107 mr144
          · rw [if_neg c1_4] at h
            by_cases c1_5 : (x1 : Int) = 5
            · rw [if_pos c1_5] at h
              refine rn_tsw_in (tgt := 108) i144_1 5 (by omega) (by omega) rfl rfl ?_
              refine fr_aload_n i144_108 rfl ?_
              obtain ⟨v109, h109, h⟩ := Option.bind_eq_some_iff.mp h
              refine fr_gR (k := 4) i144_109 tf11_4 h109 ?_
              obtain ⟨v112, h112, h⟩ := Option.bind_eq_some_iff.mp h
              refine fr_gI (k := 1) i144_112 tf9_1 h112 ?_
              obtain rfl := Option.some.inj h
              exact rn_retI i144_115 mr144
            · rw [if_neg c1_5] at h
              by_cases c1_6 : (x1 : Int) = 6
              · rw [if_pos c1_6] at h
                refine rn_tsw_in (tgt := 116) i144_1 6 (by omega) (by omega) rfl rfl ?_
                refine fr_aload_n i144_116 rfl ?_
                obtain ⟨v117, h117, h⟩ := Option.bind_eq_some_iff.mp h
                refine fr_gR (k := 3) i144_117 tf11_3 h117 ?_
                obtain ⟨v120, h120, h⟩ := Option.bind_eq_some_iff.mp h
                refine fr_gI (k := 3) i144_120 tf10_3 h120 ?_
                obtain rfl := Option.some.inj h
                exact rn_retI i144_123 mr144
              · rw [if_neg c1_6] at h
                by_cases c1_7 : (x1 : Int) = 7
                · rw [if_pos c1_7] at h
                  refine rn_tsw_in (tgt := 124) i144_1 7 (by omega) (by omega) rfl rfl ?_
                  refine fr_aload_n i144_124 rfl ?_
                  obtain ⟨v125, h125, h⟩ := Option.bind_eq_some_iff.mp h
                  refine fr_gR (k := 3) i144_125 tf11_3 h125 ?_
                  obtain ⟨v128, h128, h⟩ := Option.bind_eq_some_iff.mp h
                  refine fr_gI (k := 4) i144_128 tf10_4 h128 ?_
                  obtain rfl := Option.some.inj h
                  exact rn_retI i144_131 mr144
                · rw [if_neg c1_7] at h
                  by_cases c1_8 : (x1 : Int) = 8
                  · rw [if_pos c1_8] at h
                    refine rn_tsw_in (tgt := 132) i144_1 8 (by omega) (by omega) rfl rfl ?_
                    refine fr_aload_n i144_132 rfl ?_
                    obtain ⟨v133, h133, h⟩ := Option.bind_eq_some_iff.mp h
                    refine fr_gR (k := 4) i144_133 tf11_4 h133 ?_
                    obtain ⟨r136, h136, h⟩ := Option.bind_eq_some_iff.mp h
                    obtain ⟨g136, c136⟩ := S_St_led v133 w r136 h136
                    refine fr_callV (a := v133) (As := []) (st := []) i144_136 (cq90 v133) rfl (Nat.le_of_ble_eq_true rfl) g136 (c136 _ (by omega)) ?_
                    show Rn _ _ _ _ _ _ [.inl r136.1] _ _ _
                    obtain rfl := Option.some.inj h
                    exact rn_retI i144_139 mr144
                  · rw [if_neg c1_8] at h
                    by_cases c1_9 : (x1 : Int) = 9
                    · rw [if_pos c1_9] at h
                      refine rn_tsw_in (tgt := 140) i144_1 9 (by omega) (by omega) rfl rfl ?_
                      refine fr_aload_n i144_140 rfl ?_
                      obtain ⟨v141, h141, h⟩ := Option.bind_eq_some_iff.mp h
                      refine fr_gI (k := 1) i144_141 tf11_1 h141 ?_
                      obtain rfl := Option.some.inj h
                      exact rn_retI i144_144 mr144
                    · rw [if_neg c1_9] at h
                      by_cases c1_10 : (x1 : Int) = 10
                      · rw [if_pos c1_10] at h
                        refine rn_tsw_in (tgt := 145) i144_1 10 (by omega) (by omega) rfl rfl ?_
                        refine fr_aload_n i144_145 rfl ?_
                        obtain ⟨v146, h146, h⟩ := Option.bind_eq_some_iff.mp h
                        refine fr_gR (k := 7) i144_146 tf11_7 h146 ?_
                        obtain ⟨v149, h149, h⟩ := Option.bind_eq_some_iff.mp h
                        refine fr_gI (k := 0) i144_149 tf4_0 h149 ?_
                        obtain rfl := Option.some.inj h
                        exact rn_retI i144_152 mr144
                      · rw [if_neg c1_10] at h
                        by_cases c1_11 : (x1 : Int) = 11
                        · rw [if_pos c1_11] at h
                          refine rn_tsw_in (tgt := 153) i144_1 11 (by omega) (by omega) rfl rfl ?_
                          refine fr_aload_n i144_153 rfl ?_
                          obtain ⟨v154, h154, h⟩ := Option.bind_eq_some_iff.mp h
                          refine fr_gR (k := 9) i144_154 tf11_9 h154 ?_
                          obtain ⟨v157, h157, h⟩ := Option.bind_eq_some_iff.mp h
                          refine fr_gI (k := 0) i144_157 tf3_0 h157 ?_
                          obtain rfl := Option.some.inj h
                          exact rn_retI i144_160 mr144
                        · rw [if_neg c1_11] at h
                          by_cases c1_12 : (x1 : Int) = 12
                          · rw [if_pos c1_12] at h
                            refine rn_tsw_in (tgt := 161) i144_1 12 (by omega) (by omega) rfl rfl ?_
                            refine fr_aload_n i144_161 rfl ?_
                            obtain ⟨r162, h162, h⟩ := Option.bind_eq_some_iff.mp h
                            obtain ⟨g162, c162⟩ := S_Hh_fullSlots a0 w r162 h162
                            refine fr_callV (a := a0) (As := []) (st := []) i144_162 (cq145 a0) rfl (Nat.le_of_ble_eq_true rfl) g162 (c162 _ (by omega)) ?_
                            show Rn _ _ _ _ _ _ [.inl r162.1] _ _ _
                            obtain rfl := Option.some.inj h
                            exact rn_retI i144_165 mr144
                          · rw [if_neg c1_12] at h
                            refine rn_tsw_out (tgt := 166) i144_1 (by omega) rfl ?_
                            refine rn_iconst i144_166 ?_
                            obtain rfl := Option.some.inj h
                            exact rn_retI i144_167 mr144
/-- HandHeirs.count(I)I -/
def Hh_count (a0 : Nat) (x1 : Int) (w : Wd) : Option (Int × Wd) := gd 11 w a0 (Hh_count_0 a0 x1 w)
theorem S_Hh_count {g : Gp} {l : Launch} (a0 : Nat) (x1 : Int) (w : Wd) (r : Int × Wd) (h : Hh_count a0 x1 w = some r) : (wsh w a0).1 = 11 ∧ ∀ D, 2 ≤ D → Rn g l D 144 0 [(0, .inr (.inr a0)), (1, .inl x1)] [] w (some (.inl r.1)) r.2 := by
  obtain ⟨hg, h⟩ := gd_some h
  exact ⟨hg, fun D hD => rn_sub [0, 1] rfl (s_Hh_count_0 hD a0 x1 w r h)⟩
def Mo_appends_21 (s0 : Int) (w : Wd) : Option (Int × Wd) :=
  some (s0, w)
theorem s_Mo_appends_21 {g : Gp} {l : Launch} {D : Nat} (hD : 0 ≤ D) (s0 : Int) (w : Wd) (r : Int × Wd) (h : Mo_appends_21 s0 w = some r) : Rn g l D 154 21 [] [.inr (.inl s0)] w (some (.inr (.inl r.1))) r.2 := by
  unfold Mo_appends_21 at h
  obtain rfl := Option.some.inj h
  exact rn_retL i154_21 mr154
def Mo_appends_0 (x0 : Int) (x2 : Int) (w : Wd) : Option (Int × Wd) :=
  if (x2 : Int) = 0 then
    Mo_appends_21 x0 w
  else
    Mo_appends_21 (w64 ((w64 (27 * x0)) + (w32 ((w32 (x2 - 97)) + 1)))) w
theorem s_Mo_appends_0 {g : Gp} {l : Launch} {D : Nat} (hD : 0 ≤ D) (x0 : Int) (x2 : Int) (w : Wd) (r : Int × Wd) (h : Mo_appends_0 x0 x2 w = some r) : Rn g l D 154 0 [(0, .inr (.inl x0)), (2, .inl x2)] [] w (some (.inr (.inl r.1))) r.2 := by
  unfold Mo_appends_0 at h
  refine rn_iload_n i154_0 rfl ?_
  by_cases c1 : (x2 : Int) = 0
  · rw [if_pos c1] at h
    refine rn_if_ne_f i154_1 c1 ?_
    refine rn_lload_n i154_4 rfl ?_
    refine rn_goto i154_5 ?_
    exact rn_sub [] rfl (s_Mo_appends_21 hD x0 w r h)
  · rw [if_neg c1] at h
    refine rn_if_ne_t i154_1 c1 ?_
    refine rn_ldc2 i154_8 lw154_8 ⟨by decide, by decide⟩ ?_
    refine rn_lload_n i154_11 rfl ?_
    refine rn_lmul i154_12 ?_
    refine rn_iload_n i154_13 rfl ?_
    refine rn_bipush i154_14 ?_
    refine rn_isub i154_16 ?_
    refine rn_iconst i154_17 ?_
    refine rn_iadd i154_18 ?_
    refine rn_i2l i154_19 ?_
    refine rn_ladd i154_20 ?_
    exact rn_sub [] rfl (s_Mo_appends_21 hD (w64 ((w64 (27 * x0)) + (w32 ((w32 (x2 - 97)) + 1)))) w r h)
/-- HandHeirsModel.appends(JI)J -/
def Mo_appends (x0 : Int) (x2 : Int) (w : Wd) : Option (Int × Wd) := Mo_appends_0 x0 x2 w
theorem S_Mo_appends {g : Gp} {l : Launch} (x0 : Int) (x2 : Int) (w : Wd) (r : Int × Wd) (h : Mo_appends x0 x2 w = some r) : ∀ D, 0 ≤ D → Rn g l D 154 0 [(0, .inr (.inl x0)), (2, .inl x2)] [] w (some (.inr (.inl r.1))) r.2 := fun D hD => rn_sub [0, 1] rfl (s_Mo_appends_0 hD x0 x2 w r h)
def Mo_word_0 (x0 : Int) (x1 : Int) (x2 : Int) (x3 : Int) (x4 : Int) (x5 : Int) (x6 : Int) (w : Wd) : Option (Int × Wd) :=
  (Mo_appends 0 x0 w).bind fun r2 =>
  (Mo_appends (r2.1) x1 r2.2).bind fun r6 =>
  (Mo_appends (r6.1) x2 r6.2).bind fun r10 =>
  (Mo_appends (r10.1) x3 r10.2).bind fun r14 =>
  (Mo_appends (r14.1) x4 r14.2).bind fun r19 =>
  (Mo_appends (r19.1) x5 r19.2).bind fun r24 =>
  (Mo_appends (r24.1) x6 r24.2).bind fun r29 =>
  some (r29.1, r29.2)
theorem s_Mo_word_0 {g : Gp} {l : Launch} {D : Nat} (hD : 1 ≤ D) (x0 : Int) (x1 : Int) (x2 : Int) (x3 : Int) (x4 : Int) (x5 : Int) (x6 : Int) (w : Wd) (r : Int × Wd) (h : Mo_word_0 x0 x1 x2 x3 x4 x5 x6 w = some r) : Rn g l D 155 0 [(0, .inl x0), (1, .inl x1), (2, .inl x2), (3, .inl x3), (4, .inl x4), (5, .inl x5), (6, .inl x6)] [] w (some (.inr (.inl r.1))) r.2 := by
  obtain ⟨D, rfl⟩ : ∃ D1, D = D1 + 1 := ⟨D - 1, by omega⟩
  unfold Mo_word_0 at h
  refine fr_lconst0 i155_0 ?_
  refine rn_iload_n i155_1 rfl ?_
  obtain ⟨r2, h2, h⟩ := Option.bind_eq_some_iff.mp h
  refine fr_callS (nst := 0) (As := [.inr (.inl 0), .inl x0]) (st := []) i155_2 (cq154 0 x0) rfl (Nat.le_of_ble_eq_true rfl) (S_Mo_appends 0 x0 w r2 h2 _ (by omega)) ?_
  show Rn _ _ _ _ _ _ [.inr (.inl r2.1)] _ _ _
  refine rn_iload_n i155_5 rfl ?_
  obtain ⟨r6, h6, h⟩ := Option.bind_eq_some_iff.mp h
  refine fr_callS (nst := 0) (As := [.inr (.inl r2.1), .inl x1]) (st := []) i155_6 (cq154 (r2.1) x1) rfl (Nat.le_of_ble_eq_true rfl) (S_Mo_appends (r2.1) x1 r2.2 r6 h6 _ (by omega)) ?_
  show Rn _ _ _ _ _ _ [.inr (.inl r6.1)] _ _ _
  refine rn_iload_n i155_9 rfl ?_
  obtain ⟨r10, h10, h⟩ := Option.bind_eq_some_iff.mp h
  refine fr_callS (nst := 0) (As := [.inr (.inl r6.1), .inl x2]) (st := []) i155_10 (cq154 (r6.1) x2) rfl (Nat.le_of_ble_eq_true rfl) (S_Mo_appends (r6.1) x2 r6.2 r10 h10 _ (by omega)) ?_
  show Rn _ _ _ _ _ _ [.inr (.inl r10.1)] _ _ _
  refine rn_iload_n i155_13 rfl ?_
  obtain ⟨r14, h14, h⟩ := Option.bind_eq_some_iff.mp h
  refine fr_callS (nst := 0) (As := [.inr (.inl r10.1), .inl x3]) (st := []) i155_14 (cq154 (r10.1) x3) rfl (Nat.le_of_ble_eq_true rfl) (S_Mo_appends (r10.1) x3 r10.2 r14 h14 _ (by omega)) ?_
  show Rn _ _ _ _ _ _ [.inr (.inl r14.1)] _ _ _
  refine rn_iload i155_17 rfl ?_
  obtain ⟨r19, h19, h⟩ := Option.bind_eq_some_iff.mp h
  refine fr_callS (nst := 0) (As := [.inr (.inl r14.1), .inl x4]) (st := []) i155_19 (cq154 (r14.1) x4) rfl (Nat.le_of_ble_eq_true rfl) (S_Mo_appends (r14.1) x4 r14.2 r19 h19 _ (by omega)) ?_
  show Rn _ _ _ _ _ _ [.inr (.inl r19.1)] _ _ _
  refine rn_iload i155_22 rfl ?_
  obtain ⟨r24, h24, h⟩ := Option.bind_eq_some_iff.mp h
  refine fr_callS (nst := 0) (As := [.inr (.inl r19.1), .inl x5]) (st := []) i155_24 (cq154 (r19.1) x5) rfl (Nat.le_of_ble_eq_true rfl) (S_Mo_appends (r19.1) x5 r19.2 r24 h24 _ (by omega)) ?_
  show Rn _ _ _ _ _ _ [.inr (.inl r24.1)] _ _ _
  refine rn_iload i155_27 rfl ?_
  obtain ⟨r29, h29, h⟩ := Option.bind_eq_some_iff.mp h
  refine fr_callS (nst := 0) (As := [.inr (.inl r24.1), .inl x6]) (st := []) i155_29 (cq154 (r24.1) x6) rfl (Nat.le_of_ble_eq_true rfl) (S_Mo_appends (r24.1) x6 r24.2 r29 h29 _ (by omega)) ?_
  show Rn _ _ _ _ _ _ [.inr (.inl r29.1)] _ _ _
  obtain rfl := Option.some.inj h
  exact rn_retL i155_32 mr155
/-- HandHeirsModel.word(IIIIIII)J -/
def Mo_word (x0 : Int) (x1 : Int) (x2 : Int) (x3 : Int) (x4 : Int) (x5 : Int) (x6 : Int) (w : Wd) : Option (Int × Wd) := Mo_word_0 x0 x1 x2 x3 x4 x5 x6 w
theorem S_Mo_word {g : Gp} {l : Launch} (x0 : Int) (x1 : Int) (x2 : Int) (x3 : Int) (x4 : Int) (x5 : Int) (x6 : Int) (w : Wd) (r : Int × Wd) (h : Mo_word x0 x1 x2 x3 x4 x5 x6 w = some r) : ∀ D, 1 ≤ D → Rn g l D 155 0 [(0, .inl x0), (1, .inl x1), (2, .inl x2), (3, .inl x3), (4, .inl x4), (5, .inl x5), (6, .inl x6)] [] w (some (.inr (.inl r.1))) r.2 := fun D hD => rn_sub [0, 1, 2, 3, 4, 5, 6] rfl (s_Mo_word_0 hD x0 x1 x2 x3 x4 x5 x6 w r h)
def Mo_plain_46 : Nat → Nat → Int → Int → Wd → Option (Wd)
  | 0, _, _, _, _ => none
  | n + 1, a0, x1, x2, w =>
    if (10 : Int) ≤ x2 then
      some w
    else
      (fgR w a0 12 33).bind fun v53 =>
      (wrI w v53 (w32 ((w32 (10 * x1)) + x2)) 0).bind fun w63 =>
      (fgR w63 a0 12 34).bind fun v65 =>
      (wrI w63 v65 (w32 ((w32 (10 * x1)) + x2)) 0).bind fun w75 =>
      Mo_plain_46 n a0 x1 (w32 (x2 + 1)) w75
theorem s_Mo_plain_46 {g : Gp} {l : Launch} {D : Nat} (hD : 0 ≤ D) : ∀ (n : Nat) (a0 : Nat) (x1 : Int) (x2 : Int) (w : Wd) (r : Wd), Mo_plain_46 n a0 x1 x2 w = some r → Rn g l D 164 46 [(0, .inr (.inr a0)), (1, .inl x1), (2, .inl x2)] [] w none r := by
  intro n
  induction n with
  | zero => intro a0 x1 x2 w r h; cases (show (none : Option (Wd)) = some r from h)
  | succ n ih =>
    intro a0 x1 x2 w r h
    unfold Mo_plain_46 at h
    refine rn_iload_n i164_46 rfl ?_
    refine rn_bipush i164_47 ?_
    by_cases c49 : (10 : Int) ≤ x2
    · rw [if_pos c49] at h
      refine rn_icmp_ge_t i164_49 c49 ?_
      obtain rfl := Option.some.inj h
      exact rn_ret i164_82 mr164
    · rw [if_neg c49] at h
      refine rn_icmp_ge_f i164_49 c49 ?_
      refine fr_aload_n i164_52 rfl ?_
      obtain ⟨v53, h53, h⟩ := Option.bind_eq_some_iff.mp h
      refine fr_gR (k := 33) i164_53 tf12_33 h53 ?_
      refine rn_bipush i164_56 ?_
      refine rn_iload_n i164_58 rfl ?_
      refine rn_imul i164_59 ?_
      refine rn_iload_n i164_60 rfl ?_
      refine rn_iadd i164_61 ?_
      refine rn_iconst i164_62 ?_
      obtain ⟨w63, h63, h⟩ := Option.bind_eq_some_iff.mp h
      refine rn_iast i164_63 h63 ?_
      refine fr_aload_n i164_64 rfl ?_
      obtain ⟨v65, h65, h⟩ := Option.bind_eq_some_iff.mp h
      refine fr_gR (k := 34) i164_65 tf12_34 h65 ?_
      refine rn_bipush i164_68 ?_
      refine rn_iload_n i164_70 rfl ?_
      refine rn_imul i164_71 ?_
      refine rn_iload_n i164_72 rfl ?_
      refine rn_iadd i164_73 ?_
      refine rn_iconst i164_74 ?_
      obtain ⟨w75, h75, h⟩ := Option.bind_eq_some_iff.mp h
      refine rn_iast i164_75 h75 ?_
      refine rn_iinc (ls1 := [(2, .inl (w32 (x2 + 1))), (0, .inr (.inr a0)), (1, .inl x1)]) i164_76 rfl rfl ?_
      refine rn_goto i164_79 ?_
      exact rn_sub [1, 2, 0] rfl (ih a0 x1 (w32 (x2 + 1)) w75 r h)
def Mo_plain_0 (a0 : Nat) (x1 : Int) (w : Wd) : Option (Wd) :=
  (fgR w a0 12 23).bind fun v1 =>
  (wrI w v1 x1 0).bind fun w6 =>
  (fgR w6 a0 12 25).bind fun v8 =>
  (wrI w6 v8 x1 0).bind fun w13 =>
  (fgR w13 a0 12 29).bind fun v15 =>
  (wrI w13 v15 x1 0).bind fun w20 =>
  (fgR w20 a0 12 30).bind fun v22 =>
  (wrI w20 v22 x1 3).bind fun w27 =>
  (fgR w27 a0 12 31).bind fun v29 =>
  (wrI w27 v29 x1 9999).bind fun w36 =>
  (fgR w36 a0 12 32).bind fun v38 =>
  (wrI w36 v38 x1 0).bind fun w43 =>
  Mo_plain_46 FU a0 x1 0 w43
theorem s_Mo_plain_0 {g : Gp} {l : Launch} {D : Nat} (hD : 0 ≤ D) (a0 : Nat) (x1 : Int) (w : Wd) (r : Wd) (h : Mo_plain_0 a0 x1 w = some r) : Rn g l D 164 0 [(0, .inr (.inr a0)), (1, .inl x1)] [] w none r := by
  unfold Mo_plain_0 at h
  refine fr_aload_n i164_0 rfl ?_
  obtain ⟨v1, h1, h⟩ := Option.bind_eq_some_iff.mp h
  refine fr_gR (k := 23) i164_1 tf12_23 h1 ?_
  refine rn_iload_n i164_4 rfl ?_
  refine rn_iconst i164_5 ?_
  obtain ⟨w6, h6, h⟩ := Option.bind_eq_some_iff.mp h
  refine rn_iast i164_6 h6 ?_
  refine fr_aload_n i164_7 rfl ?_
  obtain ⟨v8, h8, h⟩ := Option.bind_eq_some_iff.mp h
  refine fr_gR (k := 25) i164_8 tf12_25 h8 ?_
  refine rn_iload_n i164_11 rfl ?_
  refine rn_iconst i164_12 ?_
  obtain ⟨w13, h13, h⟩ := Option.bind_eq_some_iff.mp h
  refine rn_iast i164_13 h13 ?_
  refine fr_aload_n i164_14 rfl ?_
  obtain ⟨v15, h15, h⟩ := Option.bind_eq_some_iff.mp h
  refine fr_gR (k := 29) i164_15 tf12_29 h15 ?_
  refine rn_iload_n i164_18 rfl ?_
  refine rn_iconst i164_19 ?_
  obtain ⟨w20, h20, h⟩ := Option.bind_eq_some_iff.mp h
  refine rn_iast i164_20 h20 ?_
  refine fr_aload_n i164_21 rfl ?_
  obtain ⟨v22, h22, h⟩ := Option.bind_eq_some_iff.mp h
  refine fr_gR (k := 30) i164_22 tf12_30 h22 ?_
  refine rn_iload_n i164_25 rfl ?_
  refine rn_iconst i164_26 ?_
  obtain ⟨w27, h27, h⟩ := Option.bind_eq_some_iff.mp h
  refine rn_iast i164_27 h27 ?_
  refine fr_aload_n i164_28 rfl ?_
  obtain ⟨v29, h29, h⟩ := Option.bind_eq_some_iff.mp h
  refine fr_gR (k := 31) i164_29 tf12_31 h29 ?_
  refine rn_iload_n i164_32 rfl ?_
  refine rn_sipush i164_33 ?_
  obtain ⟨w36, h36, h⟩ := Option.bind_eq_some_iff.mp h
  refine rn_iast i164_36 h36 ?_
  refine fr_aload_n i164_37 rfl ?_
  obtain ⟨v38, h38, h⟩ := Option.bind_eq_some_iff.mp h
  refine fr_gR (k := 32) i164_38 tf12_32 h38 ?_
  refine rn_iload_n i164_41 rfl ?_
  refine rn_iconst i164_42 ?_
  obtain ⟨w43, h43, h⟩ := Option.bind_eq_some_iff.mp h
  refine rn_iast i164_43 h43 ?_
  refine rn_iconst i164_44 ?_
  refine rn_istore_n (ls1 := [(2, .inl 0), (0, .inr (.inr a0)), (1, .inl x1)]) i164_45 rfl ?_
  exact rn_sub [1, 2, 0] rfl (s_Mo_plain_46 hD FU a0 x1 0 w43 r h)
/-- HandHeirsModel.plain(I)V -/
def Mo_plain (a0 : Nat) (x1 : Int) (w : Wd) : Option (Wd) := gd 12 w a0 (Mo_plain_0 a0 x1 w)
theorem S_Mo_plain {g : Gp} {l : Launch} (a0 : Nat) (x1 : Int) (w : Wd) (r : Wd) (h : Mo_plain a0 x1 w = some r) : (wsh w a0).1 = 12 ∧ ∀ D, 0 ≤ D → Rn g l D 164 0 [(0, .inr (.inr a0)), (1, .inl x1)] [] w none r := by
  obtain ⟨hg, h⟩ := gd_some h
  exact ⟨hg, fun D hD => rn_sub [0, 1] rfl (s_Mo_plain_0 hD a0 x1 w r h)⟩
def Mo_begins_100 (a0 : Nat) (w : Wd) : Option (Wd) :=
  (fgR w a0 12 49).bind fun v101 =>
  (wrI w v101 43 (-1)).bind fun w107 =>
  some w107
theorem s_Mo_begins_100 {g : Gp} {l : Launch} {D : Nat} (hD : 0 ≤ D) (a0 : Nat) (w : Wd) (r : Wd) (h : Mo_begins_100 a0 w = some r) : Rn g l D 187 100 [(0, .inr (.inr a0))] [] w none r := by
  unfold Mo_begins_100 at h
  refine fr_aload_n i187_100 rfl ?_
  obtain ⟨v101, h101, h⟩ := Option.bind_eq_some_iff.mp h
  refine fr_gR (k := 49) i187_101 tf12_49 h101 ?_
  refine rn_bipush i187_104 ?_
  refine rn_iconst i187_106 ?_
  obtain ⟨w107, h107, h⟩ := Option.bind_eq_some_iff.mp h
  refine rn_iast i187_107 h107 ?_
  obtain rfl := Option.some.inj h
  exact rn_ret i187_108 mr187
def Mo_begins_65 : Nat → Nat → Int → Wd → Option (Wd)
  | 0, _, _, _ => none
  | n + 1, a0, x1, w =>
    if (36 : Int) ≤ x1 then
      Mo_begins_100 a0 w
    else
      (fgR w a0 12 49).bind fun v72 =>
      (fgR w a0 12 28).bind fun v80 =>
      (fgI w a0 12 18).bind fun v86 =>
      (rdI w v80 (w32 ((w32 (36 * v86)) + x1))).bind fun v92 =>
      (wrI w v72 (w32 (6 + x1)) v92).bind fun w93 =>
      Mo_begins_65 n a0 (w32 (x1 + 1)) w93
theorem s_Mo_begins_65 {g : Gp} {l : Launch} {D : Nat} (hD : 0 ≤ D) : ∀ (n : Nat) (a0 : Nat) (x1 : Int) (w : Wd) (r : Wd), Mo_begins_65 n a0 x1 w = some r → Rn g l D 187 65 [(0, .inr (.inr a0)), (1, .inl x1)] [] w none r := by
  intro n
  induction n with
  | zero => intro a0 x1 w r h; cases (show (none : Option (Wd)) = some r from h)
  | succ n ih =>
    intro a0 x1 w r h
    unfold Mo_begins_65 at h
    refine rn_iload_n i187_65 rfl ?_
    refine rn_bipush i187_66 ?_
    by_cases c68 : (36 : Int) ≤ x1
    · rw [if_pos c68] at h
      refine rn_icmp_ge_t i187_68 c68 ?_
      exact rn_sub [0] rfl (s_Mo_begins_100 hD a0 w r h)
    · rw [if_neg c68] at h
      refine rn_icmp_ge_f i187_68 c68 ?_
      refine fr_aload_n i187_71 rfl ?_
      obtain ⟨v72, h72, h⟩ := Option.bind_eq_some_iff.mp h
      refine fr_gR (k := 49) i187_72 tf12_49 h72 ?_
      refine rn_bipush i187_75 ?_
      refine rn_iload_n i187_77 rfl ?_
      refine rn_iadd i187_78 ?_
      refine fr_aload_n i187_79 rfl ?_
      obtain ⟨v80, h80, h⟩ := Option.bind_eq_some_iff.mp h
      refine fr_gR (k := 28) i187_80 tf12_28 h80 ?_
      refine rn_bipush i187_83 ?_
      refine fr_aload_n i187_85 rfl ?_
      obtain ⟨v86, h86, h⟩ := Option.bind_eq_some_iff.mp h
      refine fr_gI (k := 18) i187_86 tf12_18 h86 ?_
      refine rn_imul i187_89 ?_
      refine rn_iload_n i187_90 rfl ?_
      refine rn_iadd i187_91 ?_
      obtain ⟨v92, h92, h⟩ := Option.bind_eq_some_iff.mp h
      refine rn_iald i187_92 h92 ?_
      obtain ⟨w93, h93, h⟩ := Option.bind_eq_some_iff.mp h
      refine rn_iast i187_93 h93 ?_
      refine rn_iinc (ls1 := [(1, .inl (w32 (x1 + 1))), (0, .inr (.inr a0))]) i187_94 rfl rfl ?_
      refine rn_goto i187_97 ?_
      exact rn_sub [1, 0] rfl (ih a0 (w32 (x1 + 1)) w93 r h)
def Mo_begins_63 (a0 : Nat) (w : Wd) : Option (Wd) :=
  Mo_begins_65 FU a0 0 w
theorem s_Mo_begins_63 {g : Gp} {l : Launch} {D : Nat} (hD : 0 ≤ D) (a0 : Nat) (w : Wd) (r : Wd) (h : Mo_begins_63 a0 w = some r) : Rn g l D 187 63 [(0, .inr (.inr a0))] [] w none r := by
  unfold Mo_begins_63 at h
  refine rn_iconst i187_63 ?_
  refine rn_istore_n (ls1 := [(1, .inl 0), (0, .inr (.inr a0))]) i187_64 rfl ?_
  exact rn_sub [1, 0] rfl (s_Mo_begins_65 hD FU a0 0 w r h)
def Mo_begins_24 : Nat → Nat → Int → Wd → Option (Wd)
  | 0, _, _, _ => none
  | n + 1, a0, x1, w =>
    (fgR w a0 12 23).bind fun v26 =>
    (fgI w a0 12 18).bind fun v30 =>
    (rdI w v26 v30).bind fun v33 =>
    if (v33 : Int) ≤ x1 then
      Mo_begins_63 a0 w
    else
      (fgR w a0 12 49).bind fun v38 =>
      (fgR w a0 12 24).bind fun v43 =>
      (fgI w a0 12 18).bind fun v49 =>
      (rdI w v43 (w32 ((w32 (6 * v49)) + x1))).bind fun v55 =>
      (wrI w v38 x1 v55).bind fun w56 =>
      Mo_begins_24 n a0 (w32 (x1 + 1)) w56
theorem s_Mo_begins_24 {g : Gp} {l : Launch} {D : Nat} (hD : 0 ≤ D) : ∀ (n : Nat) (a0 : Nat) (x1 : Int) (w : Wd) (r : Wd), Mo_begins_24 n a0 x1 w = some r → Rn g l D 187 24 [(0, .inr (.inr a0)), (1, .inl x1)] [] w none r := by
  intro n
  induction n with
  | zero => intro a0 x1 w r h; cases (show (none : Option (Wd)) = some r from h)
  | succ n ih =>
    intro a0 x1 w r h
    unfold Mo_begins_24 at h
    refine rn_iload_n i187_24 rfl ?_
    refine fr_aload_n i187_25 rfl ?_
    obtain ⟨v26, h26, h⟩ := Option.bind_eq_some_iff.mp h
    refine fr_gR (k := 23) i187_26 tf12_23 h26 ?_
    refine fr_aload_n i187_29 rfl ?_
    obtain ⟨v30, h30, h⟩ := Option.bind_eq_some_iff.mp h
    refine fr_gI (k := 18) i187_30 tf12_18 h30 ?_
    obtain ⟨v33, h33, h⟩ := Option.bind_eq_some_iff.mp h
    refine rn_iald i187_33 h33 ?_
    by_cases c34 : (v33 : Int) ≤ x1
    · rw [if_pos c34] at h
      refine rn_icmp_ge_t i187_34 c34 ?_
      exact rn_sub [0] rfl (s_Mo_begins_63 hD a0 w r h)
    · rw [if_neg c34] at h
      refine rn_icmp_ge_f i187_34 c34 ?_
      refine fr_aload_n i187_37 rfl ?_
      obtain ⟨v38, h38, h⟩ := Option.bind_eq_some_iff.mp h
      refine fr_gR (k := 49) i187_38 tf12_49 h38 ?_
      refine rn_iload_n i187_41 rfl ?_
      refine fr_aload_n i187_42 rfl ?_
      obtain ⟨v43, h43, h⟩ := Option.bind_eq_some_iff.mp h
      refine fr_gR (k := 24) i187_43 tf12_24 h43 ?_
      refine rn_bipush i187_46 ?_
      refine fr_aload_n i187_48 rfl ?_
      obtain ⟨v49, h49, h⟩ := Option.bind_eq_some_iff.mp h
      refine fr_gI (k := 18) i187_49 tf12_18 h49 ?_
      refine rn_imul i187_52 ?_
      refine rn_iload_n i187_53 rfl ?_
      refine rn_iadd i187_54 ?_
      obtain ⟨v55, h55, h⟩ := Option.bind_eq_some_iff.mp h
      refine rn_iald i187_55 h55 ?_
      obtain ⟨w56, h56, h⟩ := Option.bind_eq_some_iff.mp h
      refine rn_iast i187_56 h56 ?_
      refine rn_iinc (ls1 := [(1, .inl (w32 (x1 + 1))), (0, .inr (.inr a0))]) i187_57 rfl rfl ?_
      refine rn_goto i187_60 ?_
      exact rn_sub [1, 0] rfl (ih a0 (w32 (x1 + 1)) w56 r h)
def Mo_begins_22 (a0 : Nat) (w : Wd) : Option (Wd) :=
  Mo_begins_24 FU a0 0 w
theorem s_Mo_begins_22 {g : Gp} {l : Launch} {D : Nat} (hD : 0 ≤ D) (a0 : Nat) (w : Wd) (r : Wd) (h : Mo_begins_22 a0 w = some r) : Rn g l D 187 22 [(0, .inr (.inr a0))] [] w none r := by
  unfold Mo_begins_22 at h
  refine rn_iconst i187_22 ?_
  refine rn_istore_n (ls1 := [(1, .inl 0), (0, .inr (.inr a0))]) i187_23 rfl ?_
  exact rn_sub [1, 0] rfl (s_Mo_begins_24 hD FU a0 0 w r h)
def Mo_begins_2 : Nat → Nat → Int → Wd → Option (Wd)
  | 0, _, _, _ => none
  | n + 1, a0, x1, w =>
    if (2860 : Int) ≤ x1 then
      Mo_begins_22 a0 w
    else
      (fgR w a0 12 49).bind fun v10 =>
      (wrI w v10 x1 0).bind fun w15 =>
      Mo_begins_2 n a0 (w32 (x1 + 1)) w15
theorem s_Mo_begins_2 {g : Gp} {l : Launch} {D : Nat} (hD : 0 ≤ D) : ∀ (n : Nat) (a0 : Nat) (x1 : Int) (w : Wd) (r : Wd), Mo_begins_2 n a0 x1 w = some r → Rn g l D 187 2 [(0, .inr (.inr a0)), (1, .inl x1)] [] w none r := by
  intro n
  induction n with
  | zero => intro a0 x1 w r h; cases (show (none : Option (Wd)) = some r from h)
  | succ n ih =>
    intro a0 x1 w r h
    unfold Mo_begins_2 at h
    refine rn_iload_n i187_2 rfl ?_
    refine rn_sipush i187_3 ?_
    by_cases c6 : (2860 : Int) ≤ x1
    · rw [if_pos c6] at h
      refine rn_icmp_ge_t i187_6 c6 ?_
      exact rn_sub [0] rfl (s_Mo_begins_22 hD a0 w r h)
    · rw [if_neg c6] at h
      refine rn_icmp_ge_f i187_6 c6 ?_
      refine fr_aload_n i187_9 rfl ?_
      obtain ⟨v10, h10, h⟩ := Option.bind_eq_some_iff.mp h
      refine fr_gR (k := 49) i187_10 tf12_49 h10 ?_
      refine rn_iload_n i187_13 rfl ?_
      refine rn_iconst i187_14 ?_
      obtain ⟨w15, h15, h⟩ := Option.bind_eq_some_iff.mp h
      refine rn_iast i187_15 h15 ?_
      refine rn_iinc (ls1 := [(1, .inl (w32 (x1 + 1))), (0, .inr (.inr a0))]) i187_16 rfl rfl ?_
      refine rn_goto i187_19 ?_
      exact rn_sub [1, 0] rfl (ih a0 (w32 (x1 + 1)) w15 r h)
def Mo_begins_0 (a0 : Nat) (w : Wd) : Option (Wd) :=
  Mo_begins_2 FU a0 0 w
theorem s_Mo_begins_0 {g : Gp} {l : Launch} {D : Nat} (hD : 0 ≤ D) (a0 : Nat) (w : Wd) (r : Wd) (h : Mo_begins_0 a0 w = some r) : Rn g l D 187 0 [(0, .inr (.inr a0))] [] w none r := by
  unfold Mo_begins_0 at h
  refine rn_iconst i187_0 ?_
  refine rn_istore_n (ls1 := [(1, .inl 0), (0, .inr (.inr a0))]) i187_1 rfl ?_
  exact rn_sub [1, 0] rfl (s_Mo_begins_2 hD FU a0 0 w r h)
/-- HandHeirsModel.begins()V -/
def Mo_begins (a0 : Nat) (w : Wd) : Option (Wd) := gd 12 w a0 (Mo_begins_0 a0 w)
theorem S_Mo_begins {g : Gp} {l : Launch} (a0 : Nat) (w : Wd) (r : Wd) (h : Mo_begins a0 w = some r) : (wsh w a0).1 = 12 ∧ ∀ D, 0 ≤ D → Rn g l D 187 0 [(0, .inr (.inr a0))] [] w none r := by
  obtain ⟨hg, h⟩ := gd_some h
  exact ⟨hg, fun D hD => rn_sub [0] rfl (s_Mo_begins_0 hD a0 w r h)⟩
def Mo_init_0 (a0 : Nat) (w : Wd) : Option (Wd) :=
  (tgd w a0 12).bind fun _ =>
  (nwA w 21 2000).bind fun w8 =>
  (fpR w8 a0 12 1 (wn w)).bind fun w10 =>
  (nwA w10 21 2000).bind fun w17 =>
  (fpR w17 a0 12 3 (wn w10)).bind fun w19 =>
  (nwA w19 20 403).bind fun w26 =>
  (fpR w26 a0 12 5 (wn w19)).bind fun w28 =>
  (nwA w28 20 403).bind fun w35 =>
  (fpR w35 a0 12 6 (wn w28)).bind fun w37 =>
  (nwA w37 20 403).bind fun w44 =>
  (fpR w44 a0 12 7 (wn w37)).bind fun w46 =>
  (nwA w46 22 403).bind fun w53 =>
  (fpR w53 a0 12 8 (wn w46)).bind fun w55 =>
  (nwA w55 22 17).bind fun w61 =>
  (fpR w61 a0 12 9 (wn w55)).bind fun w63 =>
  (fpI w63 a0 12 17 (-1)).bind fun w68 =>
  (nwA w68 22 15).bind fun w74 =>
  (fpR w74 a0 12 21 (wn w68)).bind fun w76 =>
  (nwA w76 20 15).bind fun w82 =>
  (fpR w82 a0 12 22 (wn w76)).bind fun w84 =>
  (nwA w84 20 2).bind fun w89 =>
  (fpR w89 a0 12 23 (wn w84)).bind fun w91 =>
  (nwA w91 20 12).bind fun w97 =>
  (fpR w97 a0 12 24 (wn w91)).bind fun w99 =>
  (nwA w99 20 2).bind fun w104 =>
  (fpR w104 a0 12 25 (wn w99)).bind fun w106 =>
  (nwA w106 20 12).bind fun w112 =>
  (fpR w112 a0 12 26 (wn w106)).bind fun w114 =>
  (nwA w114 20 12).bind fun w120 =>
  (fpR w120 a0 12 27 (wn w114)).bind fun w122 =>
  (nwA w122 20 72).bind fun w128 =>
  (fpR w128 a0 12 28 (wn w122)).bind fun w130 =>
  (nwA w130 20 2).bind fun w135 =>
  (fpR w135 a0 12 29 (wn w130)).bind fun w137 =>
  (nwA w137 20 2).bind fun w142 =>
  (fpR w142 a0 12 30 (wn w137)).bind fun w144 =>
  (nwA w144 20 2).bind fun w149 =>
  (fpR w149 a0 12 31 (wn w144)).bind fun w151 =>
  (nwA w151 20 2).bind fun w156 =>
  (fpR w156 a0 12 32 (wn w151)).bind fun w158 =>
  (nwA w158 20 20).bind fun w164 =>
  (fpR w164 a0 12 33 (wn w158)).bind fun w166 =>
  (nwA w166 20 20).bind fun w172 =>
  (fpR w172 a0 12 34 (wn w166)).bind fun w174 =>
  (nwA w174 23 260).bind fun w181 =>
  (fpR w181 a0 12 36 (wn w174)).bind fun w183 =>
  (nwA w183 20 260).bind fun w190 =>
  (fpR w190 a0 12 37 (wn w183)).bind fun w192 =>
  (nwA w192 20 260).bind fun w199 =>
  (fpR w199 a0 12 38 (wn w192)).bind fun w201 =>
  (nwA w201 20 260).bind fun w208 =>
  (fpR w208 a0 12 39 (wn w201)).bind fun w210 =>
  (nwA w210 20 260).bind fun w217 =>
  (fpR w217 a0 12 40 (wn w210)).bind fun w219 =>
  (nwA w219 20 840).bind fun w226 =>
  (fpR w226 a0 12 42 (wn w219)).bind fun w228 =>
  (nwA w228 20 840).bind fun w235 =>
  (fpR w235 a0 12 43 (wn w228)).bind fun w237 =>
  (nwA w237 20 64).bind fun w243 =>
  (fpR w243 a0 12 44 (wn w237)).bind fun w245 =>
  (nwA w245 20 7).bind fun w251 =>
  (fpR w251 a0 12 46 (wn w245)).bind fun w253 =>
  (nwA w253 20 400).bind fun w260 =>
  (fpR w260 a0 12 47 (wn w253)).bind fun w262 =>
  (nwA w262 20 2860).bind fun w269 =>
  (fpR w269 a0 12 49 (wn w262)).bind fun w271 =>
  (nwA w271 20 2860).bind fun w278 =>
  (fpR w278 a0 12 50 (wn w271)).bind fun w280 =>
  (nwA w280 20 6).bind fun w286 =>
  (fpR w286 a0 12 56 (wn w280)).bind fun w288 =>
  (nwA w288 20 3).bind fun w293 =>
  (fpR w293 a0 12 57 (wn w288)).bind fun w295 =>
  (nwA w295 20 85800).bind fun w301 =>
  (fpR w301 a0 12 59 (wn w295)).bind fun w303 =>
  (nwA w303 20 91).bind fun w309 =>
  (fpR w309 a0 12 60 (wn w303)).bind fun w311 =>
  (nwA w311 20 6).bind fun w317 =>
  (fpR w317 a0 12 61 (wn w311)).bind fun w319 =>
  (nwA w319 20 78).bind fun w325 =>
  (fpR w325 a0 12 62 (wn w319)).bind fun w327 =>
  (nwA w327 20 20).bind fun w333 =>
  (fpR w333 a0 12 64 (wn w327)).bind fun w335 =>
  (nwA w335 20 20).bind fun w341 =>
  (fpR w341 a0 12 65 (wn w335)).bind fun w343 =>
  (nwA w343 23 3).bind fun w348 =>
  (fpR w348 a0 12 66 (wn w343)).bind fun w350 =>
  (nwA w350 20 8580).bind fun w357 =>
  (fpR w357 a0 12 67 (wn w350)).bind fun w359 =>
  (Mo_plain a0 0 w359).bind fun r364 =>
  (fgR r364 a0 12 9).bind fun v368 =>
  (Mo_word 108 101 116 116 101 114 0 r364).bind fun r385 =>
  (wrL r385.2 v368 0 r385.1).bind fun w388 =>
  (fgR w388 a0 12 9).bind fun v390 =>
  (Mo_word 104 101 105 114 0 0 0 w388).bind fun r405 =>
  (wrL r405.2 v390 1 r405.1).bind fun w408 =>
  (fgR w408 a0 12 9).bind fun v410 =>
  (Mo_word 109 97 115 116 101 114 0 w408).bind fun r427 =>
  (wrL r427.2 v410 2 r427.1).bind fun w430 =>
  (fgR w430 a0 12 9).bind fun v432 =>
  (Mo_word 108 101 97 114 110 0 0 w430).bind fun r448 =>
  (wrL r448.2 v432 3 r448.1).bind fun w451 =>
  (fgR w451 a0 12 9).bind fun v453 =>
  (Mo_word 100 114 105 102 116 0 0 w451).bind fun r469 =>
  (wrL r469.2 v453 4 r469.1).bind fun w472 =>
  (fgR w472 a0 12 9).bind fun v474 =>
  (Mo_word 100 97 121 115 0 0 0 w472).bind fun r489 =>
  (wrL r489.2 v474 5 r489.1).bind fun w492 =>
  (fgR w492 a0 12 9).bind fun v494 =>
  (Mo_word 108 105 109 105 116 0 0 w492).bind fun r511 =>
  (wrL r511.2 v494 6 r511.1).bind fun w514 =>
  (fgR w514 a0 12 9).bind fun v516 =>
  (Mo_word 115 101 101 100 0 0 0 w514).bind fun r532 =>
  (wrL r532.2 v516 7 r532.1).bind fun w535 =>
  (fgR w535 a0 12 9).bind fun v537 =>
  (Mo_word 105 102 0 0 0 0 0 w535).bind fun r551 =>
  (wrL r551.2 v537 8 r551.1).bind fun w554 =>
  (fgR w554 a0 12 9).bind fun v556 =>
  (Mo_word 116 104 101 110 0 0 0 w554).bind fun r572 =>
  (wrL r572.2 v556 9 r572.1).bind fun w575 =>
  (fgR w575 a0 12 9).bind fun v577 =>
  (Mo_word 101 108 115 101 0 0 0 w575).bind fun r593 =>
  (wrL r593.2 v577 10 r593.1).bind fun w596 =>
  (fgR w596 a0 12 9).bind fun v598 =>
  (Mo_word 111 102 102 0 0 0 0 w596).bind fun r613 =>
  (wrL r613.2 v598 11 r613.1).bind fun w616 =>
  (fgR w616 a0 12 9).bind fun v618 =>
  (Mo_word 121 101 97 114 0 0 0 w616).bind fun r634 =>
  (wrL r634.2 v618 12 r634.1).bind fun w637 =>
  (fgR w637 a0 12 9).bind fun v639 =>
  (Mo_word 119 111 114 110 0 0 0 w637).bind fun r655 =>
  (wrL r655.2 v639 13 r655.1).bind fun w658 =>
  (fgR w658 a0 12 9).bind fun v660 =>
  (Mo_word 111 119 110 0 0 0 0 w658).bind fun r675 =>
  (wrL r675.2 v660 14 r675.1).bind fun w678 =>
  (fgR w678 a0 12 9).bind fun v680 =>
  (Mo_word 104 97 110 100 0 0 0 w678).bind fun r696 =>
  (wrL r696.2 v680 15 r696.1).bind fun w699 =>
  (fgR w699 a0 12 9).bind fun v701 =>
  (Mo_word 100 97 121 0 0 0 0 w699).bind fun r716 =>
  (wrL r716.2 v701 16 r716.1).bind fun w719 =>
  (Mo_begins a0 w719).bind fun r721 =>
  some r721
theorem s_Mo_init_0 {g : Gp} {l : Launch} {D : Nat} (hD : 2 ≤ D) (a0 : Nat) (w : Wd) (r : Wd) (h : Mo_init_0 a0 w = some r) : Rn g l D 147 0 [(0, .inr (.inr a0))] [] w none r := by
  obtain ⟨D, rfl⟩ : ∃ D1, D = D1 + 1 := ⟨D - 1, by omega⟩
  unfold Mo_init_0 at h
  refine fr_aload_n i147_0 rfl ?_
  obtain ⟨_, h1, h⟩ := Option.bind_eq_some_iff.mp h
  refine fr_objI i147_1 h1 (by decide) (Nat.le_of_ble_eq_true rfl) ?_
  refine fr_aload_n i147_4 rfl ?_
  refine rn_sipush i147_5 ?_
  obtain ⟨w8, h8, h⟩ := Option.bind_eq_some_iff.mp h
  refine rn_newa (t := 21) i147_8 (by decide) rfl h8 ?_
  obtain ⟨w10, h10, h⟩ := Option.bind_eq_some_iff.mp h
  refine fr_pR (k := 1) i147_10 pf147_12_1 h10 ?_
  refine fr_aload_n i147_13 rfl ?_
  refine rn_sipush i147_14 ?_
  obtain ⟨w17, h17, h⟩ := Option.bind_eq_some_iff.mp h
  refine rn_newa (t := 21) i147_17 (by decide) rfl h17 ?_
  obtain ⟨w19, h19, h⟩ := Option.bind_eq_some_iff.mp h
  refine fr_pR (k := 3) i147_19 pf147_12_3 h19 ?_
  refine fr_aload_n i147_22 rfl ?_
  refine rn_sipush i147_23 ?_
  obtain ⟨w26, h26, h⟩ := Option.bind_eq_some_iff.mp h
  refine rn_newa (t := 20) i147_26 (by decide) rfl h26 ?_
  obtain ⟨w28, h28, h⟩ := Option.bind_eq_some_iff.mp h
  refine fr_pR (k := 5) i147_28 pf147_12_5 h28 ?_
  refine fr_aload_n i147_31 rfl ?_
  refine rn_sipush i147_32 ?_
  obtain ⟨w35, h35, h⟩ := Option.bind_eq_some_iff.mp h
  refine rn_newa (t := 20) i147_35 (by decide) rfl h35 ?_
  obtain ⟨w37, h37, h⟩ := Option.bind_eq_some_iff.mp h
  refine fr_pR (k := 6) i147_37 pf147_12_6 h37 ?_
  refine fr_aload_n i147_40 rfl ?_
  refine rn_sipush i147_41 ?_
  obtain ⟨w44, h44, h⟩ := Option.bind_eq_some_iff.mp h
  refine rn_newa (t := 20) i147_44 (by decide) rfl h44 ?_
  obtain ⟨w46, h46, h⟩ := Option.bind_eq_some_iff.mp h
  refine fr_pR (k := 7) i147_46 pf147_12_7 h46 ?_
  refine fr_aload_n i147_49 rfl ?_
  refine rn_sipush i147_50 ?_
  obtain ⟨w53, h53, h⟩ := Option.bind_eq_some_iff.mp h
  refine rn_newa (t := 22) i147_53 (by decide) rfl h53 ?_
  obtain ⟨w55, h55, h⟩ := Option.bind_eq_some_iff.mp h
  refine fr_pR (k := 8) i147_55 pf147_12_8 h55 ?_
  refine fr_aload_n i147_58 rfl ?_
  refine rn_bipush i147_59 ?_
  obtain ⟨w61, h61, h⟩ := Option.bind_eq_some_iff.mp h
  refine rn_newa (t := 22) i147_61 (by decide) rfl h61 ?_
  obtain ⟨w63, h63, h⟩ := Option.bind_eq_some_iff.mp h
  refine fr_pR (k := 9) i147_63 pf147_12_9 h63 ?_
  refine fr_aload_n i147_66 rfl ?_
  refine rn_iconst i147_67 ?_
  obtain ⟨w68, h68, h⟩ := Option.bind_eq_some_iff.mp h
  refine fr_pI (k := 17) i147_68 (pf12_17 147) h68 ?_
  refine fr_aload_n i147_71 rfl ?_
  refine rn_bipush i147_72 ?_
  obtain ⟨w74, h74, h⟩ := Option.bind_eq_some_iff.mp h
  refine rn_newa (t := 22) i147_74 (by decide) rfl h74 ?_
  obtain ⟨w76, h76, h⟩ := Option.bind_eq_some_iff.mp h
  refine fr_pR (k := 21) i147_76 pf147_12_21 h76 ?_
  refine fr_aload_n i147_79 rfl ?_
  refine rn_bipush i147_80 ?_
  obtain ⟨w82, h82, h⟩ := Option.bind_eq_some_iff.mp h
  refine rn_newa (t := 20) i147_82 (by decide) rfl h82 ?_
  obtain ⟨w84, h84, h⟩ := Option.bind_eq_some_iff.mp h
  refine fr_pR (k := 22) i147_84 pf147_12_22 h84 ?_
  refine fr_aload_n i147_87 rfl ?_
  refine rn_iconst i147_88 ?_
  obtain ⟨w89, h89, h⟩ := Option.bind_eq_some_iff.mp h
  refine rn_newa (t := 20) i147_89 (by decide) rfl h89 ?_
  obtain ⟨w91, h91, h⟩ := Option.bind_eq_some_iff.mp h
  refine fr_pR (k := 23) i147_91 pf147_12_23 h91 ?_
  refine fr_aload_n i147_94 rfl ?_
  refine rn_bipush i147_95 ?_
  obtain ⟨w97, h97, h⟩ := Option.bind_eq_some_iff.mp h
  refine rn_newa (t := 20) i147_97 (by decide) rfl h97 ?_
  obtain ⟨w99, h99, h⟩ := Option.bind_eq_some_iff.mp h
  refine fr_pR (k := 24) i147_99 pf147_12_24 h99 ?_
  refine fr_aload_n i147_102 rfl ?_
  refine rn_iconst i147_103 ?_
  obtain ⟨w104, h104, h⟩ := Option.bind_eq_some_iff.mp h
  refine rn_newa (t := 20) i147_104 (by decide) rfl h104 ?_
  obtain ⟨w106, h106, h⟩ := Option.bind_eq_some_iff.mp h
  refine fr_pR (k := 25) i147_106 pf147_12_25 h106 ?_
  refine fr_aload_n i147_109 rfl ?_
  refine rn_bipush i147_110 ?_
  obtain ⟨w112, h112, h⟩ := Option.bind_eq_some_iff.mp h
  refine rn_newa (t := 20) i147_112 (by decide) rfl h112 ?_
  obtain ⟨w114, h114, h⟩ := Option.bind_eq_some_iff.mp h
  refine fr_pR (k := 26) i147_114 pf147_12_26 h114 ?_
  refine fr_aload_n i147_117 rfl ?_
  refine rn_bipush i147_118 ?_
  obtain ⟨w120, h120, h⟩ := Option.bind_eq_some_iff.mp h
  refine rn_newa (t := 20) i147_120 (by decide) rfl h120 ?_
  obtain ⟨w122, h122, h⟩ := Option.bind_eq_some_iff.mp h
  refine fr_pR (k := 27) i147_122 pf147_12_27 h122 ?_
  refine fr_aload_n i147_125 rfl ?_
  refine rn_bipush i147_126 ?_
  obtain ⟨w128, h128, h⟩ := Option.bind_eq_some_iff.mp h
  refine rn_newa (t := 20) i147_128 (by decide) rfl h128 ?_
  obtain ⟨w130, h130, h⟩ := Option.bind_eq_some_iff.mp h
  refine fr_pR (k := 28) i147_130 pf147_12_28 h130 ?_
  refine fr_aload_n i147_133 rfl ?_
  refine rn_iconst i147_134 ?_
  obtain ⟨w135, h135, h⟩ := Option.bind_eq_some_iff.mp h
  refine rn_newa (t := 20) i147_135 (by decide) rfl h135 ?_
  obtain ⟨w137, h137, h⟩ := Option.bind_eq_some_iff.mp h
  refine fr_pR (k := 29) i147_137 pf147_12_29 h137 ?_
  refine fr_aload_n i147_140 rfl ?_
  refine rn_iconst i147_141 ?_
  obtain ⟨w142, h142, h⟩ := Option.bind_eq_some_iff.mp h
  refine rn_newa (t := 20) i147_142 (by decide) rfl h142 ?_
  obtain ⟨w144, h144, h⟩ := Option.bind_eq_some_iff.mp h
  refine fr_pR (k := 30) i147_144 pf147_12_30 h144 ?_
  refine fr_aload_n i147_147 rfl ?_
  refine rn_iconst i147_148 ?_
  obtain ⟨w149, h149, h⟩ := Option.bind_eq_some_iff.mp h
  refine rn_newa (t := 20) i147_149 (by decide) rfl h149 ?_
  obtain ⟨w151, h151, h⟩ := Option.bind_eq_some_iff.mp h
  refine fr_pR (k := 31) i147_151 pf147_12_31 h151 ?_
  refine fr_aload_n i147_154 rfl ?_
  refine rn_iconst i147_155 ?_
  obtain ⟨w156, h156, h⟩ := Option.bind_eq_some_iff.mp h
  refine rn_newa (t := 20) i147_156 (by decide) rfl h156 ?_
  obtain ⟨w158, h158, h⟩ := Option.bind_eq_some_iff.mp h
  refine fr_pR (k := 32) i147_158 pf147_12_32 h158 ?_
  refine fr_aload_n i147_161 rfl ?_
  refine rn_bipush i147_162 ?_
  obtain ⟨w164, h164, h⟩ := Option.bind_eq_some_iff.mp h
  refine rn_newa (t := 20) i147_164 (by decide) rfl h164 ?_
  obtain ⟨w166, h166, h⟩ := Option.bind_eq_some_iff.mp h
  refine fr_pR (k := 33) i147_166 pf147_12_33 h166 ?_
  refine fr_aload_n i147_169 rfl ?_
  refine rn_bipush i147_170 ?_
  obtain ⟨w172, h172, h⟩ := Option.bind_eq_some_iff.mp h
  refine rn_newa (t := 20) i147_172 (by decide) rfl h172 ?_
  obtain ⟨w174, h174, h⟩ := Option.bind_eq_some_iff.mp h
  refine fr_pR (k := 34) i147_174 pf147_12_34 h174 ?_
  refine fr_aload_n i147_177 rfl ?_
  refine rn_sipush i147_178 ?_
  obtain ⟨w181, h181, h⟩ := Option.bind_eq_some_iff.mp h
  refine rn_newa (t := 23) i147_181 (by decide) rfl h181 ?_
  obtain ⟨w183, h183, h⟩ := Option.bind_eq_some_iff.mp h
  refine fr_pR (k := 36) i147_183 pf147_12_36 h183 ?_
  refine fr_aload_n i147_186 rfl ?_
  refine rn_sipush i147_187 ?_
  obtain ⟨w190, h190, h⟩ := Option.bind_eq_some_iff.mp h
  refine rn_newa (t := 20) i147_190 (by decide) rfl h190 ?_
  obtain ⟨w192, h192, h⟩ := Option.bind_eq_some_iff.mp h
  refine fr_pR (k := 37) i147_192 pf147_12_37 h192 ?_
  refine fr_aload_n i147_195 rfl ?_
  refine rn_sipush i147_196 ?_
  obtain ⟨w199, h199, h⟩ := Option.bind_eq_some_iff.mp h
  refine rn_newa (t := 20) i147_199 (by decide) rfl h199 ?_
  obtain ⟨w201, h201, h⟩ := Option.bind_eq_some_iff.mp h
  refine fr_pR (k := 38) i147_201 pf147_12_38 h201 ?_
  refine fr_aload_n i147_204 rfl ?_
  refine rn_sipush i147_205 ?_
  obtain ⟨w208, h208, h⟩ := Option.bind_eq_some_iff.mp h
  refine rn_newa (t := 20) i147_208 (by decide) rfl h208 ?_
  obtain ⟨w210, h210, h⟩ := Option.bind_eq_some_iff.mp h
  refine fr_pR (k := 39) i147_210 pf147_12_39 h210 ?_
  refine fr_aload_n i147_213 rfl ?_
  refine rn_sipush i147_214 ?_
  obtain ⟨w217, h217, h⟩ := Option.bind_eq_some_iff.mp h
  refine rn_newa (t := 20) i147_217 (by decide) rfl h217 ?_
  obtain ⟨w219, h219, h⟩ := Option.bind_eq_some_iff.mp h
  refine fr_pR (k := 40) i147_219 pf147_12_40 h219 ?_
  refine fr_aload_n i147_222 rfl ?_
  refine rn_sipush i147_223 ?_
  obtain ⟨w226, h226, h⟩ := Option.bind_eq_some_iff.mp h
  refine rn_newa (t := 20) i147_226 (by decide) rfl h226 ?_
  obtain ⟨w228, h228, h⟩ := Option.bind_eq_some_iff.mp h
  refine fr_pR (k := 42) i147_228 pf147_12_42 h228 ?_
  refine fr_aload_n i147_231 rfl ?_
  refine rn_sipush i147_232 ?_
  obtain ⟨w235, h235, h⟩ := Option.bind_eq_some_iff.mp h
  refine rn_newa (t := 20) i147_235 (by decide) rfl h235 ?_
  obtain ⟨w237, h237, h⟩ := Option.bind_eq_some_iff.mp h
  refine fr_pR (k := 43) i147_237 pf147_12_43 h237 ?_
  refine fr_aload_n i147_240 rfl ?_
  refine rn_bipush i147_241 ?_
  obtain ⟨w243, h243, h⟩ := Option.bind_eq_some_iff.mp h
  refine rn_newa (t := 20) i147_243 (by decide) rfl h243 ?_
  obtain ⟨w245, h245, h⟩ := Option.bind_eq_some_iff.mp h
  refine fr_pR (k := 44) i147_245 pf147_12_44 h245 ?_
  refine fr_aload_n i147_248 rfl ?_
  refine rn_bipush i147_249 ?_
  obtain ⟨w251, h251, h⟩ := Option.bind_eq_some_iff.mp h
  refine rn_newa (t := 20) i147_251 (by decide) rfl h251 ?_
  obtain ⟨w253, h253, h⟩ := Option.bind_eq_some_iff.mp h
  refine fr_pR (k := 46) i147_253 pf147_12_46 h253 ?_
  refine fr_aload_n i147_256 rfl ?_
  refine rn_sipush i147_257 ?_
  obtain ⟨w260, h260, h⟩ := Option.bind_eq_some_iff.mp h
  refine rn_newa (t := 20) i147_260 (by decide) rfl h260 ?_
  obtain ⟨w262, h262, h⟩ := Option.bind_eq_some_iff.mp h
  refine fr_pR (k := 47) i147_262 pf147_12_47 h262 ?_
  refine fr_aload_n i147_265 rfl ?_
  refine rn_sipush i147_266 ?_
  obtain ⟨w269, h269, h⟩ := Option.bind_eq_some_iff.mp h
  refine rn_newa (t := 20) i147_269 (by decide) rfl h269 ?_
  obtain ⟨w271, h271, h⟩ := Option.bind_eq_some_iff.mp h
  refine fr_pR (k := 49) i147_271 pf147_12_49 h271 ?_
  refine fr_aload_n i147_274 rfl ?_
  refine rn_sipush i147_275 ?_
  obtain ⟨w278, h278, h⟩ := Option.bind_eq_some_iff.mp h
  refine rn_newa (t := 20) i147_278 (by decide) rfl h278 ?_
  obtain ⟨w280, h280, h⟩ := Option.bind_eq_some_iff.mp h
  refine fr_pR (k := 50) i147_280 pf147_12_50 h280 ?_
  refine fr_aload_n i147_283 rfl ?_
  refine rn_bipush i147_284 ?_
  obtain ⟨w286, h286, h⟩ := Option.bind_eq_some_iff.mp h
  refine rn_newa (t := 20) i147_286 (by decide) rfl h286 ?_
  obtain ⟨w288, h288, h⟩ := Option.bind_eq_some_iff.mp h
  refine fr_pR (k := 56) i147_288 pf147_12_56 h288 ?_
  refine fr_aload_n i147_291 rfl ?_
  refine rn_iconst i147_292 ?_
  obtain ⟨w293, h293, h⟩ := Option.bind_eq_some_iff.mp h
  refine rn_newa (t := 20) i147_293 (by decide) rfl h293 ?_
  obtain ⟨w295, h295, h⟩ := Option.bind_eq_some_iff.mp h
  refine fr_pR (k := 57) i147_295 pf147_12_57 h295 ?_
  refine fr_aload_n i147_298 rfl ?_
  refine rn_ldc i147_299 lw147_299 ⟨by decide, by decide⟩ ?_
  obtain ⟨w301, h301, h⟩ := Option.bind_eq_some_iff.mp h
  refine rn_newa (t := 20) i147_301 (by decide) rfl h301 ?_
  obtain ⟨w303, h303, h⟩ := Option.bind_eq_some_iff.mp h
  refine fr_pR (k := 59) i147_303 pf147_12_59 h303 ?_
  refine fr_aload_n i147_306 rfl ?_
  refine rn_bipush i147_307 ?_
  obtain ⟨w309, h309, h⟩ := Option.bind_eq_some_iff.mp h
  refine rn_newa (t := 20) i147_309 (by decide) rfl h309 ?_
  obtain ⟨w311, h311, h⟩ := Option.bind_eq_some_iff.mp h
  refine fr_pR (k := 60) i147_311 pf147_12_60 h311 ?_
  refine fr_aload_n i147_314 rfl ?_
  refine rn_bipush i147_315 ?_
  obtain ⟨w317, h317, h⟩ := Option.bind_eq_some_iff.mp h
  refine rn_newa (t := 20) i147_317 (by decide) rfl h317 ?_
  obtain ⟨w319, h319, h⟩ := Option.bind_eq_some_iff.mp h
  refine fr_pR (k := 61) i147_319 pf147_12_61 h319 ?_
  refine fr_aload_n i147_322 rfl ?_
  refine rn_bipush i147_323 ?_
  obtain ⟨w325, h325, h⟩ := Option.bind_eq_some_iff.mp h
  refine rn_newa (t := 20) i147_325 (by decide) rfl h325 ?_
  obtain ⟨w327, h327, h⟩ := Option.bind_eq_some_iff.mp h
  refine fr_pR (k := 62) i147_327 pf147_12_62 h327 ?_
  refine fr_aload_n i147_330 rfl ?_
  refine rn_bipush i147_331 ?_
  obtain ⟨w333, h333, h⟩ := Option.bind_eq_some_iff.mp h
  refine rn_newa (t := 20) i147_333 (by decide) rfl h333 ?_
  obtain ⟨w335, h335, h⟩ := Option.bind_eq_some_iff.mp h
  refine fr_pR (k := 64) i147_335 pf147_12_64 h335 ?_
  refine fr_aload_n i147_338 rfl ?_
  refine rn_bipush i147_339 ?_
  obtain ⟨w341, h341, h⟩ := Option.bind_eq_some_iff.mp h
  refine rn_newa (t := 20) i147_341 (by decide) rfl h341 ?_
  obtain ⟨w343, h343, h⟩ := Option.bind_eq_some_iff.mp h
  refine fr_pR (k := 65) i147_343 pf147_12_65 h343 ?_
  refine fr_aload_n i147_346 rfl ?_
  refine rn_iconst i147_347 ?_
  obtain ⟨w348, h348, h⟩ := Option.bind_eq_some_iff.mp h
  refine rn_newa (t := 23) i147_348 (by decide) rfl h348 ?_
  obtain ⟨w350, h350, h⟩ := Option.bind_eq_some_iff.mp h
  refine fr_pR (k := 66) i147_350 pf147_12_66 h350 ?_
  refine fr_aload_n i147_353 rfl ?_
  refine rn_sipush i147_354 ?_
  obtain ⟨w357, h357, h⟩ := Option.bind_eq_some_iff.mp h
  refine rn_newa (t := 20) i147_357 (by decide) rfl h357 ?_
  obtain ⟨w359, h359, h⟩ := Option.bind_eq_some_iff.mp h
  refine fr_pR (k := 67) i147_359 pf147_12_67 h359 ?_
  refine fr_aload_n i147_362 rfl ?_
  refine rn_iconst i147_363 ?_
  obtain ⟨r364, h364, h⟩ := Option.bind_eq_some_iff.mp h
  obtain ⟨g364, c364⟩ := S_Mo_plain a0 0 w359 r364 h364
  refine fr_callV (a := a0) (As := [.inl 0]) (st := []) i147_364 (cq164 a0 0) rfl (Nat.le_of_ble_eq_true rfl) g364 (c364 _ (by omega)) ?_
  refine fr_aload_n i147_367 rfl ?_
  obtain ⟨v368, h368, h⟩ := Option.bind_eq_some_iff.mp h
  refine fr_gR (k := 9) i147_368 tf12_9 h368 ?_
  refine rn_iconst i147_371 ?_
  refine rn_bipush i147_372 ?_
  refine rn_bipush i147_374 ?_
  refine rn_bipush i147_376 ?_
  refine rn_bipush i147_378 ?_
  refine rn_bipush i147_380 ?_
  refine rn_bipush i147_382 ?_
  refine rn_iconst i147_384 ?_
  obtain ⟨r385, h385, h⟩ := Option.bind_eq_some_iff.mp h
  refine fr_callS (nst := 0) (As := [.inl 108, .inl 101, .inl 116, .inl 116, .inl 101, .inl 114, .inl 0]) (st := [.inl 0, .inr (.inr v368)]) i147_385 (cq155 108 101 116 116 101 114 0) rfl (Nat.le_of_ble_eq_true rfl) (S_Mo_word 108 101 116 116 101 114 0 r364 r385 h385 _ (by omega)) ?_
  show Rn _ _ _ _ _ _ [.inr (.inl r385.1), .inl 0, .inr (.inr v368)] _ _ _
  obtain ⟨w388, h388, h⟩ := Option.bind_eq_some_iff.mp h
  refine rn_last i147_388 h388 ?_
  refine fr_aload_n i147_389 rfl ?_
  obtain ⟨v390, h390, h⟩ := Option.bind_eq_some_iff.mp h
  refine fr_gR (k := 9) i147_390 tf12_9 h390 ?_
  refine rn_iconst i147_393 ?_
  refine rn_bipush i147_394 ?_
  refine rn_bipush i147_396 ?_
  refine rn_bipush i147_398 ?_
  refine rn_bipush i147_400 ?_
  refine rn_iconst i147_402 ?_
  refine rn_iconst i147_403 ?_
  refine rn_iconst i147_404 ?_
  obtain ⟨r405, h405, h⟩ := Option.bind_eq_some_iff.mp h
  refine fr_callS (nst := 0) (As := [.inl 104, .inl 101, .inl 105, .inl 114, .inl 0, .inl 0, .inl 0]) (st := [.inl 1, .inr (.inr v390)]) i147_405 (cq155 104 101 105 114 0 0 0) rfl (Nat.le_of_ble_eq_true rfl) (S_Mo_word 104 101 105 114 0 0 0 w388 r405 h405 _ (by omega)) ?_
  show Rn _ _ _ _ _ _ [.inr (.inl r405.1), .inl 1, .inr (.inr v390)] _ _ _
  obtain ⟨w408, h408, h⟩ := Option.bind_eq_some_iff.mp h
  refine rn_last i147_408 h408 ?_
  refine fr_aload_n i147_409 rfl ?_
  obtain ⟨v410, h410, h⟩ := Option.bind_eq_some_iff.mp h
  refine fr_gR (k := 9) i147_410 tf12_9 h410 ?_
  refine rn_iconst i147_413 ?_
  refine rn_bipush i147_414 ?_
  refine rn_bipush i147_416 ?_
  refine rn_bipush i147_418 ?_
  refine rn_bipush i147_420 ?_
  refine rn_bipush i147_422 ?_
  refine rn_bipush i147_424 ?_
  refine rn_iconst i147_426 ?_
  obtain ⟨r427, h427, h⟩ := Option.bind_eq_some_iff.mp h
  refine fr_callS (nst := 0) (As := [.inl 109, .inl 97, .inl 115, .inl 116, .inl 101, .inl 114, .inl 0]) (st := [.inl 2, .inr (.inr v410)]) i147_427 (cq155 109 97 115 116 101 114 0) rfl (Nat.le_of_ble_eq_true rfl) (S_Mo_word 109 97 115 116 101 114 0 w408 r427 h427 _ (by omega)) ?_
  show Rn _ _ _ _ _ _ [.inr (.inl r427.1), .inl 2, .inr (.inr v410)] _ _ _
  obtain ⟨w430, h430, h⟩ := Option.bind_eq_some_iff.mp h
  refine rn_last i147_430 h430 ?_
  refine fr_aload_n i147_431 rfl ?_
  obtain ⟨v432, h432, h⟩ := Option.bind_eq_some_iff.mp h
  refine fr_gR (k := 9) i147_432 tf12_9 h432 ?_
  refine rn_iconst i147_435 ?_
  refine rn_bipush i147_436 ?_
  refine rn_bipush i147_438 ?_
  refine rn_bipush i147_440 ?_
  refine rn_bipush i147_442 ?_
  refine rn_bipush i147_444 ?_
  refine rn_iconst i147_446 ?_
  refine rn_iconst i147_447 ?_
  obtain ⟨r448, h448, h⟩ := Option.bind_eq_some_iff.mp h
  refine fr_callS (nst := 0) (As := [.inl 108, .inl 101, .inl 97, .inl 114, .inl 110, .inl 0, .inl 0]) (st := [.inl 3, .inr (.inr v432)]) i147_448 (cq155 108 101 97 114 110 0 0) rfl (Nat.le_of_ble_eq_true rfl) (S_Mo_word 108 101 97 114 110 0 0 w430 r448 h448 _ (by omega)) ?_
  show Rn _ _ _ _ _ _ [.inr (.inl r448.1), .inl 3, .inr (.inr v432)] _ _ _
  obtain ⟨w451, h451, h⟩ := Option.bind_eq_some_iff.mp h
  refine rn_last i147_451 h451 ?_
  refine fr_aload_n i147_452 rfl ?_
  obtain ⟨v453, h453, h⟩ := Option.bind_eq_some_iff.mp h
  refine fr_gR (k := 9) i147_453 tf12_9 h453 ?_
  refine rn_iconst i147_456 ?_
  refine rn_bipush i147_457 ?_
  refine rn_bipush i147_459 ?_
  refine rn_bipush i147_461 ?_
  refine rn_bipush i147_463 ?_
  refine rn_bipush i147_465 ?_
  refine rn_iconst i147_467 ?_
  refine rn_iconst i147_468 ?_
  obtain ⟨r469, h469, h⟩ := Option.bind_eq_some_iff.mp h
  refine fr_callS (nst := 0) (As := [.inl 100, .inl 114, .inl 105, .inl 102, .inl 116, .inl 0, .inl 0]) (st := [.inl 4, .inr (.inr v453)]) i147_469 (cq155 100 114 105 102 116 0 0) rfl (Nat.le_of_ble_eq_true rfl) (S_Mo_word 100 114 105 102 116 0 0 w451 r469 h469 _ (by omega)) ?_
  show Rn _ _ _ _ _ _ [.inr (.inl r469.1), .inl 4, .inr (.inr v453)] _ _ _
  obtain ⟨w472, h472, h⟩ := Option.bind_eq_some_iff.mp h
  refine rn_last i147_472 h472 ?_
  refine fr_aload_n i147_473 rfl ?_
  obtain ⟨v474, h474, h⟩ := Option.bind_eq_some_iff.mp h
  refine fr_gR (k := 9) i147_474 tf12_9 h474 ?_
  refine rn_iconst i147_477 ?_
  refine rn_bipush i147_478 ?_
  refine rn_bipush i147_480 ?_
  refine rn_bipush i147_482 ?_
  refine rn_bipush i147_484 ?_
  refine rn_iconst i147_486 ?_
  refine rn_iconst i147_487 ?_
  refine rn_iconst i147_488 ?_
  obtain ⟨r489, h489, h⟩ := Option.bind_eq_some_iff.mp h
  refine fr_callS (nst := 0) (As := [.inl 100, .inl 97, .inl 121, .inl 115, .inl 0, .inl 0, .inl 0]) (st := [.inl 5, .inr (.inr v474)]) i147_489 (cq155 100 97 121 115 0 0 0) rfl (Nat.le_of_ble_eq_true rfl) (S_Mo_word 100 97 121 115 0 0 0 w472 r489 h489 _ (by omega)) ?_
  show Rn _ _ _ _ _ _ [.inr (.inl r489.1), .inl 5, .inr (.inr v474)] _ _ _
  obtain ⟨w492, h492, h⟩ := Option.bind_eq_some_iff.mp h
  refine rn_last i147_492 h492 ?_
  refine fr_aload_n i147_493 rfl ?_
  obtain ⟨v494, h494, h⟩ := Option.bind_eq_some_iff.mp h
  refine fr_gR (k := 9) i147_494 tf12_9 h494 ?_
  refine rn_bipush i147_497 ?_
  refine rn_bipush i147_499 ?_
  refine rn_bipush i147_501 ?_
  refine rn_bipush i147_503 ?_
  refine rn_bipush i147_505 ?_
  refine rn_bipush i147_507 ?_
  refine rn_iconst i147_509 ?_
  refine rn_iconst i147_510 ?_
  obtain ⟨r511, h511, h⟩ := Option.bind_eq_some_iff.mp h
  refine fr_callS (nst := 0) (As := [.inl 108, .inl 105, .inl 109, .inl 105, .inl 116, .inl 0, .inl 0]) (st := [.inl 6, .inr (.inr v494)]) i147_511 (cq155 108 105 109 105 116 0 0) rfl (Nat.le_of_ble_eq_true rfl) (S_Mo_word 108 105 109 105 116 0 0 w492 r511 h511 _ (by omega)) ?_
  show Rn _ _ _ _ _ _ [.inr (.inl r511.1), .inl 6, .inr (.inr v494)] _ _ _
  obtain ⟨w514, h514, h⟩ := Option.bind_eq_some_iff.mp h
  refine rn_last i147_514 h514 ?_
  refine fr_aload_n i147_515 rfl ?_
  obtain ⟨v516, h516, h⟩ := Option.bind_eq_some_iff.mp h
  refine fr_gR (k := 9) i147_516 tf12_9 h516 ?_
  refine rn_bipush i147_519 ?_
  refine rn_bipush i147_521 ?_
  refine rn_bipush i147_523 ?_
  refine rn_bipush i147_525 ?_
  refine rn_bipush i147_527 ?_
  refine rn_iconst i147_529 ?_
  refine rn_iconst i147_530 ?_
  refine rn_iconst i147_531 ?_
  obtain ⟨r532, h532, h⟩ := Option.bind_eq_some_iff.mp h
  refine fr_callS (nst := 0) (As := [.inl 115, .inl 101, .inl 101, .inl 100, .inl 0, .inl 0, .inl 0]) (st := [.inl 7, .inr (.inr v516)]) i147_532 (cq155 115 101 101 100 0 0 0) rfl (Nat.le_of_ble_eq_true rfl) (S_Mo_word 115 101 101 100 0 0 0 w514 r532 h532 _ (by omega)) ?_
  show Rn _ _ _ _ _ _ [.inr (.inl r532.1), .inl 7, .inr (.inr v516)] _ _ _
  obtain ⟨w535, h535, h⟩ := Option.bind_eq_some_iff.mp h
  refine rn_last i147_535 h535 ?_
  refine fr_aload_n i147_536 rfl ?_
  obtain ⟨v537, h537, h⟩ := Option.bind_eq_some_iff.mp h
  refine fr_gR (k := 9) i147_537 tf12_9 h537 ?_
  refine rn_bipush i147_540 ?_
  refine rn_bipush i147_542 ?_
  refine rn_bipush i147_544 ?_
  refine rn_iconst i147_546 ?_
  refine rn_iconst i147_547 ?_
  refine rn_iconst i147_548 ?_
  refine rn_iconst i147_549 ?_
  refine rn_iconst i147_550 ?_
  obtain ⟨r551, h551, h⟩ := Option.bind_eq_some_iff.mp h
  refine fr_callS (nst := 0) (As := [.inl 105, .inl 102, .inl 0, .inl 0, .inl 0, .inl 0, .inl 0]) (st := [.inl 8, .inr (.inr v537)]) i147_551 (cq155 105 102 0 0 0 0 0) rfl (Nat.le_of_ble_eq_true rfl) (S_Mo_word 105 102 0 0 0 0 0 w535 r551 h551 _ (by omega)) ?_
  show Rn _ _ _ _ _ _ [.inr (.inl r551.1), .inl 8, .inr (.inr v537)] _ _ _
  obtain ⟨w554, h554, h⟩ := Option.bind_eq_some_iff.mp h
  refine rn_last i147_554 h554 ?_
  refine fr_aload_n i147_555 rfl ?_
  obtain ⟨v556, h556, h⟩ := Option.bind_eq_some_iff.mp h
  refine fr_gR (k := 9) i147_556 tf12_9 h556 ?_
  refine rn_bipush i147_559 ?_
  refine rn_bipush i147_561 ?_
  refine rn_bipush i147_563 ?_
  refine rn_bipush i147_565 ?_
  refine rn_bipush i147_567 ?_
  refine rn_iconst i147_569 ?_
  refine rn_iconst i147_570 ?_
  refine rn_iconst i147_571 ?_
  obtain ⟨r572, h572, h⟩ := Option.bind_eq_some_iff.mp h
  refine fr_callS (nst := 0) (As := [.inl 116, .inl 104, .inl 101, .inl 110, .inl 0, .inl 0, .inl 0]) (st := [.inl 9, .inr (.inr v556)]) i147_572 (cq155 116 104 101 110 0 0 0) rfl (Nat.le_of_ble_eq_true rfl) (S_Mo_word 116 104 101 110 0 0 0 w554 r572 h572 _ (by omega)) ?_
  show Rn _ _ _ _ _ _ [.inr (.inl r572.1), .inl 9, .inr (.inr v556)] _ _ _
  obtain ⟨w575, h575, h⟩ := Option.bind_eq_some_iff.mp h
  refine rn_last i147_575 h575 ?_
  refine fr_aload_n i147_576 rfl ?_
  obtain ⟨v577, h577, h⟩ := Option.bind_eq_some_iff.mp h
  refine fr_gR (k := 9) i147_577 tf12_9 h577 ?_
  refine rn_bipush i147_580 ?_
  refine rn_bipush i147_582 ?_
  refine rn_bipush i147_584 ?_
  refine rn_bipush i147_586 ?_
  refine rn_bipush i147_588 ?_
  refine rn_iconst i147_590 ?_
  refine rn_iconst i147_591 ?_
  refine rn_iconst i147_592 ?_
  obtain ⟨r593, h593, h⟩ := Option.bind_eq_some_iff.mp h
  refine fr_callS (nst := 0) (As := [.inl 101, .inl 108, .inl 115, .inl 101, .inl 0, .inl 0, .inl 0]) (st := [.inl 10, .inr (.inr v577)]) i147_593 (cq155 101 108 115 101 0 0 0) rfl (Nat.le_of_ble_eq_true rfl) (S_Mo_word 101 108 115 101 0 0 0 w575 r593 h593 _ (by omega)) ?_
  show Rn _ _ _ _ _ _ [.inr (.inl r593.1), .inl 10, .inr (.inr v577)] _ _ _
  obtain ⟨w596, h596, h⟩ := Option.bind_eq_some_iff.mp h
  refine rn_last i147_596 h596 ?_
  refine fr_aload_n i147_597 rfl ?_
  obtain ⟨v598, h598, h⟩ := Option.bind_eq_some_iff.mp h
  refine fr_gR (k := 9) i147_598 tf12_9 h598 ?_
  refine rn_bipush i147_601 ?_
  refine rn_bipush i147_603 ?_
  refine rn_bipush i147_605 ?_
  refine rn_bipush i147_607 ?_
  refine rn_iconst i147_609 ?_
  refine rn_iconst i147_610 ?_
  refine rn_iconst i147_611 ?_
  refine rn_iconst i147_612 ?_
  obtain ⟨r613, h613, h⟩ := Option.bind_eq_some_iff.mp h
  refine fr_callS (nst := 0) (As := [.inl 111, .inl 102, .inl 102, .inl 0, .inl 0, .inl 0, .inl 0]) (st := [.inl 11, .inr (.inr v598)]) i147_613 (cq155 111 102 102 0 0 0 0) rfl (Nat.le_of_ble_eq_true rfl) (S_Mo_word 111 102 102 0 0 0 0 w596 r613 h613 _ (by omega)) ?_
  show Rn _ _ _ _ _ _ [.inr (.inl r613.1), .inl 11, .inr (.inr v598)] _ _ _
  obtain ⟨w616, h616, h⟩ := Option.bind_eq_some_iff.mp h
  refine rn_last i147_616 h616 ?_
  refine fr_aload_n i147_617 rfl ?_
  obtain ⟨v618, h618, h⟩ := Option.bind_eq_some_iff.mp h
  refine fr_gR (k := 9) i147_618 tf12_9 h618 ?_
  refine rn_bipush i147_621 ?_
  refine rn_bipush i147_623 ?_
  refine rn_bipush i147_625 ?_
  refine rn_bipush i147_627 ?_
  refine rn_bipush i147_629 ?_
  refine rn_iconst i147_631 ?_
  refine rn_iconst i147_632 ?_
  refine rn_iconst i147_633 ?_
  obtain ⟨r634, h634, h⟩ := Option.bind_eq_some_iff.mp h
  refine fr_callS (nst := 0) (As := [.inl 121, .inl 101, .inl 97, .inl 114, .inl 0, .inl 0, .inl 0]) (st := [.inl 12, .inr (.inr v618)]) i147_634 (cq155 121 101 97 114 0 0 0) rfl (Nat.le_of_ble_eq_true rfl) (S_Mo_word 121 101 97 114 0 0 0 w616 r634 h634 _ (by omega)) ?_
  show Rn _ _ _ _ _ _ [.inr (.inl r634.1), .inl 12, .inr (.inr v618)] _ _ _
  obtain ⟨w637, h637, h⟩ := Option.bind_eq_some_iff.mp h
  refine rn_last i147_637 h637 ?_
  refine fr_aload_n i147_638 rfl ?_
  obtain ⟨v639, h639, h⟩ := Option.bind_eq_some_iff.mp h
  refine fr_gR (k := 9) i147_639 tf12_9 h639 ?_
  refine rn_bipush i147_642 ?_
  refine rn_bipush i147_644 ?_
  refine rn_bipush i147_646 ?_
  refine rn_bipush i147_648 ?_
  refine rn_bipush i147_650 ?_
  refine rn_iconst i147_652 ?_
  refine rn_iconst i147_653 ?_
  refine rn_iconst i147_654 ?_
  obtain ⟨r655, h655, h⟩ := Option.bind_eq_some_iff.mp h
  refine fr_callS (nst := 0) (As := [.inl 119, .inl 111, .inl 114, .inl 110, .inl 0, .inl 0, .inl 0]) (st := [.inl 13, .inr (.inr v639)]) i147_655 (cq155 119 111 114 110 0 0 0) rfl (Nat.le_of_ble_eq_true rfl) (S_Mo_word 119 111 114 110 0 0 0 w637 r655 h655 _ (by omega)) ?_
  show Rn _ _ _ _ _ _ [.inr (.inl r655.1), .inl 13, .inr (.inr v639)] _ _ _
  obtain ⟨w658, h658, h⟩ := Option.bind_eq_some_iff.mp h
  refine rn_last i147_658 h658 ?_
  refine fr_aload_n i147_659 rfl ?_
  obtain ⟨v660, h660, h⟩ := Option.bind_eq_some_iff.mp h
  refine fr_gR (k := 9) i147_660 tf12_9 h660 ?_
  refine rn_bipush i147_663 ?_
  refine rn_bipush i147_665 ?_
  refine rn_bipush i147_667 ?_
  refine rn_bipush i147_669 ?_
  refine rn_iconst i147_671 ?_
  refine rn_iconst i147_672 ?_
  refine rn_iconst i147_673 ?_
  refine rn_iconst i147_674 ?_
  obtain ⟨r675, h675, h⟩ := Option.bind_eq_some_iff.mp h
  refine fr_callS (nst := 0) (As := [.inl 111, .inl 119, .inl 110, .inl 0, .inl 0, .inl 0, .inl 0]) (st := [.inl 14, .inr (.inr v660)]) i147_675 (cq155 111 119 110 0 0 0 0) rfl (Nat.le_of_ble_eq_true rfl) (S_Mo_word 111 119 110 0 0 0 0 w658 r675 h675 _ (by omega)) ?_
  show Rn _ _ _ _ _ _ [.inr (.inl r675.1), .inl 14, .inr (.inr v660)] _ _ _
  obtain ⟨w678, h678, h⟩ := Option.bind_eq_some_iff.mp h
  refine rn_last i147_678 h678 ?_
  refine fr_aload_n i147_679 rfl ?_
  obtain ⟨v680, h680, h⟩ := Option.bind_eq_some_iff.mp h
  refine fr_gR (k := 9) i147_680 tf12_9 h680 ?_
  refine rn_bipush i147_683 ?_
  refine rn_bipush i147_685 ?_
  refine rn_bipush i147_687 ?_
  refine rn_bipush i147_689 ?_
  refine rn_bipush i147_691 ?_
  refine rn_iconst i147_693 ?_
  refine rn_iconst i147_694 ?_
  refine rn_iconst i147_695 ?_
  obtain ⟨r696, h696, h⟩ := Option.bind_eq_some_iff.mp h
  refine fr_callS (nst := 0) (As := [.inl 104, .inl 97, .inl 110, .inl 100, .inl 0, .inl 0, .inl 0]) (st := [.inl 15, .inr (.inr v680)]) i147_696 (cq155 104 97 110 100 0 0 0) rfl (Nat.le_of_ble_eq_true rfl) (S_Mo_word 104 97 110 100 0 0 0 w678 r696 h696 _ (by omega)) ?_
  show Rn _ _ _ _ _ _ [.inr (.inl r696.1), .inl 15, .inr (.inr v680)] _ _ _
  obtain ⟨w699, h699, h⟩ := Option.bind_eq_some_iff.mp h
  refine rn_last i147_699 h699 ?_
  refine fr_aload_n i147_700 rfl ?_
  obtain ⟨v701, h701, h⟩ := Option.bind_eq_some_iff.mp h
  refine fr_gR (k := 9) i147_701 tf12_9 h701 ?_
  refine rn_bipush i147_704 ?_
  refine rn_bipush i147_706 ?_
  refine rn_bipush i147_708 ?_
  refine rn_bipush i147_710 ?_
  refine rn_iconst i147_712 ?_
  refine rn_iconst i147_713 ?_
  refine rn_iconst i147_714 ?_
  refine rn_iconst i147_715 ?_
  obtain ⟨r716, h716, h⟩ := Option.bind_eq_some_iff.mp h
  refine fr_callS (nst := 0) (As := [.inl 100, .inl 97, .inl 121, .inl 0, .inl 0, .inl 0, .inl 0]) (st := [.inl 16, .inr (.inr v701)]) i147_716 (cq155 100 97 121 0 0 0 0) rfl (Nat.le_of_ble_eq_true rfl) (S_Mo_word 100 97 121 0 0 0 0 w699 r716 h716 _ (by omega)) ?_
  show Rn _ _ _ _ _ _ [.inr (.inl r716.1), .inl 16, .inr (.inr v701)] _ _ _
  obtain ⟨w719, h719, h⟩ := Option.bind_eq_some_iff.mp h
  refine rn_last i147_719 h719 ?_
  refine fr_aload_n i147_720 rfl ?_
  obtain ⟨r721, h721, h⟩ := Option.bind_eq_some_iff.mp h
  obtain ⟨g721, c721⟩ := S_Mo_begins a0 w719 r721 h721
  refine fr_callV (a := a0) (As := []) (st := []) i147_721 (cq187 a0) rfl (Nat.le_of_ble_eq_true rfl) g721 (c721 _ (by omega)) ?_
  obtain rfl := Option.some.inj h
  exact rn_ret i147_724 mr147
/-- HandHeirsModel.<init>()V -/
def Mo_init (a0 : Nat) (w : Wd) : Option (Wd) := gd 12 w a0 (Mo_init_0 a0 w)
theorem S_Mo_init {g : Gp} {l : Launch} (a0 : Nat) (w : Wd) (r : Wd) (h : Mo_init a0 w = some r) : (wsh w a0).1 = 12 ∧ ∀ D, 2 ≤ D → Rn g l D 147 0 [(0, .inr (.inr a0))] [] w none r := by
  obtain ⟨hg, h⟩ := gd_some h
  exact ⟨hg, fun D hD => rn_sub [0] rfl (s_Mo_init_0 hD a0 w r h)⟩
def Mo_put_3 : Nat → Nat → Int → Int → Wd → Option (Wd)
  | 0, _, _, _, _ => none
  | n + 1, a0, x1, x2, w =>
    if (x2 : Int) < 0 then
      some w
    else
      (fgR w a0 12 1).bind fun v8 =>
      (fgI w a0 12 2).bind fun v12 =>
      (wrB w v8 v12 (n8 (oshr x1 x2))).bind fun w19 =>
      (fgI w19 a0 12 2).bind fun v22 =>
      (fpI w19 a0 12 2 (w32 (v22 + 1))).bind fun w27 =>
      Mo_put_3 n a0 x1 (w32 (x2 + (-8))) w27
theorem s_Mo_put_3 {g : Gp} {l : Launch} {D : Nat} (hD : 0 ≤ D) : ∀ (n : Nat) (a0 : Nat) (x1 : Int) (x2 : Int) (w : Wd) (r : Wd), Mo_put_3 n a0 x1 x2 w = some r → Rn g l D 149 3 [(0, .inr (.inr a0)), (1, .inl x1), (2, .inl x2)] [] w none r := by
  intro n
  induction n with
  | zero => intro a0 x1 x2 w r h; cases (show (none : Option (Wd)) = some r from h)
  | succ n ih =>
    intro a0 x1 x2 w r h
    unfold Mo_put_3 at h
    refine rn_iload_n i149_3 rfl ?_
    by_cases c4 : (x2 : Int) < 0
    · rw [if_pos c4] at h
      refine rn_if_lt_t i149_4 c4 ?_
      obtain rfl := Option.some.inj h
      exact rn_ret i149_36 mr149
    · rw [if_neg c4] at h
      refine rn_if_lt_f i149_4 c4 ?_
      refine fr_aload_n i149_7 rfl ?_
      obtain ⟨v8, h8, h⟩ := Option.bind_eq_some_iff.mp h
      refine fr_gR (k := 1) i149_8 tf12_1 h8 ?_
      refine fr_aload_n i149_11 rfl ?_
      obtain ⟨v12, h12, h⟩ := Option.bind_eq_some_iff.mp h
      refine fr_gI (k := 2) i149_12 tf12_2 h12 ?_
      refine rn_iload_n i149_15 rfl ?_
      refine rn_iload_n i149_16 rfl ?_
      refine rn_ishr i149_17 ?_
      refine rn_i2b i149_18 ?_
      obtain ⟨w19, h19, h⟩ := Option.bind_eq_some_iff.mp h
      refine rn_bast i149_19 h19 ?_
      refine fr_aload_n i149_20 rfl ?_
      refine rn_dup i149_21 rfl ?_
      obtain ⟨v22, h22, h⟩ := Option.bind_eq_some_iff.mp h
      refine fr_gI (k := 2) i149_22 tf12_2 h22 ?_
      refine rn_iconst i149_25 ?_
      refine rn_iadd i149_26 ?_
      obtain ⟨w27, h27, h⟩ := Option.bind_eq_some_iff.mp h
      refine fr_pI (k := 2) i149_27 (pf12_2 149) h27 ?_
      refine rn_iinc (ls1 := [(2, .inl (w32 (x2 + (-8)))), (0, .inr (.inr a0)), (1, .inl x1)]) i149_30 rfl rfl ?_
      refine rn_goto i149_33 ?_
      exact rn_sub [1, 2, 0] rfl (ih a0 x1 (w32 (x2 + (-8))) w27 r h)
def Mo_put_0 (a0 : Nat) (x1 : Int) (w : Wd) : Option (Wd) :=
  Mo_put_3 FU a0 x1 24 w
theorem s_Mo_put_0 {g : Gp} {l : Launch} {D : Nat} (hD : 0 ≤ D) (a0 : Nat) (x1 : Int) (w : Wd) (r : Wd) (h : Mo_put_0 a0 x1 w = some r) : Rn g l D 149 0 [(0, .inr (.inr a0)), (1, .inl x1)] [] w none r := by
  unfold Mo_put_0 at h
  refine rn_bipush i149_0 ?_
  refine rn_istore_n (ls1 := [(2, .inl 24), (0, .inr (.inr a0)), (1, .inl x1)]) i149_2 rfl ?_
  exact rn_sub [1, 2, 0] rfl (s_Mo_put_3 hD FU a0 x1 24 w r h)
/-- HandHeirsModel.put(I)V -/
def Mo_put (a0 : Nat) (x1 : Int) (w : Wd) : Option (Wd) := gd 12 w a0 (Mo_put_0 a0 x1 w)
theorem S_Mo_put {g : Gp} {l : Launch} (a0 : Nat) (x1 : Int) (w : Wd) (r : Wd) (h : Mo_put a0 x1 w = some r) : (wsh w a0).1 = 12 ∧ ∀ D, 0 ≤ D → Rn g l D 149 0 [(0, .inr (.inr a0)), (1, .inl x1)] [] w none r := by
  obtain ⟨hg, h⟩ := gd_some h
  exact ⟨hg, fun D hD => rn_sub [0, 1] rfl (s_Mo_put_0 hD a0 x1 w r h)⟩
def Mo_feed_0 (a0 : Nat) (x1 : Int) (x2 : Int) (x3 : Int) (x4 : Int) (x5 : Int) (w : Wd) : Option (Int × Wd) :=
  (fgI w a0 12 2).bind fun v1 =>
  if ((w32 (v1 + 20)) : Int) ≤ 2000 then
    (Mo_put a0 x1 w).bind fun r17 =>
    (Mo_put a0 x2 r17).bind fun r22 =>
    (Mo_put a0 x3 r22).bind fun r27 =>
    (Mo_put a0 x4 r27).bind fun r33 =>
    (Mo_put a0 x5 r33).bind fun r39 =>
    (fgI r39 a0 12 2).bind fun v43 =>
    some (v43, r39)
  else
    some ((-1), w)
theorem s_Mo_feed_0 {g : Gp} {l : Launch} {D : Nat} (hD : 1 ≤ D) (a0 : Nat) (x1 : Int) (x2 : Int) (x3 : Int) (x4 : Int) (x5 : Int) (w : Wd) (r : Int × Wd) (h : Mo_feed_0 a0 x1 x2 x3 x4 x5 w = some r) : Rn g l D 148 0 [(0, .inr (.inr a0)), (1, .inl x1), (2, .inl x2), (3, .inl x3), (4, .inl x4), (5, .inl x5)] [] w (some (.inl r.1)) r.2 := by
  obtain ⟨D, rfl⟩ : ∃ D1, D = D1 + 1 := ⟨D - 1, by omega⟩
  unfold Mo_feed_0 at h
  refine fr_aload_n i148_0 rfl ?_
  obtain ⟨v1, h1, h⟩ := Option.bind_eq_some_iff.mp h
  refine fr_gI (k := 2) i148_1 tf12_2 h1 ?_
  refine rn_bipush i148_4 ?_
  refine rn_iadd i148_6 ?_
  refine rn_sipush i148_7 ?_
  by_cases c10 : ((w32 (v1 + 20)) : Int) ≤ 2000
  · rw [if_pos c10] at h
    refine rn_icmp_le_t i148_10 c10 ?_
    refine fr_aload_n i148_15 rfl ?_
    refine rn_iload_n i148_16 rfl ?_
    obtain ⟨r17, h17, h⟩ := Option.bind_eq_some_iff.mp h
    obtain ⟨g17, c17⟩ := S_Mo_put a0 x1 w r17 h17
    refine fr_callV (a := a0) (As := [.inl x1]) (st := []) i148_17 (cq149 a0 x1) rfl (Nat.le_of_ble_eq_true rfl) g17 (c17 _ (by omega)) ?_
    refine fr_aload_n i148_20 rfl ?_
    refine rn_iload_n i148_21 rfl ?_
    obtain ⟨r22, h22, h⟩ := Option.bind_eq_some_iff.mp h
    obtain ⟨g22, c22⟩ := S_Mo_put a0 x2 r17 r22 h22
    refine fr_callV (a := a0) (As := [.inl x2]) (st := []) i148_22 (cq149 a0 x2) rfl (Nat.le_of_ble_eq_true rfl) g22 (c22 _ (by omega)) ?_
    refine fr_aload_n i148_25 rfl ?_
    refine rn_iload_n i148_26 rfl ?_
    obtain ⟨r27, h27, h⟩ := Option.bind_eq_some_iff.mp h
    obtain ⟨g27, c27⟩ := S_Mo_put a0 x3 r22 r27 h27
    refine fr_callV (a := a0) (As := [.inl x3]) (st := []) i148_27 (cq149 a0 x3) rfl (Nat.le_of_ble_eq_true rfl) g27 (c27 _ (by omega)) ?_
    refine fr_aload_n i148_30 rfl ?_
    refine rn_iload i148_31 rfl ?_
    obtain ⟨r33, h33, h⟩ := Option.bind_eq_some_iff.mp h
    obtain ⟨g33, c33⟩ := S_Mo_put a0 x4 r27 r33 h33
    refine fr_callV (a := a0) (As := [.inl x4]) (st := []) i148_33 (cq149 a0 x4) rfl (Nat.le_of_ble_eq_true rfl) g33 (c33 _ (by omega)) ?_
    refine fr_aload_n i148_36 rfl ?_
    refine rn_iload i148_37 rfl ?_
    obtain ⟨r39, h39, h⟩ := Option.bind_eq_some_iff.mp h
    obtain ⟨g39, c39⟩ := S_Mo_put a0 x5 r33 r39 h39
    refine fr_callV (a := a0) (As := [.inl x5]) (st := []) i148_39 (cq149 a0 x5) rfl (Nat.le_of_ble_eq_true rfl) g39 (c39 _ (by omega)) ?_
    refine fr_aload_n i148_42 rfl ?_
    obtain ⟨v43, h43, h⟩ := Option.bind_eq_some_iff.mp h
    refine fr_gI (k := 2) i148_43 tf12_2 h43 ?_
    obtain rfl := Option.some.inj h
    exact rn_retI i148_46 mr148
  · rw [if_neg c10] at h
    refine rn_icmp_le_f i148_10 c10 ?_
    refine rn_iconst i148_13 ?_
    obtain rfl := Option.some.inj h
    exact rn_retI i148_14 mr148
/-- HandHeirsModel.feed(IIIII)I -/
def Mo_feed (a0 : Nat) (x1 : Int) (x2 : Int) (x3 : Int) (x4 : Int) (x5 : Int) (w : Wd) : Option (Int × Wd) := gd 12 w a0 (Mo_feed_0 a0 x1 x2 x3 x4 x5 w)
theorem S_Mo_feed {g : Gp} {l : Launch} (a0 : Nat) (x1 : Int) (x2 : Int) (x3 : Int) (x4 : Int) (x5 : Int) (w : Wd) (r : Int × Wd) (h : Mo_feed a0 x1 x2 x3 x4 x5 w = some r) : (wsh w a0).1 = 12 ∧ ∀ D, 1 ≤ D → Rn g l D 148 0 [(0, .inr (.inr a0)), (1, .inl x1), (2, .inl x2), (3, .inl x3), (4, .inl x4), (5, .inl x5)] [] w (some (.inl r.1)) r.2 := by
  obtain ⟨hg, h⟩ := gd_some h
  exact ⟨hg, fun D hD => rn_sub [0, 1, 2, 3, 4, 5] rfl (s_Mo_feed_0 hD a0 x1 x2 x3 x4 x5 w r h)⟩
def Mo_back_12 (w : Wd) : Option (Int × Wd) :=
  some ((-1), w)
theorem s_Mo_back_12 {g : Gp} {l : Launch} {D : Nat} (hD : 0 ≤ D) (w : Wd) (r : Int × Wd) (h : Mo_back_12 w = some r) : Rn g l D 150 12 [] [] w (some (.inl r.1)) r.2 := by
  unfold Mo_back_12 at h
  refine rn_iconst i150_12 ?_
  obtain rfl := Option.some.inj h
  exact rn_retI i150_13 mr150
def Mo_back_0 (a0 : Nat) (x1 : Int) (w : Wd) : Option (Int × Wd) :=
  if (x1 : Int) < 0 then
    Mo_back_12 w
  else
    (fgI w a0 12 2).bind fun v6 =>
    if (x1 : Int) ≤ v6 then
      (fgI w a0 12 2).bind fun v16 =>
      (fpI w a0 12 2 (w32 (v16 - x1))).bind fun w21 =>
      (fgI w21 a0 12 2).bind fun v25 =>
      some (v25, w21)
    else
      Mo_back_12 w
theorem s_Mo_back_0 {g : Gp} {l : Launch} {D : Nat} (hD : 0 ≤ D) (a0 : Nat) (x1 : Int) (w : Wd) (r : Int × Wd) (h : Mo_back_0 a0 x1 w = some r) : Rn g l D 150 0 [(0, .inr (.inr a0)), (1, .inl x1)] [] w (some (.inl r.1)) r.2 := by
  unfold Mo_back_0 at h
  refine rn_iload_n i150_0 rfl ?_
  by_cases c1 : (x1 : Int) < 0
  · rw [if_pos c1] at h
    refine rn_if_lt_t i150_1 c1 ?_
    exact rn_sub [] rfl (s_Mo_back_12 hD w r h)
  · rw [if_neg c1] at h
    refine rn_if_lt_f i150_1 c1 ?_
    refine rn_iload_n i150_4 rfl ?_
    refine fr_aload_n i150_5 rfl ?_
    obtain ⟨v6, h6, h⟩ := Option.bind_eq_some_iff.mp h
    refine fr_gI (k := 2) i150_6 tf12_2 h6 ?_
    by_cases c9 : (x1 : Int) ≤ v6
    · rw [if_pos c9] at h
      refine rn_icmp_le_t i150_9 c9 ?_
      refine fr_aload_n i150_14 rfl ?_
      refine rn_dup i150_15 rfl ?_
      obtain ⟨v16, h16, h⟩ := Option.bind_eq_some_iff.mp h
      refine fr_gI (k := 2) i150_16 tf12_2 h16 ?_
      refine rn_iload_n i150_19 rfl ?_
      refine rn_isub i150_20 ?_
      obtain ⟨w21, h21, h⟩ := Option.bind_eq_some_iff.mp h
      refine fr_pI (k := 2) i150_21 (pf12_2 150) h21 ?_
      refine fr_aload_n i150_24 rfl ?_
      obtain ⟨v25, h25, h⟩ := Option.bind_eq_some_iff.mp h
      refine fr_gI (k := 2) i150_25 tf12_2 h25 ?_
      obtain rfl := Option.some.inj h
      exact rn_retI i150_28 mr150
    · rw [if_neg c9] at h
      refine rn_icmp_le_f i150_9 c9 ?_
      exact rn_sub [] rfl (s_Mo_back_12 hD w r h)
/-- HandHeirsModel.back(I)I -/
def Mo_back (a0 : Nat) (x1 : Int) (w : Wd) : Option (Int × Wd) := gd 12 w a0 (Mo_back_0 a0 x1 w)
theorem S_Mo_back {g : Gp} {l : Launch} (a0 : Nat) (x1 : Int) (w : Wd) (r : Int × Wd) (h : Mo_back a0 x1 w = some r) : (wsh w a0).1 = 12 ∧ ∀ D, 0 ≤ D → Rn g l D 150 0 [(0, .inr (.inr a0)), (1, .inl x1)] [] w (some (.inl r.1)) r.2 := by
  obtain ⟨hg, h⟩ := gd_some h
  exact ⟨hg, fun D hD => rn_sub [0, 1] rfl (s_Mo_back_0 hD a0 x1 w r h)⟩
def Mo_byteAt_22 (s0 : Int) (w : Wd) : Option (Int × Wd) :=
  some (s0, w)
theorem s_Mo_byteAt_22 {g : Gp} {l : Launch} {D : Nat} (hD : 0 ≤ D) (s0 : Int) (w : Wd) (r : Int × Wd) (h : Mo_byteAt_22 s0 w = some r) : Rn g l D 151 22 [] [.inl s0] w (some (.inl r.1)) r.2 := by
  unfold Mo_byteAt_22 at h
  obtain rfl := Option.some.inj h
  exact rn_retI i151_22 mr151
def Mo_byteAt_0 (a0 : Nat) (x1 : Int) (w : Wd) : Option (Int × Wd) :=
  (fgI w a0 12 4).bind fun v2 =>
  if (v2 : Int) ≤ x1 then
    Mo_byteAt_22 0 w
  else
    (fgR w a0 12 3).bind fun v9 =>
    (rdB w v9 x1).bind fun v13 =>
    Mo_byteAt_22 (oand v13 255) w
theorem s_Mo_byteAt_0 {g : Gp} {l : Launch} {D : Nat} (hD : 0 ≤ D) (a0 : Nat) (x1 : Int) (w : Wd) (r : Int × Wd) (h : Mo_byteAt_0 a0 x1 w = some r) : Rn g l D 151 0 [(0, .inr (.inr a0)), (1, .inl x1)] [] w (some (.inl r.1)) r.2 := by
  unfold Mo_byteAt_0 at h
  refine rn_iload_n i151_0 rfl ?_
  refine fr_aload_n i151_1 rfl ?_
  obtain ⟨v2, h2, h⟩ := Option.bind_eq_some_iff.mp h
  refine fr_gI (k := 4) i151_2 tf12_4 h2 ?_
  by_cases c5 : (v2 : Int) ≤ x1
  · rw [if_pos c5] at h
    refine rn_icmp_ge_t i151_5 c5 ?_
    refine rn_iconst i151_21 ?_
    exact rn_sub [] rfl (s_Mo_byteAt_22 hD 0 w r h)
  · rw [if_neg c5] at h
    refine rn_icmp_ge_f i151_5 c5 ?_
    refine fr_aload_n i151_8 rfl ?_
    obtain ⟨v9, h9, h⟩ := Option.bind_eq_some_iff.mp h
    refine fr_gR (k := 3) i151_9 tf12_3 h9 ?_
    refine rn_iload_n i151_12 rfl ?_
    obtain ⟨v13, h13, h⟩ := Option.bind_eq_some_iff.mp h
    refine rn_bald i151_13 h13 ?_
    refine rn_sipush i151_14 ?_
    refine rn_iand i151_17 ?_
    refine rn_goto i151_18 ?_
    exact rn_sub [] rfl (s_Mo_byteAt_22 hD (oand v13 255) w r h)
/-- HandHeirsModel.byteAt(I)I -/
def Mo_byteAt (a0 : Nat) (x1 : Int) (w : Wd) : Option (Int × Wd) := gd 12 w a0 (Mo_byteAt_0 a0 x1 w)
theorem S_Mo_byteAt {g : Gp} {l : Launch} (a0 : Nat) (x1 : Int) (w : Wd) (r : Int × Wd) (h : Mo_byteAt a0 x1 w = some r) : (wsh w a0).1 = 12 ∧ ∀ D, 0 ≤ D → Rn g l D 151 0 [(0, .inr (.inr a0)), (1, .inl x1)] [] w (some (.inl r.1)) r.2 := by
  obtain ⟨hg, h⟩ := gd_some h
  exact ⟨hg, fun D hD => rn_sub [0, 1] rfl (s_Mo_byteAt_0 hD a0 x1 w r h)⟩
def Mo_isDigit_17 (s0 : Int) (w : Wd) : Option (Int × Wd) :=
  rZ s0 w
theorem s_Mo_isDigit_17 {g : Gp} {l : Launch} {D : Nat} (hD : 0 ≤ D) (s0 : Int) (w : Wd) (r : Int × Wd) (h : Mo_isDigit_17 s0 w = some r) : Rn g l D 152 17 [] [.inl s0] w (some (.inl r.1)) r.2 := by
  unfold Mo_isDigit_17 at h
  exact fr_retZ i152_17 mr152 h
def Mo_isDigit_16 (w : Wd) : Option (Int × Wd) :=
  Mo_isDigit_17 0 w
theorem s_Mo_isDigit_16 {g : Gp} {l : Launch} {D : Nat} (hD : 0 ≤ D) (w : Wd) (r : Int × Wd) (h : Mo_isDigit_16 w = some r) : Rn g l D 152 16 [] [] w (some (.inl r.1)) r.2 := by
  unfold Mo_isDigit_16 at h
  refine rn_iconst i152_16 ?_
  exact rn_sub [] rfl (s_Mo_isDigit_17 hD 0 w r h)
def Mo_isDigit_0 (x0 : Int) (w : Wd) : Option (Int × Wd) :=
  if (x0 : Int) < 48 then
    Mo_isDigit_16 w
  else
    if (57 : Int) < x0 then
      Mo_isDigit_16 w
    else
      Mo_isDigit_17 1 w
theorem s_Mo_isDigit_0 {g : Gp} {l : Launch} {D : Nat} (hD : 0 ≤ D) (x0 : Int) (w : Wd) (r : Int × Wd) (h : Mo_isDigit_0 x0 w = some r) : Rn g l D 152 0 [(0, .inl x0)] [] w (some (.inl r.1)) r.2 := by
  unfold Mo_isDigit_0 at h
  refine rn_iload_n i152_0 rfl ?_
  refine rn_bipush i152_1 ?_
  by_cases c3 : (x0 : Int) < 48
  · rw [if_pos c3] at h
    refine rn_icmp_lt_t i152_3 c3 ?_
    exact rn_sub [] rfl (s_Mo_isDigit_16 hD w r h)
  · rw [if_neg c3] at h
    refine rn_icmp_lt_f i152_3 c3 ?_
    refine rn_iload_n i152_6 rfl ?_
    refine rn_bipush i152_7 ?_
    by_cases c9 : (57 : Int) < x0
    · rw [if_pos c9] at h
      refine rn_icmp_gt_t i152_9 c9 ?_
      exact rn_sub [] rfl (s_Mo_isDigit_16 hD w r h)
    · rw [if_neg c9] at h
      refine rn_icmp_gt_f i152_9 c9 ?_
      refine rn_iconst i152_12 ?_
      refine rn_goto i152_13 ?_
      exact rn_sub [] rfl (s_Mo_isDigit_17 hD 1 w r h)
/-- HandHeirsModel.isDigit(I)Z -/
def Mo_isDigit (x0 : Int) (w : Wd) : Option (Int × Wd) := Mo_isDigit_0 x0 w
theorem S_Mo_isDigit {g : Gp} {l : Launch} (x0 : Int) (w : Wd) (r : Int × Wd) (h : Mo_isDigit x0 w = some r) : ∀ D, 0 ≤ D → Rn g l D 152 0 [(0, .inl x0)] [] w (some (.inl r.1)) r.2 := fun D hD => rn_sub [0] rfl (s_Mo_isDigit_0 hD x0 w r h)
def Mo_isLetter_17 (s0 : Int) (w : Wd) : Option (Int × Wd) :=
  rZ s0 w
theorem s_Mo_isLetter_17 {g : Gp} {l : Launch} {D : Nat} (hD : 0 ≤ D) (s0 : Int) (w : Wd) (r : Int × Wd) (h : Mo_isLetter_17 s0 w = some r) : Rn g l D 153 17 [] [.inl s0] w (some (.inl r.1)) r.2 := by
  unfold Mo_isLetter_17 at h
  exact fr_retZ i153_17 mr153 h
def Mo_isLetter_16 (w : Wd) : Option (Int × Wd) :=
  Mo_isLetter_17 0 w
theorem s_Mo_isLetter_16 {g : Gp} {l : Launch} {D : Nat} (hD : 0 ≤ D) (w : Wd) (r : Int × Wd) (h : Mo_isLetter_16 w = some r) : Rn g l D 153 16 [] [] w (some (.inl r.1)) r.2 := by
  unfold Mo_isLetter_16 at h
  refine rn_iconst i153_16 ?_
  exact rn_sub [] rfl (s_Mo_isLetter_17 hD 0 w r h)
def Mo_isLetter_0 (x0 : Int) (w : Wd) : Option (Int × Wd) :=
  if (x0 : Int) < 97 then
    Mo_isLetter_16 w
  else
    if (122 : Int) < x0 then
      Mo_isLetter_16 w
    else
      Mo_isLetter_17 1 w
theorem s_Mo_isLetter_0 {g : Gp} {l : Launch} {D : Nat} (hD : 0 ≤ D) (x0 : Int) (w : Wd) (r : Int × Wd) (h : Mo_isLetter_0 x0 w = some r) : Rn g l D 153 0 [(0, .inl x0)] [] w (some (.inl r.1)) r.2 := by
  unfold Mo_isLetter_0 at h
  refine rn_iload_n i153_0 rfl ?_
  refine rn_bipush i153_1 ?_
  by_cases c3 : (x0 : Int) < 97
  · rw [if_pos c3] at h
    refine rn_icmp_lt_t i153_3 c3 ?_
    exact rn_sub [] rfl (s_Mo_isLetter_16 hD w r h)
  · rw [if_neg c3] at h
    refine rn_icmp_lt_f i153_3 c3 ?_
    refine rn_iload_n i153_6 rfl ?_
    refine rn_bipush i153_7 ?_
    by_cases c9 : (122 : Int) < x0
    · rw [if_pos c9] at h
      refine rn_icmp_gt_t i153_9 c9 ?_
      exact rn_sub [] rfl (s_Mo_isLetter_16 hD w r h)
    · rw [if_neg c9] at h
      refine rn_icmp_gt_f i153_9 c9 ?_
      refine rn_iconst i153_12 ?_
      refine rn_goto i153_13 ?_
      exact rn_sub [] rfl (s_Mo_isLetter_17 hD 1 w r h)
/-- HandHeirsModel.isLetter(I)Z -/
def Mo_isLetter (x0 : Int) (w : Wd) : Option (Int × Wd) := Mo_isLetter_0 x0 w
theorem S_Mo_isLetter {g : Gp} {l : Launch} (x0 : Int) (w : Wd) (r : Int × Wd) (h : Mo_isLetter x0 w = some r) : ∀ D, 0 ≤ D → Rn g l D 153 0 [(0, .inl x0)] [] w (some (.inl r.1)) r.2 := fun D hD => rn_sub [0] rfl (s_Mo_isLetter_0 hD x0 w r h)
def Mo_token_0 (a0 : Nat) (x1 : Int) (x2 : Int) (x3 : Int) (x4 : Int) (w : Wd) : Option (Wd) :=
  (fgR w a0 12 5).bind fun v1 =>
  (fgI w a0 12 10).bind fun v5 =>
  (wrI w v1 v5 x1).bind fun w9 =>
  (fgR w9 a0 12 6).bind fun v11 =>
  (fgI w9 a0 12 10).bind fun v15 =>
  (wrI w9 v11 v15 x2).bind fun w19 =>
  (fgR w19 a0 12 7).bind fun v21 =>
  (fgI w19 a0 12 10).bind fun v25 =>
  (wrI w19 v21 v25 x3).bind fun w29 =>
  (fgR w29 a0 12 8).bind fun v31 =>
  (fgI w29 a0 12 10).bind fun v35 =>
  (wrL w29 v31 v35 x4).bind fun w40 =>
  (fgI w40 a0 12 10).bind fun v43 =>
  (fpI w40 a0 12 10 (w32 (v43 + 1))).bind fun w48 =>
  some w48
theorem s_Mo_token_0 {g : Gp} {l : Launch} {D : Nat} (hD : 0 ≤ D) (a0 : Nat) (x1 : Int) (x2 : Int) (x3 : Int) (x4 : Int) (w : Wd) (r : Wd) (h : Mo_token_0 a0 x1 x2 x3 x4 w = some r) : Rn g l D 156 0 [(0, .inr (.inr a0)), (1, .inl x1), (2, .inl x2), (3, .inl x3), (4, .inr (.inl x4))] [] w none r := by
  unfold Mo_token_0 at h
  refine fr_aload_n i156_0 rfl ?_
  obtain ⟨v1, h1, h⟩ := Option.bind_eq_some_iff.mp h
  refine fr_gR (k := 5) i156_1 tf12_5 h1 ?_
  refine fr_aload_n i156_4 rfl ?_
  obtain ⟨v5, h5, h⟩ := Option.bind_eq_some_iff.mp h
  refine fr_gI (k := 10) i156_5 tf12_10 h5 ?_
  refine rn_iload_n i156_8 rfl ?_
  obtain ⟨w9, h9, h⟩ := Option.bind_eq_some_iff.mp h
  refine rn_iast i156_9 h9 ?_
  refine fr_aload_n i156_10 rfl ?_
  obtain ⟨v11, h11, h⟩ := Option.bind_eq_some_iff.mp h
  refine fr_gR (k := 6) i156_11 tf12_6 h11 ?_
  refine fr_aload_n i156_14 rfl ?_
  obtain ⟨v15, h15, h⟩ := Option.bind_eq_some_iff.mp h
  refine fr_gI (k := 10) i156_15 tf12_10 h15 ?_
  refine rn_iload_n i156_18 rfl ?_
  obtain ⟨w19, h19, h⟩ := Option.bind_eq_some_iff.mp h
  refine rn_iast i156_19 h19 ?_
  refine fr_aload_n i156_20 rfl ?_
  obtain ⟨v21, h21, h⟩ := Option.bind_eq_some_iff.mp h
  refine fr_gR (k := 7) i156_21 tf12_7 h21 ?_
  refine fr_aload_n i156_24 rfl ?_
  obtain ⟨v25, h25, h⟩ := Option.bind_eq_some_iff.mp h
  refine fr_gI (k := 10) i156_25 tf12_10 h25 ?_
  refine rn_iload_n i156_28 rfl ?_
  obtain ⟨w29, h29, h⟩ := Option.bind_eq_some_iff.mp h
  refine rn_iast i156_29 h29 ?_
  refine fr_aload_n i156_30 rfl ?_
  obtain ⟨v31, h31, h⟩ := Option.bind_eq_some_iff.mp h
  refine fr_gR (k := 8) i156_31 tf12_8 h31 ?_
  refine fr_aload_n i156_34 rfl ?_
  obtain ⟨v35, h35, h⟩ := Option.bind_eq_some_iff.mp h
  refine fr_gI (k := 10) i156_35 tf12_10 h35 ?_
  refine rn_lload i156_38 rfl ?_
  obtain ⟨w40, h40, h⟩ := Option.bind_eq_some_iff.mp h
  refine rn_last i156_40 h40 ?_
  refine fr_aload_n i156_41 rfl ?_
  refine rn_dup i156_42 rfl ?_
  obtain ⟨v43, h43, h⟩ := Option.bind_eq_some_iff.mp h
  refine fr_gI (k := 10) i156_43 tf12_10 h43 ?_
  refine rn_iconst i156_46 ?_
  refine rn_iadd i156_47 ?_
  obtain ⟨w48, h48, h⟩ := Option.bind_eq_some_iff.mp h
  refine fr_pI (k := 10) i156_48 (pf12_10 156) h48 ?_
  obtain rfl := Option.some.inj h
  exact rn_ret i156_51 mr156
/-- HandHeirsModel.token(IIIJ)V -/
def Mo_token (a0 : Nat) (x1 : Int) (x2 : Int) (x3 : Int) (x4 : Int) (w : Wd) : Option (Wd) := gd 12 w a0 (Mo_token_0 a0 x1 x2 x3 x4 w)
theorem S_Mo_token {g : Gp} {l : Launch} (a0 : Nat) (x1 : Int) (x2 : Int) (x3 : Int) (x4 : Int) (w : Wd) (r : Wd) (h : Mo_token a0 x1 x2 x3 x4 w = some r) : (wsh w a0).1 = 12 ∧ ∀ D, 0 ≤ D → Rn g l D 156 0 [(0, .inr (.inr a0)), (1, .inl x1), (2, .inl x2), (3, .inl x3), (4, .inr (.inl x4))] [] w none r := by
  obtain ⟨hg, h⟩ := gd_some h
  exact ⟨hg, fun D hD => rn_sub [0, 1, 2, 3, 4] rfl (s_Mo_token_0 hD a0 x1 x2 x3 x4 w r h)⟩
def Mo_sign_95 (a0 : Nat) (x1 : Int) (x4 : Int) (w : Wd) : Option (Int × Wd) :=
  (Mo_token a0 x4 x1 0 0 w).bind fun r101 =>
  some (1, r101)
theorem s_Mo_sign_95 {g : Gp} {l : Launch} {D : Nat} (hD : 1 ≤ D) (a0 : Nat) (x1 : Int) (x4 : Int) (w : Wd) (r : Int × Wd) (h : Mo_sign_95 a0 x1 x4 w = some r) : Rn g l D 158 95 [(0, .inr (.inr a0)), (1, .inl x1), (4, .inl x4)] [] w (some (.inl r.1)) r.2 := by
  obtain ⟨D, rfl⟩ : ∃ D1, D = D1 + 1 := ⟨D - 1, by omega⟩
  unfold Mo_sign_95 at h
  refine fr_aload_n i158_95 rfl ?_
  refine rn_iload i158_96 rfl ?_
  refine rn_iload_n i158_98 rfl ?_
  refine rn_iconst i158_99 ?_
  refine fr_lconst0 i158_100 ?_
  obtain ⟨r101, h101, h⟩ := Option.bind_eq_some_iff.mp h
  obtain ⟨g101, c101⟩ := S_Mo_token a0 x4 x1 0 0 w r101 h101
  refine fr_callV (a := a0) (As := [.inl x4, .inl x1, .inl 0, .inr (.inl 0)]) (st := []) i158_101 (cq156 a0 x4 x1 0 0) rfl (Nat.le_of_ble_eq_true rfl) g101 (c101 _ (by omega)) ?_
  refine rn_iconst i158_104 ?_
  obtain rfl := Option.some.inj h
  exact rn_retI i158_105 mr158
def Mo_sign_85 (a0 : Nat) (x1 : Int) (x2 : Int) (x4 : Int) (w : Wd) : Option (Int × Wd) :=
  if (x2 : Int) = 60 then
    Mo_sign_95 a0 x1 13 w
  else
    Mo_sign_95 a0 x1 x4 w
theorem s_Mo_sign_85 {g : Gp} {l : Launch} {D : Nat} (hD : 1 ≤ D) (a0 : Nat) (x1 : Int) (x2 : Int) (x4 : Int) (w : Wd) (r : Int × Wd) (h : Mo_sign_85 a0 x1 x2 x4 w = some r) : Rn g l D 158 85 [(0, .inr (.inr a0)), (1, .inl x1), (2, .inl x2), (4, .inl x4)] [] w (some (.inl r.1)) r.2 := by
  unfold Mo_sign_85 at h
  refine rn_iload_n i158_85 rfl ?_
  refine rn_bipush i158_86 ?_
  by_cases c88 : (x2 : Int) = 60
  · rw [if_pos c88] at h
    refine rn_icmp_ne_f i158_88 c88 ?_
    refine rn_bipush i158_91 ?_
    refine rn_istore (ls1 := [(4, .inl 13), (0, .inr (.inr a0)), (1, .inl x1), (2, .inl x2)]) i158_93 rfl ?_
    exact rn_sub [1, 2, 0] rfl (s_Mo_sign_95 hD a0 x1 13 w r h)
  · rw [if_neg c88] at h
    refine rn_icmp_ne_t i158_88 c88 ?_
    exact rn_sub [0, 1, 3] rfl (s_Mo_sign_95 hD a0 x1 x4 w r h)
def Mo_sign_75 (a0 : Nat) (x1 : Int) (x2 : Int) (x4 : Int) (w : Wd) : Option (Int × Wd) :=
  if (x2 : Int) = 47 then
    Mo_sign_85 a0 x1 x2 15 w
  else
    Mo_sign_85 a0 x1 x2 x4 w
theorem s_Mo_sign_75 {g : Gp} {l : Launch} {D : Nat} (hD : 1 ≤ D) (a0 : Nat) (x1 : Int) (x2 : Int) (x4 : Int) (w : Wd) (r : Int × Wd) (h : Mo_sign_75 a0 x1 x2 x4 w = some r) : Rn g l D 158 75 [(0, .inr (.inr a0)), (1, .inl x1), (2, .inl x2), (4, .inl x4)] [] w (some (.inl r.1)) r.2 := by
  unfold Mo_sign_75 at h
  refine rn_iload_n i158_75 rfl ?_
  refine rn_bipush i158_76 ?_
  by_cases c78 : (x2 : Int) = 47
  · rw [if_pos c78] at h
    refine rn_icmp_ne_f i158_78 c78 ?_
    refine rn_bipush i158_81 ?_
    refine rn_istore (ls1 := [(4, .inl 15), (0, .inr (.inr a0)), (1, .inl x1), (2, .inl x2)]) i158_83 rfl ?_
    exact rn_sub [1, 2, 3, 0] rfl (s_Mo_sign_85 hD a0 x1 x2 15 w r h)
  · rw [if_neg c78] at h
    refine rn_icmp_ne_t i158_78 c78 ?_
    exact rn_sub [0, 1, 2, 3] rfl (s_Mo_sign_85 hD a0 x1 x2 x4 w r h)
def Mo_sign_65 (a0 : Nat) (x1 : Int) (x2 : Int) (x4 : Int) (w : Wd) : Option (Int × Wd) :=
  if (x2 : Int) = 42 then
    Mo_sign_75 a0 x1 x2 10 w
  else
    Mo_sign_75 a0 x1 x2 x4 w
theorem s_Mo_sign_65 {g : Gp} {l : Launch} {D : Nat} (hD : 1 ≤ D) (a0 : Nat) (x1 : Int) (x2 : Int) (x4 : Int) (w : Wd) (r : Int × Wd) (h : Mo_sign_65 a0 x1 x2 x4 w = some r) : Rn g l D 158 65 [(0, .inr (.inr a0)), (1, .inl x1), (2, .inl x2), (4, .inl x4)] [] w (some (.inl r.1)) r.2 := by
  unfold Mo_sign_65 at h
  refine rn_iload_n i158_65 rfl ?_
  refine rn_bipush i158_66 ?_
  by_cases c68 : (x2 : Int) = 42
  · rw [if_pos c68] at h
    refine rn_icmp_ne_f i158_68 c68 ?_
    refine rn_bipush i158_71 ?_
    refine rn_istore (ls1 := [(4, .inl 10), (0, .inr (.inr a0)), (1, .inl x1), (2, .inl x2)]) i158_73 rfl ?_
    exact rn_sub [1, 2, 3, 0] rfl (s_Mo_sign_75 hD a0 x1 x2 10 w r h)
  · rw [if_neg c68] at h
    refine rn_icmp_ne_t i158_68 c68 ?_
    exact rn_sub [0, 1, 2, 3] rfl (s_Mo_sign_75 hD a0 x1 x2 x4 w r h)
def Mo_sign_55 (a0 : Nat) (x1 : Int) (x2 : Int) (x4 : Int) (w : Wd) : Option (Int × Wd) :=
  if (x2 : Int) = 45 then
    Mo_sign_65 a0 x1 x2 9 w
  else
    Mo_sign_65 a0 x1 x2 x4 w
theorem s_Mo_sign_55 {g : Gp} {l : Launch} {D : Nat} (hD : 1 ≤ D) (a0 : Nat) (x1 : Int) (x2 : Int) (x4 : Int) (w : Wd) (r : Int × Wd) (h : Mo_sign_55 a0 x1 x2 x4 w = some r) : Rn g l D 158 55 [(0, .inr (.inr a0)), (1, .inl x1), (2, .inl x2), (4, .inl x4)] [] w (some (.inl r.1)) r.2 := by
  unfold Mo_sign_55 at h
  refine rn_iload_n i158_55 rfl ?_
  refine rn_bipush i158_56 ?_
  by_cases c58 : (x2 : Int) = 45
  · rw [if_pos c58] at h
    refine rn_icmp_ne_f i158_58 c58 ?_
    refine rn_bipush i158_61 ?_
    refine rn_istore (ls1 := [(4, .inl 9), (0, .inr (.inr a0)), (1, .inl x1), (2, .inl x2)]) i158_63 rfl ?_
    exact rn_sub [1, 2, 3, 0] rfl (s_Mo_sign_65 hD a0 x1 x2 9 w r h)
  · rw [if_neg c58] at h
    refine rn_icmp_ne_t i158_58 c58 ?_
    exact rn_sub [0, 1, 2, 3] rfl (s_Mo_sign_65 hD a0 x1 x2 x4 w r h)
def Mo_sign_43 (a0 : Nat) (x1 : Int) (x2 : Int) (s0 : Int) (w : Wd) : Option (Int × Wd) :=
  if (x2 : Int) = 43 then
    Mo_sign_55 a0 x1 x2 8 w
  else
    Mo_sign_55 a0 x1 x2 s0 w
theorem s_Mo_sign_43 {g : Gp} {l : Launch} {D : Nat} (hD : 1 ≤ D) (a0 : Nat) (x1 : Int) (x2 : Int) (s0 : Int) (w : Wd) (r : Int × Wd) (h : Mo_sign_43 a0 x1 x2 s0 w = some r) : Rn g l D 158 43 [(0, .inr (.inr a0)), (1, .inl x1), (2, .inl x2)] [.inl s0] w (some (.inl r.1)) r.2 := by
  unfold Mo_sign_43 at h
  refine rn_istore (ls1 := [(4, .inl s0), (0, .inr (.inr a0)), (1, .inl x1), (2, .inl x2)]) i158_43 rfl ?_
  refine rn_iload_n i158_45 rfl ?_
  refine rn_bipush i158_46 ?_
  by_cases c48 : (x2 : Int) = 43
  · rw [if_pos c48] at h
    refine rn_icmp_ne_f i158_48 c48 ?_
    refine rn_bipush i158_51 ?_
    refine rn_istore (ls1 := [(4, .inl 8), (0, .inr (.inr a0)), (1, .inl x1), (2, .inl x2)]) i158_53 rfl ?_
    exact rn_sub [1, 2, 3, 0] rfl (s_Mo_sign_55 hD a0 x1 x2 8 w r h)
  · rw [if_neg c48] at h
    refine rn_icmp_ne_t i158_48 c48 ?_
    exact rn_sub [1, 2, 3, 0] rfl (s_Mo_sign_55 hD a0 x1 x2 s0 w r h)
def Mo_sign_0 (a0 : Nat) (x1 : Int) (x2 : Int) (w : Wd) : Option (Int × Wd) :=
  if (x2 : Int) = 59 then
    Mo_sign_43 a0 x1 x2 4 w
  else
    if (x2 : Int) = 61 then
      Mo_sign_43 a0 x1 x2 5 w
    else
      if (x2 : Int) = 40 then
        Mo_sign_43 a0 x1 x2 6 w
      else
        if (x2 : Int) = 41 then
          Mo_sign_43 a0 x1 x2 7 w
        else
          Mo_sign_43 a0 x1 x2 3 w
theorem s_Mo_sign_0 {g : Gp} {l : Launch} {D : Nat} (hD : 1 ≤ D) (a0 : Nat) (x1 : Int) (x2 : Int) (w : Wd) (r : Int × Wd) (h : Mo_sign_0 a0 x1 x2 w = some r) : Rn g l D 158 0 [(0, .inr (.inr a0)), (1, .inl x1), (2, .inl x2)] [] w (some (.inl r.1)) r.2 := by
  unfold Mo_sign_0 at h
  refine rn_iload_n i158_0 rfl ?_
  refine rn_bipush i158_1 ?_
  by_cases c3 : (x2 : Int) = 59
  · rw [if_pos c3] at h
    refine rn_icmp_ne_f i158_3 c3 ?_
    refine rn_iconst i158_6 ?_
    refine rn_goto i158_7 ?_
    exact rn_sub [0, 1, 2] rfl (s_Mo_sign_43 hD a0 x1 x2 4 w r h)
  · rw [if_neg c3] at h
    refine rn_icmp_ne_t i158_3 c3 ?_
    refine rn_iload_n i158_10 rfl ?_
    refine rn_bipush i158_11 ?_
    by_cases c13 : (x2 : Int) = 61
    · rw [if_pos c13] at h
      refine rn_icmp_ne_f i158_13 c13 ?_
      refine rn_iconst i158_16 ?_
      refine rn_goto i158_17 ?_
      exact rn_sub [0, 1, 2] rfl (s_Mo_sign_43 hD a0 x1 x2 5 w r h)
    · rw [if_neg c13] at h
      refine rn_icmp_ne_t i158_13 c13 ?_
      refine rn_iload_n i158_20 rfl ?_
      refine rn_bipush i158_21 ?_
      by_cases c23 : (x2 : Int) = 40
      · rw [if_pos c23] at h
        refine rn_icmp_ne_f i158_23 c23 ?_
        refine rn_bipush i158_26 ?_
        refine rn_goto i158_28 ?_
        exact rn_sub [0, 1, 2] rfl (s_Mo_sign_43 hD a0 x1 x2 6 w r h)
      · rw [if_neg c23] at h
        refine rn_icmp_ne_t i158_23 c23 ?_
        refine rn_iload_n i158_31 rfl ?_
        refine rn_bipush i158_32 ?_
        by_cases c34 : (x2 : Int) = 41
        · rw [if_pos c34] at h
          refine rn_icmp_ne_f i158_34 c34 ?_
          refine rn_bipush i158_37 ?_
          refine rn_goto i158_39 ?_
          exact rn_sub [0, 1, 2] rfl (s_Mo_sign_43 hD a0 x1 x2 7 w r h)
        · rw [if_neg c34] at h
          refine rn_icmp_ne_t i158_34 c34 ?_
          refine rn_iconst i158_42 ?_
          exact rn_sub [0, 1, 2] rfl (s_Mo_sign_43 hD a0 x1 x2 3 w r h)
/-- HandHeirsModel.sign(III)I -/
def Mo_sign (a0 : Nat) (x1 : Int) (x2 : Int) (x3 : Int) (w : Wd) : Option (Int × Wd) := gd 12 w a0 (Mo_sign_0 a0 x1 x2 w)
theorem S_Mo_sign {g : Gp} {l : Launch} (a0 : Nat) (x1 : Int) (x2 : Int) (x3 : Int) (w : Wd) (r : Int × Wd) (h : Mo_sign a0 x1 x2 x3 w = some r) : (wsh w a0).1 = 12 ∧ ∀ D, 1 ≤ D → Rn g l D 158 0 [(0, .inr (.inr a0)), (1, .inl x1), (2, .inl x2), (3, .inl x3)] [] w (some (.inl r.1)) r.2 := by
  obtain ⟨hg, h⟩ := gd_some h
  exact ⟨hg, fun D hD => rn_sub [0, 1, 2] rfl (s_Mo_sign_0 hD a0 x1 x2 w r h)⟩
def Mo_cut_31 (a0 : Nat) (w : Wd) : Option (Wd) :=
  (fgI w a0 12 4).bind fun v34 =>
  (Mo_token a0 0 v34 0 0 w).bind fun r39 =>
  some r39
theorem s_Mo_cut_31 {g : Gp} {l : Launch} {D : Nat} (hD : 2 ≤ D) (a0 : Nat) (w : Wd) (r : Wd) (h : Mo_cut_31 a0 w = some r) : Rn g l D 157 31 [(0, .inr (.inr a0))] [] w none r := by
  obtain ⟨D, rfl⟩ : ∃ D1, D = D1 + 1 := ⟨D - 1, by omega⟩
  unfold Mo_cut_31 at h
  refine fr_aload_n i157_31 rfl ?_
  refine rn_iconst i157_32 ?_
  refine fr_aload_n i157_33 rfl ?_
  obtain ⟨v34, h34, h⟩ := Option.bind_eq_some_iff.mp h
  refine fr_gI (k := 4) i157_34 tf12_4 h34 ?_
  refine rn_iconst i157_37 ?_
  refine fr_lconst0 i157_38 ?_
  obtain ⟨r39, h39, h⟩ := Option.bind_eq_some_iff.mp h
  obtain ⟨g39, c39⟩ := S_Mo_token a0 0 v34 0 0 w r39 h39
  refine fr_callV (a := a0) (As := [.inl 0, .inl v34, .inl 0, .inr (.inl 0)]) (st := []) i157_39 (cq156 a0 0 v34 0 0) rfl (Nat.le_of_ble_eq_true rfl) g39 (c39 _ (by omega)) ?_
  obtain rfl := Option.some.inj h
  exact rn_ret i157_42 mr157
def Mo_cut_291 (k7 : Nat → Int → Wd → Option (Wd)) (a0 : Nat) (x1 : Int) (w : Wd) : Option (Wd) :=
  k7 a0 x1 w
theorem s_Mo_cut_291 {g : Gp} {l : Launch} {D : Nat} (hD : 2 ≤ D) (k7 : Nat → Int → Wd → Option (Wd)) (hk7 : ∀ (a0 : Nat) (x1 : Int) (w : Wd) (r : Wd), k7 a0 x1 w = some r → Rn g l D 157 7 [(0, .inr (.inr a0)), (1, .inl x1)] [] w none r) (a0 : Nat) (x1 : Int) (w : Wd) (r : Wd) (h : Mo_cut_291 k7 a0 x1 w = some r) : Rn g l D 157 291 [(0, .inr (.inr a0)), (1, .inl x1)] [] w none r := by
  unfold Mo_cut_291 at h
  refine rn_goto i157_291 ?_
  exact rn_sub [0, 1] rfl (hk7 a0 x1 w r h)
def Mo_cut_67 (k7 : Nat → Int → Wd → Option (Wd)) (a0 : Nat) (x1 : Int) (w : Wd) : Option (Wd) :=
  Mo_cut_291 k7 a0 (w32 (x1 + 1)) w
theorem s_Mo_cut_67 {g : Gp} {l : Launch} {D : Nat} (hD : 2 ≤ D) (k7 : Nat → Int → Wd → Option (Wd)) (hk7 : ∀ (a0 : Nat) (x1 : Int) (w : Wd) (r : Wd), k7 a0 x1 w = some r → Rn g l D 157 7 [(0, .inr (.inr a0)), (1, .inl x1)] [] w none r) (a0 : Nat) (x1 : Int) (w : Wd) (r : Wd) (h : Mo_cut_67 k7 a0 x1 w = some r) : Rn g l D 157 67 [(0, .inr (.inr a0)), (1, .inl x1)] [] w none r := by
  unfold Mo_cut_67 at h
  refine rn_iinc (ls1 := [(1, .inl (w32 (x1 + 1))), (0, .inr (.inr a0))]) i157_67 rfl rfl ?_
  refine rn_goto i157_70 ?_
  exact rn_sub [1, 0] rfl (s_Mo_cut_291 hD k7 hk7 a0 (w32 (x1 + 1)) w r h)
def Mo_cut_118 (k7 : Nat → Int → Wd → Option (Wd)) (k85 : Nat → Int → Int → Int → Wd → Option (Wd)) (a0 : Nat) (x1 : Int) (x3 : Int) (x4 : Int) (w : Wd) : Option (Wd) :=
  k85 a0 x1 (w32 (x3 + 1)) x4 w
theorem s_Mo_cut_118 {g : Gp} {l : Launch} {D : Nat} (hD : 2 ≤ D) (k7 : Nat → Int → Wd → Option (Wd)) (hk7 : ∀ (a0 : Nat) (x1 : Int) (w : Wd) (r : Wd), k7 a0 x1 w = some r → Rn g l D 157 7 [(0, .inr (.inr a0)), (1, .inl x1)] [] w none r) (k85 : Nat → Int → Int → Int → Wd → Option (Wd)) (hk85 : ∀ (a0 : Nat) (x1 : Int) (x3 : Int) (x4 : Int) (w : Wd) (r : Wd), k85 a0 x1 x3 x4 w = some r → Rn g l D 157 85 [(0, .inr (.inr a0)), (1, .inl x1), (3, .inl x3), (4, .inr (.inl x4))] [] w none r) (a0 : Nat) (x1 : Int) (x3 : Int) (x4 : Int) (w : Wd) (r : Wd) (h : Mo_cut_118 k7 k85 a0 x1 x3 x4 w = some r) : Rn g l D 157 118 [(0, .inr (.inr a0)), (1, .inl x1), (3, .inl x3), (4, .inr (.inl x4))] [] w none r := by
  unfold Mo_cut_118 at h
  refine rn_iinc (ls1 := [(3, .inl (w32 (x3 + 1))), (0, .inr (.inr a0)), (1, .inl x1), (4, .inr (.inl x4))]) i157_118 rfl rfl ?_
  refine rn_goto i157_121 ?_
  exact rn_sub [1, 2, 0, 3] rfl (hk85 a0 x1 (w32 (x3 + 1)) x4 w r h)
def Mo_cut_173 (k7 : Nat → Int → Wd → Option (Wd)) (k146 : Nat → Int → Int → Int → Int → Int → Wd → Option (Wd)) (a0 : Nat) (x1 : Int) (x3 : Int) (x4 : Int) (x6 : Int) (x7 : Int) (w : Wd) : Option (Wd) :=
  k146 a0 x1 x3 x4 x6 (w32 (x7 + 1)) w
theorem s_Mo_cut_173 {g : Gp} {l : Launch} {D : Nat} (hD : 2 ≤ D) (k7 : Nat → Int → Wd → Option (Wd)) (hk7 : ∀ (a0 : Nat) (x1 : Int) (w : Wd) (r : Wd), k7 a0 x1 w = some r → Rn g l D 157 7 [(0, .inr (.inr a0)), (1, .inl x1)] [] w none r) (k146 : Nat → Int → Int → Int → Int → Int → Wd → Option (Wd)) (hk146 : ∀ (a0 : Nat) (x1 : Int) (x3 : Int) (x4 : Int) (x6 : Int) (x7 : Int) (w : Wd) (r : Wd), k146 a0 x1 x3 x4 x6 x7 w = some r → Rn g l D 157 146 [(0, .inr (.inr a0)), (1, .inl x1), (3, .inl x3), (4, .inr (.inl x4)), (6, .inl x6), (7, .inl x7)] [] w none r) (a0 : Nat) (x1 : Int) (x3 : Int) (x4 : Int) (x6 : Int) (x7 : Int) (w : Wd) (r : Wd) (h : Mo_cut_173 k7 k146 a0 x1 x3 x4 x6 x7 w = some r) : Rn g l D 157 173 [(0, .inr (.inr a0)), (1, .inl x1), (3, .inl x3), (4, .inr (.inl x4)), (6, .inl x6), (7, .inl x7)] [] w none r := by
  unfold Mo_cut_173 at h
  refine rn_iinc (ls1 := [(7, .inl (w32 (x7 + 1))), (0, .inr (.inr a0)), (1, .inl x1), (3, .inl x3), (4, .inr (.inl x4)), (6, .inl x6)]) i157_173 rfl rfl ?_
  refine rn_goto i157_176 ?_
  exact rn_sub [1, 2, 3, 4, 5, 0] rfl (hk146 a0 x1 x3 x4 x6 (w32 (x7 + 1)) w r h)
def Mo_cut_179 (k7 : Nat → Int → Wd → Option (Wd)) (a0 : Nat) (x1 : Int) (x3 : Int) (x4 : Int) (x6 : Int) (w : Wd) : Option (Wd) :=
  (Mo_token a0 x6 x1 0 x4 w).bind fun r186 =>
  Mo_cut_291 k7 a0 (w32 (x1 + x3)) r186
theorem s_Mo_cut_179 {g : Gp} {l : Launch} {D : Nat} (hD : 2 ≤ D) (k7 : Nat → Int → Wd → Option (Wd)) (hk7 : ∀ (a0 : Nat) (x1 : Int) (w : Wd) (r : Wd), k7 a0 x1 w = some r → Rn g l D 157 7 [(0, .inr (.inr a0)), (1, .inl x1)] [] w none r) (a0 : Nat) (x1 : Int) (x3 : Int) (x4 : Int) (x6 : Int) (w : Wd) (r : Wd) (h : Mo_cut_179 k7 a0 x1 x3 x4 x6 w = some r) : Rn g l D 157 179 [(0, .inr (.inr a0)), (1, .inl x1), (3, .inl x3), (4, .inr (.inl x4)), (6, .inl x6)] [] w none r := by
  obtain ⟨D, rfl⟩ : ∃ D1, D = D1 + 1 := ⟨D - 1, by omega⟩
  unfold Mo_cut_179 at h
  refine fr_aload_n i157_179 rfl ?_
  refine rn_iload i157_180 rfl ?_
  refine rn_iload_n i157_182 rfl ?_
  refine rn_iconst i157_183 ?_
  refine rn_lload i157_184 rfl ?_
  obtain ⟨r186, h186, h⟩ := Option.bind_eq_some_iff.mp h
  obtain ⟨g186, c186⟩ := S_Mo_token a0 x6 x1 0 x4 w r186 h186
  refine fr_callV (a := a0) (As := [.inl x6, .inl x1, .inl 0, .inr (.inl x4)]) (st := []) i157_186 (cq156 a0 x6 x1 0 x4) rfl (Nat.le_of_ble_eq_true rfl) g186 (c186 _ (by omega)) ?_
  refine rn_iload_n i157_189 rfl ?_
  refine rn_iload_n i157_190 rfl ?_
  refine rn_iadd i157_191 ?_
  refine rn_istore_n (ls1 := [(1, .inl (w32 (x1 + x3))), (0, .inr (.inr a0)), (3, .inl x3), (4, .inr (.inl x4)), (6, .inl x6)]) i157_192 rfl ?_
  refine rn_goto i157_193 ?_
  exact rn_sub [1, 0] rfl (s_Mo_cut_291 hD k7 hk7 a0 (w32 (x1 + x3)) r186 r h)
def Mo_cut_146 (k7 : Nat → Int → Wd → Option (Wd)) : Nat → Nat → Int → Int → Int → Int → Int → Wd → Option (Wd)
  | 0, _, _, _, _, _, _, _ => none
  | n + 1, a0, x1, x3, x4, x6, x7, w =>
    if (17 : Int) ≤ x7 then
      Mo_cut_179 k7 a0 x1 x3 x4 x6 w
    else
      (fgR w a0 12 9).bind fun v154 =>
      (rdL w v154 x7).bind fun v159 =>
      if ((ocmp v159 x4) : Int) = 0 then
        Mo_cut_173 k7 (Mo_cut_146 k7 n) a0 x1 x3 x4 (w32 (20 + x7)) x7 w
      else
        Mo_cut_173 k7 (Mo_cut_146 k7 n) a0 x1 x3 x4 x6 x7 w
theorem s_Mo_cut_146 {g : Gp} {l : Launch} {D : Nat} (hD : 2 ≤ D) (k7 : Nat → Int → Wd → Option (Wd)) (hk7 : ∀ (a0 : Nat) (x1 : Int) (w : Wd) (r : Wd), k7 a0 x1 w = some r → Rn g l D 157 7 [(0, .inr (.inr a0)), (1, .inl x1)] [] w none r) : ∀ (n : Nat) (a0 : Nat) (x1 : Int) (x3 : Int) (x4 : Int) (x6 : Int) (x7 : Int) (w : Wd) (r : Wd), Mo_cut_146 k7 n a0 x1 x3 x4 x6 x7 w = some r → Rn g l D 157 146 [(0, .inr (.inr a0)), (1, .inl x1), (3, .inl x3), (4, .inr (.inl x4)), (6, .inl x6), (7, .inl x7)] [] w none r := by
  intro n
  induction n with
  | zero => intro a0 x1 x3 x4 x6 x7 w r h; cases (show (none : Option (Wd)) = some r from h)
  | succ n ih =>
    intro a0 x1 x3 x4 x6 x7 w r h
    unfold Mo_cut_146 at h
    refine rn_iload i157_146 rfl ?_
    refine rn_bipush i157_148 ?_
    by_cases c150 : (17 : Int) ≤ x7
    · rw [if_pos c150] at h
      refine rn_icmp_ge_t i157_150 c150 ?_
      exact rn_sub [0, 1, 2, 3, 4] rfl (s_Mo_cut_179 hD k7 hk7 a0 x1 x3 x4 x6 w r h)
    · rw [if_neg c150] at h
      refine rn_icmp_ge_f i157_150 c150 ?_
      refine fr_aload_n i157_153 rfl ?_
      obtain ⟨v154, h154, h⟩ := Option.bind_eq_some_iff.mp h
      refine fr_gR (k := 9) i157_154 tf12_9 h154 ?_
      refine rn_iload i157_157 rfl ?_
      obtain ⟨v159, h159, h⟩ := Option.bind_eq_some_iff.mp h
      refine rn_lald i157_159 h159 ?_
      refine rn_lload i157_160 rfl ?_
      refine rn_lcmp i157_162 ?_
      by_cases c163 : ((ocmp v159 x4) : Int) = 0
      · rw [if_pos c163] at h
        refine rn_if_ne_f i157_163 c163 ?_
        refine rn_bipush i157_166 ?_
        refine rn_iload i157_168 rfl ?_
        refine rn_iadd i157_170 ?_
        refine rn_istore (ls1 := [(6, .inl (w32 (20 + x7))), (0, .inr (.inr a0)), (1, .inl x1), (3, .inl x3), (4, .inr (.inl x4)), (7, .inl x7)]) i157_171 rfl ?_
        exact rn_sub [1, 2, 3, 4, 0, 5] rfl (s_Mo_cut_173 hD k7 hk7 (Mo_cut_146 k7 n) ih a0 x1 x3 x4 (w32 (20 + x7)) x7 w r h)
      · rw [if_neg c163] at h
        refine rn_if_ne_t i157_163 c163 ?_
        exact rn_sub [0, 1, 2, 3, 4, 5] rfl (s_Mo_cut_173 hD k7 hk7 (Mo_cut_146 k7 n) ih a0 x1 x3 x4 x6 x7 w r h)
def Mo_cut_135 (k7 : Nat → Int → Wd → Option (Wd)) (a0 : Nat) (x1 : Int) (x3 : Int) (x4 : Int) (s0 : Int) (w : Wd) : Option (Wd) :=
  if (7 : Int) < x3 then
    Mo_cut_179 k7 a0 x1 x3 x4 s0 w
  else
    Mo_cut_146 k7 FU a0 x1 x3 x4 s0 0 w
theorem s_Mo_cut_135 {g : Gp} {l : Launch} {D : Nat} (hD : 2 ≤ D) (k7 : Nat → Int → Wd → Option (Wd)) (hk7 : ∀ (a0 : Nat) (x1 : Int) (w : Wd) (r : Wd), k7 a0 x1 w = some r → Rn g l D 157 7 [(0, .inr (.inr a0)), (1, .inl x1)] [] w none r) (a0 : Nat) (x1 : Int) (x3 : Int) (x4 : Int) (s0 : Int) (w : Wd) (r : Wd) (h : Mo_cut_135 k7 a0 x1 x3 x4 s0 w = some r) : Rn g l D 157 135 [(0, .inr (.inr a0)), (1, .inl x1), (3, .inl x3), (4, .inr (.inl x4))] [.inl s0] w none r := by
  unfold Mo_cut_135 at h
  refine rn_istore (ls1 := [(6, .inl s0), (0, .inr (.inr a0)), (1, .inl x1), (3, .inl x3), (4, .inr (.inl x4))]) i157_135 rfl ?_
  refine rn_iload_n i157_137 rfl ?_
  refine rn_bipush i157_138 ?_
  by_cases c140 : (7 : Int) < x3
  · rw [if_pos c140] at h
    refine rn_icmp_gt_t i157_140 c140 ?_
    exact rn_sub [1, 2, 3, 4, 0] rfl (s_Mo_cut_179 hD k7 hk7 a0 x1 x3 x4 s0 w r h)
  · rw [if_neg c140] at h
    refine rn_icmp_gt_f i157_140 c140 ?_
    refine rn_iconst i157_143 ?_
    refine rn_istore (ls1 := [(7, .inl 0), (6, .inl s0), (0, .inr (.inr a0)), (1, .inl x1), (3, .inl x3), (4, .inr (.inl x4))]) i157_144 rfl ?_
    exact rn_sub [2, 3, 4, 5, 1, 0] rfl (s_Mo_cut_146 hD k7 hk7 FU a0 x1 x3 x4 s0 0 w r h)
def Mo_cut_124 (k7 : Nat → Int → Wd → Option (Wd)) (a0 : Nat) (x1 : Int) (x3 : Int) (x4 : Int) (w : Wd) : Option (Wd) :=
  if (x3 : Int) ≤ 8 then
    Mo_cut_135 k7 a0 x1 x3 x4 1 w
  else
    Mo_cut_135 k7 a0 x1 x3 x4 3 w
theorem s_Mo_cut_124 {g : Gp} {l : Launch} {D : Nat} (hD : 2 ≤ D) (k7 : Nat → Int → Wd → Option (Wd)) (hk7 : ∀ (a0 : Nat) (x1 : Int) (w : Wd) (r : Wd), k7 a0 x1 w = some r → Rn g l D 157 7 [(0, .inr (.inr a0)), (1, .inl x1)] [] w none r) (a0 : Nat) (x1 : Int) (x3 : Int) (x4 : Int) (w : Wd) (r : Wd) (h : Mo_cut_124 k7 a0 x1 x3 x4 w = some r) : Rn g l D 157 124 [(0, .inr (.inr a0)), (1, .inl x1), (3, .inl x3), (4, .inr (.inl x4))] [] w none r := by
  unfold Mo_cut_124 at h
  refine rn_iload_n i157_124 rfl ?_
  refine rn_bipush i157_125 ?_
  by_cases c127 : (x3 : Int) ≤ 8
  · rw [if_pos c127] at h
    refine rn_icmp_le_t i157_127 c127 ?_
    refine rn_iconst i157_134 ?_
    exact rn_sub [0, 1, 2, 3] rfl (s_Mo_cut_135 hD k7 hk7 a0 x1 x3 x4 1 w r h)
  · rw [if_neg c127] at h
    refine rn_icmp_le_f i157_127 c127 ?_
    refine rn_iconst i157_130 ?_
    refine rn_goto i157_131 ?_
    exact rn_sub [0, 1, 2, 3] rfl (s_Mo_cut_135 hD k7 hk7 a0 x1 x3 x4 3 w r h)
def Mo_cut_85 (k7 : Nat → Int → Wd → Option (Wd)) : Nat → Nat → Int → Int → Int → Wd → Option (Wd)
  | 0, _, _, _, _, _ => none
  | n + 1, a0, x1, x3, x4, w =>
    (Mo_byteAt a0 (w32 (x1 + x3)) w).bind fun r89 =>
    (Mo_isLetter (r89.1) r89.2).bind fun r92 =>
    if (r92.1 : Int) = 0 then
      Mo_cut_124 k7 a0 x1 x3 x4 r92.2
    else
      if (8 : Int) ≤ x3 then
        Mo_cut_118 k7 (Mo_cut_85 k7 n) a0 x1 x3 x4 r92.2
      else
        (Mo_byteAt a0 (w32 (x1 + x3)) r92.2).bind fun r110 =>
        (Mo_appends x4 (r110.1) r110.2).bind fun r113 =>
        Mo_cut_118 k7 (Mo_cut_85 k7 n) a0 x1 x3 r113.1 r113.2
theorem s_Mo_cut_85 {g : Gp} {l : Launch} {D : Nat} (hD : 2 ≤ D) (k7 : Nat → Int → Wd → Option (Wd)) (hk7 : ∀ (a0 : Nat) (x1 : Int) (w : Wd) (r : Wd), k7 a0 x1 w = some r → Rn g l D 157 7 [(0, .inr (.inr a0)), (1, .inl x1)] [] w none r) : ∀ (n : Nat) (a0 : Nat) (x1 : Int) (x3 : Int) (x4 : Int) (w : Wd) (r : Wd), Mo_cut_85 k7 n a0 x1 x3 x4 w = some r → Rn g l D 157 85 [(0, .inr (.inr a0)), (1, .inl x1), (3, .inl x3), (4, .inr (.inl x4))] [] w none r := by
  obtain ⟨D, rfl⟩ : ∃ D1, D = D1 + 1 := ⟨D - 1, by omega⟩
  intro n
  induction n with
  | zero => intro a0 x1 x3 x4 w r h; cases (show (none : Option (Wd)) = some r from h)
  | succ n ih =>
    intro a0 x1 x3 x4 w r h
    unfold Mo_cut_85 at h
    refine fr_aload_n i157_85 rfl ?_
    refine rn_iload_n i157_86 rfl ?_
    refine rn_iload_n i157_87 rfl ?_
    refine rn_iadd i157_88 ?_
    obtain ⟨r89, h89, h⟩ := Option.bind_eq_some_iff.mp h
    obtain ⟨g89, c89⟩ := S_Mo_byteAt a0 (w32 (x1 + x3)) w r89 h89
    refine fr_callV (a := a0) (As := [.inl (w32 (x1 + x3))]) (st := []) i157_89 (cq151 a0 (w32 (x1 + x3))) rfl (Nat.le_of_ble_eq_true rfl) g89 (c89 _ (by omega)) ?_
    show Rn _ _ _ _ _ _ [.inl r89.1] _ _ _
    obtain ⟨r92, h92, h⟩ := Option.bind_eq_some_iff.mp h
    refine fr_callS (nst := 0) (As := [.inl r89.1]) (st := []) i157_92 (cq153 (r89.1)) rfl (Nat.le_of_ble_eq_true rfl) (S_Mo_isLetter (r89.1) r89.2 r92 h92 _ (by omega)) ?_
    show Rn _ _ _ _ _ _ [.inl r92.1] _ _ _
    by_cases c95 : (r92.1 : Int) = 0
    · rw [if_pos c95] at h
      refine rn_if_eq_t i157_95 c95 ?_
      exact rn_sub [0, 1, 2, 3] rfl (s_Mo_cut_124 hD k7 hk7 a0 x1 x3 x4 r92.2 r h)
    · rw [if_neg c95] at h
      refine rn_if_eq_f i157_95 c95 ?_
      refine rn_iload_n i157_98 rfl ?_
      refine rn_bipush i157_99 ?_
      by_cases c101 : (8 : Int) ≤ x3
      · rw [if_pos c101] at h
        refine rn_icmp_ge_t i157_101 c101 ?_
        exact rn_sub [0, 1, 2, 3] rfl (s_Mo_cut_118 hD k7 hk7 (Mo_cut_85 k7 n) ih a0 x1 x3 x4 r92.2 r h)
      · rw [if_neg c101] at h
        refine rn_icmp_ge_f i157_101 c101 ?_
        refine rn_lload i157_104 rfl ?_
        refine fr_aload_n i157_106 rfl ?_
        refine rn_iload_n i157_107 rfl ?_
        refine rn_iload_n i157_108 rfl ?_
        refine rn_iadd i157_109 ?_
        obtain ⟨r110, h110, h⟩ := Option.bind_eq_some_iff.mp h
        obtain ⟨g110, c110⟩ := S_Mo_byteAt a0 (w32 (x1 + x3)) r92.2 r110 h110
        refine fr_callV (a := a0) (As := [.inl (w32 (x1 + x3))]) (st := [.inr (.inl x4)]) i157_110 (cq151 a0 (w32 (x1 + x3))) rfl (Nat.le_of_ble_eq_true rfl) g110 (c110 _ (by omega)) ?_
        show Rn _ _ _ _ _ _ [.inl r110.1, .inr (.inl x4)] _ _ _
        obtain ⟨r113, h113, h⟩ := Option.bind_eq_some_iff.mp h
        refine fr_callS (nst := 0) (As := [.inr (.inl x4), .inl r110.1]) (st := []) i157_113 (cq154 x4 (r110.1)) rfl (Nat.le_of_ble_eq_true rfl) (S_Mo_appends x4 (r110.1) r110.2 r113 h113 _ (by omega)) ?_
        show Rn _ _ _ _ _ _ [.inr (.inl r113.1)] _ _ _
        refine rn_lstore (ls1 := [(4, .inr (.inl r113.1)), (0, .inr (.inr a0)), (1, .inl x1), (3, .inl x3)]) i157_116 rfl ?_
        exact rn_sub [1, 2, 3, 0] rfl (s_Mo_cut_118 hD k7 hk7 (Mo_cut_85 k7 n) ih a0 x1 x3 r113.1 r113.2 r h)
def Mo_cut_244 (k7 : Nat → Int → Wd → Option (Wd)) (k208 : Nat → Int → Int → Int → Wd → Option (Wd)) (a0 : Nat) (x1 : Int) (x3 : Int) (x4 : Int) (w : Wd) : Option (Wd) :=
  k208 a0 x1 (w32 (x3 + 1)) x4 w
theorem s_Mo_cut_244 {g : Gp} {l : Launch} {D : Nat} (hD : 2 ≤ D) (k7 : Nat → Int → Wd → Option (Wd)) (hk7 : ∀ (a0 : Nat) (x1 : Int) (w : Wd) (r : Wd), k7 a0 x1 w = some r → Rn g l D 157 7 [(0, .inr (.inr a0)), (1, .inl x1)] [] w none r) (k208 : Nat → Int → Int → Int → Wd → Option (Wd)) (hk208 : ∀ (a0 : Nat) (x1 : Int) (x3 : Int) (x4 : Int) (w : Wd) (r : Wd), k208 a0 x1 x3 x4 w = some r → Rn g l D 157 208 [(0, .inr (.inr a0)), (1, .inl x1), (3, .inl x3), (4, .inl x4)] [] w none r) (a0 : Nat) (x1 : Int) (x3 : Int) (x4 : Int) (w : Wd) (r : Wd) (h : Mo_cut_244 k7 k208 a0 x1 x3 x4 w = some r) : Rn g l D 157 244 [(0, .inr (.inr a0)), (1, .inl x1), (3, .inl x3), (4, .inl x4)] [] w none r := by
  unfold Mo_cut_244 at h
  refine rn_iinc (ls1 := [(3, .inl (w32 (x3 + 1))), (0, .inr (.inr a0)), (1, .inl x1), (4, .inl x4)]) i157_244 rfl rfl ?_
  refine rn_goto i157_247 ?_
  exact rn_sub [1, 2, 0, 3] rfl (hk208 a0 x1 (w32 (x3 + 1)) x4 w r h)
def Mo_cut_261 (k7 : Nat → Int → Wd → Option (Wd)) (a0 : Nat) (x1 : Int) (x3 : Int) (x4 : Int) (s0 : Int) (s1 : Nat) (w : Wd) : Option (Wd) :=
  (Mo_token s1 s0 x1 x4 0 w).bind fun r265 =>
  Mo_cut_291 k7 a0 (w32 (x1 + x3)) r265
theorem s_Mo_cut_261 {g : Gp} {l : Launch} {D : Nat} (hD : 2 ≤ D) (k7 : Nat → Int → Wd → Option (Wd)) (hk7 : ∀ (a0 : Nat) (x1 : Int) (w : Wd) (r : Wd), k7 a0 x1 w = some r → Rn g l D 157 7 [(0, .inr (.inr a0)), (1, .inl x1)] [] w none r) (a0 : Nat) (x1 : Int) (x3 : Int) (x4 : Int) (s0 : Int) (s1 : Nat) (w : Wd) (r : Wd) (h : Mo_cut_261 k7 a0 x1 x3 x4 s0 s1 w = some r) : Rn g l D 157 261 [(0, .inr (.inr a0)), (1, .inl x1), (3, .inl x3), (4, .inl x4)] [.inl s0, .inr (.inr s1)] w none r := by
  obtain ⟨D, rfl⟩ : ∃ D1, D = D1 + 1 := ⟨D - 1, by omega⟩
  unfold Mo_cut_261 at h
  refine rn_iload_n i157_261 rfl ?_
  refine rn_iload i157_262 rfl ?_
  refine fr_lconst0 i157_264 ?_
  obtain ⟨r265, h265, h⟩ := Option.bind_eq_some_iff.mp h
  obtain ⟨g265, c265⟩ := S_Mo_token s1 s0 x1 x4 0 w r265 h265
  refine fr_callV (a := s1) (As := [.inl s0, .inl x1, .inl x4, .inr (.inl 0)]) (st := []) i157_265 (cq156 s1 s0 x1 x4 0) rfl (Nat.le_of_ble_eq_true rfl) g265 (c265 _ (by omega)) ?_
  refine rn_iload_n i157_268 rfl ?_
  refine rn_iload_n i157_269 rfl ?_
  refine rn_iadd i157_270 ?_
  refine rn_istore_n (ls1 := [(1, .inl (w32 (x1 + x3))), (0, .inr (.inr a0)), (3, .inl x3), (4, .inl x4)]) i157_271 rfl ?_
  refine rn_goto i157_272 ?_
  exact rn_sub [1, 0] rfl (s_Mo_cut_291 hD k7 hk7 a0 (w32 (x1 + x3)) r265 r h)
def Mo_cut_250 (k7 : Nat → Int → Wd → Option (Wd)) (a0 : Nat) (x1 : Int) (x3 : Int) (x4 : Int) (w : Wd) : Option (Wd) :=
  if (x3 : Int) ≤ 4 then
    Mo_cut_261 k7 a0 x1 x3 x4 2 a0 w
  else
    Mo_cut_261 k7 a0 x1 x3 x4 3 a0 w
theorem s_Mo_cut_250 {g : Gp} {l : Launch} {D : Nat} (hD : 2 ≤ D) (k7 : Nat → Int → Wd → Option (Wd)) (hk7 : ∀ (a0 : Nat) (x1 : Int) (w : Wd) (r : Wd), k7 a0 x1 w = some r → Rn g l D 157 7 [(0, .inr (.inr a0)), (1, .inl x1)] [] w none r) (a0 : Nat) (x1 : Int) (x3 : Int) (x4 : Int) (w : Wd) (r : Wd) (h : Mo_cut_250 k7 a0 x1 x3 x4 w = some r) : Rn g l D 157 250 [(0, .inr (.inr a0)), (1, .inl x1), (3, .inl x3), (4, .inl x4)] [] w none r := by
  unfold Mo_cut_250 at h
  refine fr_aload_n i157_250 rfl ?_
  refine rn_iload_n i157_251 rfl ?_
  refine rn_iconst i157_252 ?_
  by_cases c253 : (x3 : Int) ≤ 4
  · rw [if_pos c253] at h
    refine rn_icmp_le_t i157_253 c253 ?_
    refine rn_iconst i157_260 ?_
    exact rn_sub [0, 1, 2, 3] rfl (s_Mo_cut_261 hD k7 hk7 a0 x1 x3 x4 2 a0 w r h)
  · rw [if_neg c253] at h
    refine rn_icmp_le_f i157_253 c253 ?_
    refine rn_iconst i157_256 ?_
    refine rn_goto i157_257 ?_
    exact rn_sub [0, 1, 2, 3] rfl (s_Mo_cut_261 hD k7 hk7 a0 x1 x3 x4 3 a0 w r h)
def Mo_cut_208 (k7 : Nat → Int → Wd → Option (Wd)) : Nat → Nat → Int → Int → Int → Wd → Option (Wd)
  | 0, _, _, _, _, _ => none
  | n + 1, a0, x1, x3, x4, w =>
    (Mo_byteAt a0 (w32 (x1 + x3)) w).bind fun r212 =>
    (Mo_isDigit (r212.1) r212.2).bind fun r215 =>
    if (r215.1 : Int) = 0 then
      Mo_cut_250 k7 a0 x1 x3 x4 r215.2
    else
      if (4 : Int) ≤ x3 then
        Mo_cut_244 k7 (Mo_cut_208 k7 n) a0 x1 x3 x4 r215.2
      else
        (Mo_byteAt a0 (w32 (x1 + x3)) r215.2).bind fun r235 =>
        Mo_cut_244 k7 (Mo_cut_208 k7 n) a0 x1 x3 (w32 ((w32 ((w32 (10 * x4)) + r235.1)) - 48)) r235.2
theorem s_Mo_cut_208 {g : Gp} {l : Launch} {D : Nat} (hD : 2 ≤ D) (k7 : Nat → Int → Wd → Option (Wd)) (hk7 : ∀ (a0 : Nat) (x1 : Int) (w : Wd) (r : Wd), k7 a0 x1 w = some r → Rn g l D 157 7 [(0, .inr (.inr a0)), (1, .inl x1)] [] w none r) : ∀ (n : Nat) (a0 : Nat) (x1 : Int) (x3 : Int) (x4 : Int) (w : Wd) (r : Wd), Mo_cut_208 k7 n a0 x1 x3 x4 w = some r → Rn g l D 157 208 [(0, .inr (.inr a0)), (1, .inl x1), (3, .inl x3), (4, .inl x4)] [] w none r := by
  obtain ⟨D, rfl⟩ : ∃ D1, D = D1 + 1 := ⟨D - 1, by omega⟩
  intro n
  induction n with
  | zero => intro a0 x1 x3 x4 w r h; cases (show (none : Option (Wd)) = some r from h)
  | succ n ih =>
    intro a0 x1 x3 x4 w r h
    unfold Mo_cut_208 at h
    refine fr_aload_n i157_208 rfl ?_
    refine rn_iload_n i157_209 rfl ?_
    refine rn_iload_n i157_210 rfl ?_
    refine rn_iadd i157_211 ?_
    obtain ⟨r212, h212, h⟩ := Option.bind_eq_some_iff.mp h
    obtain ⟨g212, c212⟩ := S_Mo_byteAt a0 (w32 (x1 + x3)) w r212 h212
    refine fr_callV (a := a0) (As := [.inl (w32 (x1 + x3))]) (st := []) i157_212 (cq151 a0 (w32 (x1 + x3))) rfl (Nat.le_of_ble_eq_true rfl) g212 (c212 _ (by omega)) ?_
    show Rn _ _ _ _ _ _ [.inl r212.1] _ _ _
    obtain ⟨r215, h215, h⟩ := Option.bind_eq_some_iff.mp h
    refine fr_callS (nst := 0) (As := [.inl r212.1]) (st := []) i157_215 (cq152 (r212.1)) rfl (Nat.le_of_ble_eq_true rfl) (S_Mo_isDigit (r212.1) r212.2 r215 h215 _ (by omega)) ?_
    show Rn _ _ _ _ _ _ [.inl r215.1] _ _ _
    by_cases c218 : (r215.1 : Int) = 0
    · rw [if_pos c218] at h
      refine rn_if_eq_t i157_218 c218 ?_
      exact rn_sub [0, 1, 2, 3] rfl (s_Mo_cut_250 hD k7 hk7 a0 x1 x3 x4 r215.2 r h)
    · rw [if_neg c218] at h
      refine rn_if_eq_f i157_218 c218 ?_
      refine rn_iload_n i157_221 rfl ?_
      refine rn_iconst i157_222 ?_
      by_cases c223 : (4 : Int) ≤ x3
      · rw [if_pos c223] at h
        refine rn_icmp_ge_t i157_223 c223 ?_
        exact rn_sub [0, 1, 2, 3] rfl (s_Mo_cut_244 hD k7 hk7 (Mo_cut_208 k7 n) ih a0 x1 x3 x4 r215.2 r h)
      · rw [if_neg c223] at h
        refine rn_icmp_ge_f i157_223 c223 ?_
        refine rn_bipush i157_226 ?_
        refine rn_iload i157_228 rfl ?_
        refine rn_imul i157_230 ?_
        refine fr_aload_n i157_231 rfl ?_
        refine rn_iload_n i157_232 rfl ?_
        refine rn_iload_n i157_233 rfl ?_
        refine rn_iadd i157_234 ?_
        obtain ⟨r235, h235, h⟩ := Option.bind_eq_some_iff.mp h
        obtain ⟨g235, c235⟩ := S_Mo_byteAt a0 (w32 (x1 + x3)) r215.2 r235 h235
        refine fr_callV (a := a0) (As := [.inl (w32 (x1 + x3))]) (st := [.inl (w32 (10 * x4))]) i157_235 (cq151 a0 (w32 (x1 + x3))) rfl (Nat.le_of_ble_eq_true rfl) g235 (c235 _ (by omega)) ?_
        show Rn _ _ _ _ _ _ [.inl r235.1, .inl (w32 (10 * x4))] _ _ _
        refine rn_iadd i157_238 ?_
        refine rn_bipush i157_239 ?_
        refine rn_isub i157_241 ?_
        refine rn_istore (ls1 := [(4, .inl (w32 ((w32 ((w32 (10 * x4)) + r235.1)) - 48))), (0, .inr (.inr a0)), (1, .inl x1), (3, .inl x3)]) i157_242 rfl ?_
        exact rn_sub [1, 2, 3, 0] rfl (s_Mo_cut_244 hD k7 hk7 (Mo_cut_208 k7 n) ih a0 x1 x3 (w32 ((w32 ((w32 (10 * x4)) + r235.1)) - 48)) r235.2 r h)
def Mo_cut_7 : Nat → Nat → Int → Wd → Option (Wd)
  | 0, _, _, _ => none
  | n + 1, a0, x1, w =>
    (fgI w a0 12 10).bind fun v8 =>
    if (400 : Int) < v8 then
      some w
    else
      (Mo_byteAt a0 x1 w).bind fun r19 =>
      (fgI r19.2 a0 12 4).bind fun v25 =>
      if (x1 : Int) < v25 then
        if (r19.1 : Int) = 9 then
          Mo_cut_67 (Mo_cut_7 n) a0 x1 r19.2
        else
          if (r19.1 : Int) = 10 then
            Mo_cut_67 (Mo_cut_7 n) a0 x1 r19.2
          else
            if (r19.1 : Int) = 13 then
              Mo_cut_67 (Mo_cut_7 n) a0 x1 r19.2
            else
              if (r19.1 : Int) = 32 then
                Mo_cut_67 (Mo_cut_7 n) a0 x1 r19.2
              else
                (Mo_isLetter (r19.1) r19.2).bind fun r74 =>
                if (r74.1 : Int) = 0 then
                  (Mo_isDigit (r19.1) r74.2).bind fun r197 =>
                  if (r197.1 : Int) = 0 then
                    (Mo_byteAt a0 (w32 (x1 + 1)) r197.2).bind fun r283 =>
                    (Mo_sign a0 x1 (r19.1) (r283.1) r283.2).bind fun r286 =>
                    Mo_cut_291 (Mo_cut_7 n) a0 (w32 (x1 + r286.1)) r286.2
                  else
                    Mo_cut_208 (Mo_cut_7 n) FU a0 x1 0 0 r197.2
                else
                  Mo_cut_85 (Mo_cut_7 n) FU a0 x1 0 0 r74.2
      else
        Mo_cut_31 a0 r19.2
theorem s_Mo_cut_7 {g : Gp} {l : Launch} {D : Nat} (hD : 2 ≤ D) : ∀ (n : Nat) (a0 : Nat) (x1 : Int) (w : Wd) (r : Wd), Mo_cut_7 n a0 x1 w = some r → Rn g l D 157 7 [(0, .inr (.inr a0)), (1, .inl x1)] [] w none r := by
  obtain ⟨D, rfl⟩ : ∃ D1, D = D1 + 1 := ⟨D - 1, by omega⟩
  intro n
  induction n with
  | zero => intro a0 x1 w r h; cases (show (none : Option (Wd)) = some r from h)
  | succ n ih =>
    intro a0 x1 w r h
    unfold Mo_cut_7 at h
    refine fr_aload_n i157_7 rfl ?_
    obtain ⟨v8, h8, h⟩ := Option.bind_eq_some_iff.mp h
    refine fr_gI (k := 10) i157_8 tf12_10 h8 ?_
    refine rn_sipush i157_11 ?_
    by_cases c14 : (400 : Int) < v8
    · rw [if_pos c14] at h
      refine rn_icmp_gt_t i157_14 c14 ?_
      obtain rfl := Option.some.inj h
      exact rn_ret i157_294 mr157
    · rw [if_neg c14] at h
      refine rn_icmp_gt_f i157_14 c14 ?_
      refine fr_aload_n i157_17 rfl ?_
      refine rn_iload_n i157_18 rfl ?_
      obtain ⟨r19, h19, h⟩ := Option.bind_eq_some_iff.mp h
      obtain ⟨g19, c19⟩ := S_Mo_byteAt a0 x1 w r19 h19
      refine fr_callV (a := a0) (As := [.inl x1]) (st := []) i157_19 (cq151 a0 x1) rfl (Nat.le_of_ble_eq_true rfl) g19 (c19 _ (by omega)) ?_
      show Rn _ _ _ _ _ _ [.inl r19.1] _ _ _
      refine rn_istore_n (ls1 := [(2, .inl r19.1), (0, .inr (.inr a0)), (1, .inl x1)]) i157_22 rfl ?_
      refine rn_iload_n i157_23 rfl ?_
      refine fr_aload_n i157_24 rfl ?_
      obtain ⟨v25, h25, h⟩ := Option.bind_eq_some_iff.mp h
      refine fr_gI (k := 4) i157_25 tf12_4 h25 ?_
      by_cases c28 : (x1 : Int) < v25
      · rw [if_pos c28] at h
        refine rn_icmp_lt_t i157_28 c28 ?_
        refine rn_iload_n i157_43 rfl ?_
        refine rn_bipush i157_44 ?_
        by_cases c46 : (r19.1 : Int) = 9
        · rw [if_pos c46] at h
          refine rn_icmp_eq_t i157_46 c46 ?_
          exact rn_sub [1, 2] rfl (s_Mo_cut_67 hD (Mo_cut_7 n) ih a0 x1 r19.2 r h)
        · rw [if_neg c46] at h
          refine rn_icmp_eq_f i157_46 c46 ?_
          refine rn_iload_n i157_49 rfl ?_
          refine rn_bipush i157_50 ?_
          by_cases c52 : (r19.1 : Int) = 10
          · rw [if_pos c52] at h
            refine rn_icmp_eq_t i157_52 c52 ?_
            exact rn_sub [1, 2] rfl (s_Mo_cut_67 hD (Mo_cut_7 n) ih a0 x1 r19.2 r h)
          · rw [if_neg c52] at h
            refine rn_icmp_eq_f i157_52 c52 ?_
            refine rn_iload_n i157_55 rfl ?_
            refine rn_bipush i157_56 ?_
            by_cases c58 : (r19.1 : Int) = 13
            · rw [if_pos c58] at h
              refine rn_icmp_eq_t i157_58 c58 ?_
              exact rn_sub [1, 2] rfl (s_Mo_cut_67 hD (Mo_cut_7 n) ih a0 x1 r19.2 r h)
            · rw [if_neg c58] at h
              refine rn_icmp_eq_f i157_58 c58 ?_
              refine rn_iload_n i157_61 rfl ?_
              refine rn_bipush i157_62 ?_
              by_cases c64 : (r19.1 : Int) = 32
              · rw [if_pos c64] at h
                refine rn_icmp_ne_f i157_64 c64 ?_
                exact rn_sub [1, 2] rfl (s_Mo_cut_67 hD (Mo_cut_7 n) ih a0 x1 r19.2 r h)
              · rw [if_neg c64] at h
                refine rn_icmp_ne_t i157_64 c64 ?_
                refine rn_iload_n i157_73 rfl ?_
                obtain ⟨r74, h74, h⟩ := Option.bind_eq_some_iff.mp h
                refine fr_callS (nst := 0) (As := [.inl r19.1]) (st := []) i157_74 (cq153 (r19.1)) rfl (Nat.le_of_ble_eq_true rfl) (S_Mo_isLetter (r19.1) r19.2 r74 h74 _ (by omega)) ?_
                show Rn _ _ _ _ _ _ [.inl r74.1] _ _ _
                by_cases c77 : (r74.1 : Int) = 0
                · rw [if_pos c77] at h
                  refine rn_if_eq_t i157_77 c77 ?_
                  refine rn_iload_n i157_196 rfl ?_
                  obtain ⟨r197, h197, h⟩ := Option.bind_eq_some_iff.mp h
                  refine fr_callS (nst := 0) (As := [.inl r19.1]) (st := []) i157_197 (cq152 (r19.1)) rfl (Nat.le_of_ble_eq_true rfl) (S_Mo_isDigit (r19.1) r74.2 r197 h197 _ (by omega)) ?_
                  show Rn _ _ _ _ _ _ [.inl r197.1] _ _ _
                  by_cases c200 : (r197.1 : Int) = 0
                  · rw [if_pos c200] at h
                    refine rn_if_eq_t i157_200 c200 ?_
                    refine rn_iload_n i157_275 rfl ?_
                    refine fr_aload_n i157_276 rfl ?_
                    refine rn_iload_n i157_277 rfl ?_
                    refine rn_iload_n i157_278 rfl ?_
                    refine fr_aload_n i157_279 rfl ?_
                    refine rn_iload_n i157_280 rfl ?_
                    refine rn_iconst i157_281 ?_
                    refine rn_iadd i157_282 ?_
                    obtain ⟨r283, h283, h⟩ := Option.bind_eq_some_iff.mp h
                    obtain ⟨g283, c283⟩ := S_Mo_byteAt a0 (w32 (x1 + 1)) r197.2 r283 h283
                    refine fr_callV (a := a0) (As := [.inl (w32 (x1 + 1))]) (st := [.inl r19.1, .inl x1, .inr (.inr a0), .inl x1]) i157_283 (cq151 a0 (w32 (x1 + 1))) rfl (Nat.le_of_ble_eq_true rfl) g283 (c283 _ (by omega)) ?_
                    show Rn _ _ _ _ _ _ [.inl r283.1, .inl r19.1, .inl x1, .inr (.inr a0), .inl x1] _ _ _
                    obtain ⟨r286, h286, h⟩ := Option.bind_eq_some_iff.mp h
                    obtain ⟨g286, c286⟩ := S_Mo_sign a0 x1 (r19.1) (r283.1) r283.2 r286 h286
                    refine fr_callV (a := a0) (As := [.inl x1, .inl r19.1, .inl r283.1]) (st := [.inl x1]) i157_286 (cq158 a0 x1 (r19.1) (r283.1)) rfl (Nat.le_of_ble_eq_true rfl) g286 (c286 _ (by omega)) ?_
                    show Rn _ _ _ _ _ _ [.inl r286.1, .inl x1] _ _ _
                    refine rn_iadd i157_289 ?_
                    refine rn_istore_n (ls1 := [(1, .inl (w32 (x1 + r286.1))), (2, .inl r19.1), (0, .inr (.inr a0))]) i157_290 rfl ?_
                    exact rn_sub [2, 0] rfl (s_Mo_cut_291 hD (Mo_cut_7 n) ih a0 (w32 (x1 + r286.1)) r286.2 r h)
                  · rw [if_neg c200] at h
                    refine rn_if_eq_f i157_200 c200 ?_
                    refine rn_iconst i157_203 ?_
                    refine rn_istore_n (ls1 := [(3, .inl 0), (2, .inl r19.1), (0, .inr (.inr a0)), (1, .inl x1)]) i157_204 rfl ?_
                    refine rn_iconst i157_205 ?_
                    refine rn_istore (ls1 := [(4, .inl 0), (3, .inl 0), (2, .inl r19.1), (0, .inr (.inr a0)), (1, .inl x1)]) i157_206 rfl ?_
                    exact rn_sub [3, 4, 1, 0] rfl (s_Mo_cut_208 hD (Mo_cut_7 n) ih FU a0 x1 0 0 r197.2 r h)
                · rw [if_neg c77] at h
                  refine rn_if_eq_f i157_77 c77 ?_
                  refine rn_iconst i157_80 ?_
                  refine rn_istore_n (ls1 := [(3, .inl 0), (2, .inl r19.1), (0, .inr (.inr a0)), (1, .inl x1)]) i157_81 rfl ?_
                  refine fr_lconst0 i157_82 ?_
                  refine rn_lstore (ls1 := [(4, .inr (.inl 0)), (3, .inl 0), (2, .inl r19.1), (0, .inr (.inr a0)), (1, .inl x1)]) i157_83 rfl ?_
                  exact rn_sub [3, 4, 1, 0] rfl (s_Mo_cut_85 hD (Mo_cut_7 n) ih FU a0 x1 0 0 r74.2 r h)
      · rw [if_neg c28] at h
        refine rn_icmp_lt_f i157_28 c28 ?_
        exact rn_sub [1] rfl (s_Mo_cut_31 hD a0 r19.2 r h)
def Mo_cut_0 (a0 : Nat) (w : Wd) : Option (Wd) :=
  (fpI w a0 12 10 0).bind fun w2 =>
  Mo_cut_7 FU a0 0 w2
theorem s_Mo_cut_0 {g : Gp} {l : Launch} {D : Nat} (hD : 2 ≤ D) (a0 : Nat) (w : Wd) (r : Wd) (h : Mo_cut_0 a0 w = some r) : Rn g l D 157 0 [(0, .inr (.inr a0))] [] w none r := by
  unfold Mo_cut_0 at h
  refine fr_aload_n i157_0 rfl ?_
  refine rn_iconst i157_1 ?_
  obtain ⟨w2, h2, h⟩ := Option.bind_eq_some_iff.mp h
  refine fr_pI (k := 10) i157_2 (pf12_10 157) h2 ?_
  refine rn_iconst i157_5 ?_
  refine rn_istore_n (ls1 := [(1, .inl 0), (0, .inr (.inr a0))]) i157_6 rfl ?_
  exact rn_sub [1, 0] rfl (s_Mo_cut_7 hD FU a0 0 w2 r h)
/-- HandHeirsModel.cut()V -/
def Mo_cut (a0 : Nat) (w : Wd) : Option (Wd) := gd 12 w a0 (Mo_cut_0 a0 w)
theorem S_Mo_cut {g : Gp} {l : Launch} (a0 : Nat) (w : Wd) (r : Wd) (h : Mo_cut a0 w = some r) : (wsh w a0).1 = 12 ∧ ∀ D, 2 ≤ D → Rn g l D 157 0 [(0, .inr (.inr a0))] [] w none r := by
  obtain ⟨hg, h⟩ := gd_some h
  exact ⟨hg, fun D hD => rn_sub [0] rfl (s_Mo_cut_0 hD a0 w r h)⟩
def Mo_is_25 (s0 : Int) (w : Wd) : Option (Int × Wd) :=
  rZ s0 w
theorem s_Mo_is_25 {g : Gp} {l : Launch} {D : Nat} (hD : 0 ≤ D) (s0 : Int) (w : Wd) (r : Int × Wd) (h : Mo_is_25 s0 w = some r) : Rn g l D 159 25 [] [.inl s0] w (some (.inl r.1)) r.2 := by
  unfold Mo_is_25 at h
  exact fr_retZ i159_25 mr159 h
def Mo_is_24 (w : Wd) : Option (Int × Wd) :=
  Mo_is_25 0 w
theorem s_Mo_is_24 {g : Gp} {l : Launch} {D : Nat} (hD : 0 ≤ D) (w : Wd) (r : Int × Wd) (h : Mo_is_24 w = some r) : Rn g l D 159 24 [] [] w (some (.inl r.1)) r.2 := by
  unfold Mo_is_24 at h
  refine rn_iconst i159_24 ?_
  exact rn_sub [] rfl (s_Mo_is_25 hD 0 w r h)
def Mo_is_0 (a0 : Nat) (x1 : Int) (w : Wd) : Option (Int × Wd) :=
  (fgI w a0 12 13).bind fun v1 =>
  if (v1 : Int) = 0 then
    (fgR w a0 12 5).bind fun v8 =>
    (fgI w a0 12 11).bind fun v12 =>
    (rdI w v8 v12).bind fun v15 =>
    if (v15 : Int) = x1 then
      Mo_is_25 1 w
    else
      Mo_is_24 w
  else
    Mo_is_24 w
theorem s_Mo_is_0 {g : Gp} {l : Launch} {D : Nat} (hD : 0 ≤ D) (a0 : Nat) (x1 : Int) (w : Wd) (r : Int × Wd) (h : Mo_is_0 a0 x1 w = some r) : Rn g l D 159 0 [(0, .inr (.inr a0)), (1, .inl x1)] [] w (some (.inl r.1)) r.2 := by
  unfold Mo_is_0 at h
  refine fr_aload_n i159_0 rfl ?_
  obtain ⟨v1, h1, h⟩ := Option.bind_eq_some_iff.mp h
  refine fr_gI (k := 13) i159_1 tf12_13 h1 ?_
  by_cases c4 : (v1 : Int) = 0
  · rw [if_pos c4] at h
    refine rn_if_ne_f i159_4 c4 ?_
    refine fr_aload_n i159_7 rfl ?_
    obtain ⟨v8, h8, h⟩ := Option.bind_eq_some_iff.mp h
    refine fr_gR (k := 5) i159_8 tf12_5 h8 ?_
    refine fr_aload_n i159_11 rfl ?_
    obtain ⟨v12, h12, h⟩ := Option.bind_eq_some_iff.mp h
    refine fr_gI (k := 11) i159_12 tf12_11 h12 ?_
    obtain ⟨v15, h15, h⟩ := Option.bind_eq_some_iff.mp h
    refine rn_iald i159_15 h15 ?_
    refine rn_iload_n i159_16 rfl ?_
    by_cases c17 : (v15 : Int) = x1
    · rw [if_pos c17] at h
      refine rn_icmp_ne_f i159_17 c17 ?_
      refine rn_iconst i159_20 ?_
      refine rn_goto i159_21 ?_
      exact rn_sub [] rfl (s_Mo_is_25 hD 1 w r h)
    · rw [if_neg c17] at h
      refine rn_icmp_ne_t i159_17 c17 ?_
      exact rn_sub [] rfl (s_Mo_is_24 hD w r h)
  · rw [if_neg c4] at h
    refine rn_if_ne_t i159_4 c4 ?_
    exact rn_sub [] rfl (s_Mo_is_24 hD w r h)
/-- HandHeirsModel.is(I)Z -/
def Mo_is (a0 : Nat) (x1 : Int) (w : Wd) : Option (Int × Wd) := gd 12 w a0 (Mo_is_0 a0 x1 w)
theorem S_Mo_is {g : Gp} {l : Launch} (a0 : Nat) (x1 : Int) (w : Wd) (r : Int × Wd) (h : Mo_is a0 x1 w = some r) : (wsh w a0).1 = 12 ∧ ∀ D, 0 ≤ D → Rn g l D 159 0 [(0, .inr (.inr a0)), (1, .inl x1)] [] w (some (.inl r.1)) r.2 := by
  obtain ⟨hg, h⟩ := gd_some h
  exact ⟨hg, fun D hD => rn_sub [0, 1] rfl (s_Mo_is_0 hD a0 x1 w r h)⟩
def Mo_fail_0 (a0 : Nat) (x1 : Int) (w : Wd) : Option (Wd) :=
  (fgI w a0 12 13).bind fun v1 =>
  if (v1 : Int) ≤ 0 then
    (fpI w a0 12 13 x1).bind fun w10 =>
    (fgR w10 a0 12 6).bind fun v15 =>
    (fgI w10 a0 12 11).bind fun v19 =>
    (rdI w10 v15 v19).bind fun v22 =>
    (fpI w10 a0 12 14 v22).bind fun w23 =>
    some w23
  else
    some w
theorem s_Mo_fail_0 {g : Gp} {l : Launch} {D : Nat} (hD : 0 ≤ D) (a0 : Nat) (x1 : Int) (w : Wd) (r : Wd) (h : Mo_fail_0 a0 x1 w = some r) : Rn g l D 160 0 [(0, .inr (.inr a0)), (1, .inl x1)] [] w none r := by
  unfold Mo_fail_0 at h
  refine fr_aload_n i160_0 rfl ?_
  obtain ⟨v1, h1, h⟩ := Option.bind_eq_some_iff.mp h
  refine fr_gI (k := 13) i160_1 tf12_13 h1 ?_
  by_cases c4 : (v1 : Int) ≤ 0
  · rw [if_pos c4] at h
    refine rn_if_le_t i160_4 c4 ?_
    refine fr_aload_n i160_8 rfl ?_
    refine rn_iload_n i160_9 rfl ?_
    obtain ⟨w10, h10, h⟩ := Option.bind_eq_some_iff.mp h
    refine fr_pI (k := 13) i160_10 (pf12_13 160) h10 ?_
    refine fr_aload_n i160_13 rfl ?_
    refine fr_aload_n i160_14 rfl ?_
    obtain ⟨v15, h15, h⟩ := Option.bind_eq_some_iff.mp h
    refine fr_gR (k := 6) i160_15 tf12_6 h15 ?_
    refine fr_aload_n i160_18 rfl ?_
    obtain ⟨v19, h19, h⟩ := Option.bind_eq_some_iff.mp h
    refine fr_gI (k := 11) i160_19 tf12_11 h19 ?_
    obtain ⟨v22, h22, h⟩ := Option.bind_eq_some_iff.mp h
    refine rn_iald i160_22 h22 ?_
    obtain ⟨w23, h23, h⟩ := Option.bind_eq_some_iff.mp h
    refine fr_pI (k := 14) i160_23 (pf12_14 160) h23 ?_
    obtain rfl := Option.some.inj h
    exact rn_ret i160_26 mr160
  · rw [if_neg c4] at h
    refine rn_if_le_f i160_4 c4 ?_
    obtain rfl := Option.some.inj h
    exact rn_ret i160_7 mr160
/-- HandHeirsModel.fail(I)V -/
def Mo_fail (a0 : Nat) (x1 : Int) (w : Wd) : Option (Wd) := gd 12 w a0 (Mo_fail_0 a0 x1 w)
theorem S_Mo_fail {g : Gp} {l : Launch} (a0 : Nat) (x1 : Int) (w : Wd) (r : Wd) (h : Mo_fail a0 x1 w = some r) : (wsh w a0).1 = 12 ∧ ∀ D, 0 ≤ D → Rn g l D 160 0 [(0, .inr (.inr a0)), (1, .inl x1)] [] w none r := by
  obtain ⟨hg, h⟩ := gd_some h
  exact ⟨hg, fun D hD => rn_sub [0, 1] rfl (s_Mo_fail_0 hD a0 x1 w r h)⟩
def Mo_wrong_45 (w : Wd) : Option (Wd) :=
  some w
theorem s_Mo_wrong_45 {g : Gp} {l : Launch} {D : Nat} (hD : 0 ≤ D) (w : Wd) (r : Wd) (h : Mo_wrong_45 w = some r) : Rn g l D 161 45 [] [] w none r := by
  unfold Mo_wrong_45 at h
  obtain rfl := Option.some.inj h
  exact rn_ret i161_45 mr161
def Mo_wrong_46 (a0 : Nat) (x1 : Int) (x3 : Int) (w : Wd) : Option (Wd) :=
  (fpI w a0 12 15 x1).bind fun w48 =>
  (fpI w48 a0 12 16 x3).bind fun w53 =>
  some w53
theorem s_Mo_wrong_46 {g : Gp} {l : Launch} {D : Nat} (hD : 0 ≤ D) (a0 : Nat) (x1 : Int) (x3 : Int) (w : Wd) (r : Wd) (h : Mo_wrong_46 a0 x1 x3 w = some r) : Rn g l D 161 46 [(0, .inr (.inr a0)), (1, .inl x1), (3, .inl x3)] [] w none r := by
  unfold Mo_wrong_46 at h
  refine fr_aload_n i161_46 rfl ?_
  refine rn_iload_n i161_47 rfl ?_
  obtain ⟨w48, h48, h⟩ := Option.bind_eq_some_iff.mp h
  refine fr_pI (k := 15) i161_48 (pf12_15 161) h48 ?_
  refine fr_aload_n i161_51 rfl ?_
  refine rn_iload_n i161_52 rfl ?_
  obtain ⟨w53, h53, h⟩ := Option.bind_eq_some_iff.mp h
  refine fr_pI (k := 16) i161_53 (pf12_16 161) h53 ?_
  obtain rfl := Option.some.inj h
  exact rn_ret i161_56 mr161
def Mo_wrong_0 (a0 : Nat) (x1 : Int) (x2 : Int) (w : Wd) : Option (Wd) :=
  (fgR w a0 12 6).bind fun v1 =>
  (rdI w v1 x2).bind fun v5 =>
  (fgI w a0 12 13).bind fun v8 =>
  if (0 : Int) < v8 then
    Mo_wrong_45 w
  else
    (fgI w a0 12 15).bind fun v15 =>
    if (v15 : Int) = 0 then
      Mo_wrong_46 a0 x1 v5 w
    else
      (fgI w a0 12 16).bind fun v23 =>
      if (v23 : Int) < v5 then
        Mo_wrong_45 w
      else
        (fgI w a0 12 16).bind fun v31 =>
        if (v5 : Int) = v31 then
          (fgI w a0 12 15).bind fun v39 =>
          if (x1 : Int) < v39 then
            Mo_wrong_46 a0 x1 v5 w
          else
            Mo_wrong_45 w
        else
          Mo_wrong_46 a0 x1 v5 w
theorem s_Mo_wrong_0 {g : Gp} {l : Launch} {D : Nat} (hD : 0 ≤ D) (a0 : Nat) (x1 : Int) (x2 : Int) (w : Wd) (r : Wd) (h : Mo_wrong_0 a0 x1 x2 w = some r) : Rn g l D 161 0 [(0, .inr (.inr a0)), (1, .inl x1), (2, .inl x2)] [] w none r := by
  unfold Mo_wrong_0 at h
  refine fr_aload_n i161_0 rfl ?_
  obtain ⟨v1, h1, h⟩ := Option.bind_eq_some_iff.mp h
  refine fr_gR (k := 6) i161_1 tf12_6 h1 ?_
  refine rn_iload_n i161_4 rfl ?_
  obtain ⟨v5, h5, h⟩ := Option.bind_eq_some_iff.mp h
  refine rn_iald i161_5 h5 ?_
  refine rn_istore_n (ls1 := [(3, .inl v5), (0, .inr (.inr a0)), (1, .inl x1), (2, .inl x2)]) i161_6 rfl ?_
  refine fr_aload_n i161_7 rfl ?_
  obtain ⟨v8, h8, h⟩ := Option.bind_eq_some_iff.mp h
  refine fr_gI (k := 13) i161_8 tf12_13 h8 ?_
  by_cases c11 : (0 : Int) < v8
  · rw [if_pos c11] at h
    refine rn_if_gt_t i161_11 c11 ?_
    exact rn_sub [] rfl (s_Mo_wrong_45 hD w r h)
  · rw [if_neg c11] at h
    refine rn_if_gt_f i161_11 c11 ?_
    refine fr_aload_n i161_14 rfl ?_
    obtain ⟨v15, h15, h⟩ := Option.bind_eq_some_iff.mp h
    refine fr_gI (k := 15) i161_15 tf12_15 h15 ?_
    by_cases c18 : (v15 : Int) = 0
    · rw [if_pos c18] at h
      refine rn_if_eq_t i161_18 c18 ?_
      exact rn_sub [1, 2, 0] rfl (s_Mo_wrong_46 hD a0 x1 v5 w r h)
    · rw [if_neg c18] at h
      refine rn_if_eq_f i161_18 c18 ?_
      refine rn_iload_n i161_21 rfl ?_
      refine fr_aload_n i161_22 rfl ?_
      obtain ⟨v23, h23, h⟩ := Option.bind_eq_some_iff.mp h
      refine fr_gI (k := 16) i161_23 tf12_16 h23 ?_
      by_cases c26 : (v23 : Int) < v5
      · rw [if_pos c26] at h
        refine rn_icmp_gt_t i161_26 c26 ?_
        exact rn_sub [] rfl (s_Mo_wrong_45 hD w r h)
      · rw [if_neg c26] at h
        refine rn_icmp_gt_f i161_26 c26 ?_
        refine rn_iload_n i161_29 rfl ?_
        refine fr_aload_n i161_30 rfl ?_
        obtain ⟨v31, h31, h⟩ := Option.bind_eq_some_iff.mp h
        refine fr_gI (k := 16) i161_31 tf12_16 h31 ?_
        by_cases c34 : (v5 : Int) = v31
        · rw [if_pos c34] at h
          refine rn_icmp_ne_f i161_34 c34 ?_
          refine rn_iload_n i161_37 rfl ?_
          refine fr_aload_n i161_38 rfl ?_
          obtain ⟨v39, h39, h⟩ := Option.bind_eq_some_iff.mp h
          refine fr_gI (k := 15) i161_39 tf12_15 h39 ?_
          by_cases c42 : (x1 : Int) < v39
          · rw [if_pos c42] at h
            refine rn_icmp_lt_t i161_42 c42 ?_
            exact rn_sub [1, 2, 0] rfl (s_Mo_wrong_46 hD a0 x1 v5 w r h)
          · rw [if_neg c42] at h
            refine rn_icmp_lt_f i161_42 c42 ?_
            exact rn_sub [] rfl (s_Mo_wrong_45 hD w r h)
        · rw [if_neg c34] at h
          refine rn_icmp_ne_t i161_34 c34 ?_
          exact rn_sub [1, 2, 0] rfl (s_Mo_wrong_46 hD a0 x1 v5 w r h)
/-- HandHeirsModel.wrong(II)V -/
def Mo_wrong (a0 : Nat) (x1 : Int) (x2 : Int) (w : Wd) : Option (Wd) := gd 12 w a0 (Mo_wrong_0 a0 x1 x2 w)
theorem S_Mo_wrong {g : Gp} {l : Launch} (a0 : Nat) (x1 : Int) (x2 : Int) (w : Wd) (r : Wd) (h : Mo_wrong a0 x1 x2 w = some r) : (wsh w a0).1 = 12 ∧ ∀ D, 0 ≤ D → Rn g l D 161 0 [(0, .inr (.inr a0)), (1, .inl x1), (2, .inl x2)] [] w none r := by
  obtain ⟨hg, h⟩ := gd_some h
  exact ⟨hg, fun D hD => rn_sub [0, 1, 2] rfl (s_Mo_wrong_0 hD a0 x1 x2 w r h)⟩
def Mo_goesOn_28 (w : Wd) : Option (Wd) :=
  some w
theorem s_Mo_goesOn_28 {g : Gp} {l : Launch} {D : Nat} (hD : 1 ≤ D) (w : Wd) (r : Wd) (h : Mo_goesOn_28 w = some r) : Rn g l D 162 28 [] [] w none r := by
  unfold Mo_goesOn_28 at h
  obtain rfl := Option.some.inj h
  exact rn_ret i162_28 mr162
def Mo_goesOn_0 (a0 : Nat) (w : Wd) : Option (Wd) :=
  (fgI w a0 12 11).bind fun v1 =>
  if (v1 : Int) = 400 then
    (Mo_fail a0 2 w).bind fun r12 =>
    Mo_goesOn_28 r12
  else
    (fgI w a0 12 11).bind fun v20 =>
    (fpI w a0 12 11 (w32 (v20 + 1))).bind fun w25 =>
    Mo_goesOn_28 w25
theorem s_Mo_goesOn_0 {g : Gp} {l : Launch} {D : Nat} (hD : 1 ≤ D) (a0 : Nat) (w : Wd) (r : Wd) (h : Mo_goesOn_0 a0 w = some r) : Rn g l D 162 0 [(0, .inr (.inr a0))] [] w none r := by
  obtain ⟨D, rfl⟩ : ∃ D1, D = D1 + 1 := ⟨D - 1, by omega⟩
  unfold Mo_goesOn_0 at h
  refine fr_aload_n i162_0 rfl ?_
  obtain ⟨v1, h1, h⟩ := Option.bind_eq_some_iff.mp h
  refine fr_gI (k := 11) i162_1 tf12_11 h1 ?_
  refine rn_sipush i162_4 ?_
  by_cases c7 : (v1 : Int) = 400
  · rw [if_pos c7] at h
    refine rn_icmp_ne_f i162_7 c7 ?_
    refine fr_aload_n i162_10 rfl ?_
    refine rn_iconst i162_11 ?_
    obtain ⟨r12, h12, h⟩ := Option.bind_eq_some_iff.mp h
    obtain ⟨g12, c12⟩ := S_Mo_fail a0 2 w r12 h12
    refine fr_callV (a := a0) (As := [.inl 2]) (st := []) i162_12 (cq160 a0 2) rfl (Nat.le_of_ble_eq_true rfl) g12 (c12 _ (by omega)) ?_
    refine rn_goto i162_15 ?_
    exact rn_sub [] rfl (s_Mo_goesOn_28 hD r12 r h)
  · rw [if_neg c7] at h
    refine rn_icmp_ne_t i162_7 c7 ?_
    refine fr_aload_n i162_18 rfl ?_
    refine rn_dup i162_19 rfl ?_
    obtain ⟨v20, h20, h⟩ := Option.bind_eq_some_iff.mp h
    refine fr_gI (k := 11) i162_20 tf12_11 h20 ?_
    refine rn_iconst i162_23 ?_
    refine rn_iadd i162_24 ?_
    obtain ⟨w25, h25, h⟩ := Option.bind_eq_some_iff.mp h
    refine fr_pI (k := 11) i162_25 (pf12_11 162) h25 ?_
    exact rn_sub [] rfl (s_Mo_goesOn_28 hD w25 r h)
/-- HandHeirsModel.goesOn()V -/
def Mo_goesOn (a0 : Nat) (w : Wd) : Option (Wd) := gd 12 w a0 (Mo_goesOn_0 a0 w)
theorem S_Mo_goesOn {g : Gp} {l : Launch} (a0 : Nat) (w : Wd) (r : Wd) (h : Mo_goesOn a0 w = some r) : (wsh w a0).1 = 12 ∧ ∀ D, 1 ≤ D → Rn g l D 162 0 [(0, .inr (.inr a0))] [] w none r := by
  obtain ⟨hg, h⟩ := gd_some h
  exact ⟨hg, fun D hD => rn_sub [0] rfl (s_Mo_goesOn_0 hD a0 w r h)⟩
def Mo_must_20 (w : Wd) : Option (Wd) :=
  some w
theorem s_Mo_must_20 {g : Gp} {l : Launch} {D : Nat} (hD : 2 ≤ D) (w : Wd) (r : Wd) (h : Mo_must_20 w = some r) : Rn g l D 163 20 [] [] w none r := by
  unfold Mo_must_20 at h
  obtain rfl := Option.some.inj h
  exact rn_ret i163_20 mr163
def Mo_must_0 (a0 : Nat) (x1 : Int) (w : Wd) : Option (Wd) :=
  (Mo_is a0 x1 w).bind fun r2 =>
  if (r2.1 : Int) = 0 then
    (Mo_fail a0 1 r2.2).bind fun r17 =>
    Mo_must_20 r17
  else
    (Mo_goesOn a0 r2.2).bind fun r9 =>
    Mo_must_20 r9
theorem s_Mo_must_0 {g : Gp} {l : Launch} {D : Nat} (hD : 2 ≤ D) (a0 : Nat) (x1 : Int) (w : Wd) (r : Wd) (h : Mo_must_0 a0 x1 w = some r) : Rn g l D 163 0 [(0, .inr (.inr a0)), (1, .inl x1)] [] w none r := by
  obtain ⟨D, rfl⟩ : ∃ D1, D = D1 + 1 := ⟨D - 1, by omega⟩
  unfold Mo_must_0 at h
  refine fr_aload_n i163_0 rfl ?_
  refine rn_iload_n i163_1 rfl ?_
  obtain ⟨r2, h2, h⟩ := Option.bind_eq_some_iff.mp h
  obtain ⟨g2, c2⟩ := S_Mo_is a0 x1 w r2 h2
  refine fr_callV (a := a0) (As := [.inl x1]) (st := []) i163_2 (cq159 a0 x1) rfl (Nat.le_of_ble_eq_true rfl) g2 (c2 _ (by omega)) ?_
  show Rn _ _ _ _ _ _ [.inl r2.1] _ _ _
  by_cases c5 : (r2.1 : Int) = 0
  · rw [if_pos c5] at h
    refine rn_if_eq_t i163_5 c5 ?_
    refine fr_aload_n i163_15 rfl ?_
    refine rn_iconst i163_16 ?_
    obtain ⟨r17, h17, h⟩ := Option.bind_eq_some_iff.mp h
    obtain ⟨g17, c17⟩ := S_Mo_fail a0 1 r2.2 r17 h17
    refine fr_callV (a := a0) (As := [.inl 1]) (st := []) i163_17 (cq160 a0 1) rfl (Nat.le_of_ble_eq_true rfl) g17 (c17 _ (by omega)) ?_
    exact rn_sub [] rfl (s_Mo_must_20 hD r17 r h)
  · rw [if_neg c5] at h
    refine rn_if_eq_f i163_5 c5 ?_
    refine fr_aload_n i163_8 rfl ?_
    obtain ⟨r9, h9, h⟩ := Option.bind_eq_some_iff.mp h
    obtain ⟨g9, c9⟩ := S_Mo_goesOn a0 r2.2 r9 h9
    refine fr_callV (a := a0) (As := []) (st := []) i163_9 (cq162 a0) rfl (Nat.le_of_ble_eq_true rfl) g9 (c9 _ (by omega)) ?_
    refine rn_goto i163_12 ?_
    exact rn_sub [] rfl (s_Mo_must_20 hD r9 r h)
/-- HandHeirsModel.must(I)V -/
def Mo_must (a0 : Nat) (x1 : Int) (w : Wd) : Option (Wd) := gd 12 w a0 (Mo_must_0 a0 x1 w)
theorem S_Mo_must {g : Gp} {l : Launch} (a0 : Nat) (x1 : Int) (w : Wd) (r : Wd) (h : Mo_must a0 x1 w = some r) : (wsh w a0).1 = 12 ∧ ∀ D, 2 ≤ D → Rn g l D 163 0 [(0, .inr (.inr a0)), (1, .inl x1)] [] w none r := by
  obtain ⟨hg, h⟩ := gd_some h
  exact ⟨hg, fun D hD => rn_sub [0, 1] rfl (s_Mo_must_0 hD a0 x1 w r h)⟩
def Mo_roomFor_21 (w : Wd) : Option (Wd) :=
  some w
theorem s_Mo_roomFor_21 {g : Gp} {l : Launch} {D : Nat} (hD : 2 ≤ D) (w : Wd) (r : Wd) (h : Mo_roomFor_21 w = some r) : Rn g l D 167 21 [] [] w none r := by
  unfold Mo_roomFor_21 at h
  obtain rfl := Option.some.inj h
  exact rn_ret i167_21 mr167
def Mo_roomFor_10 (a0 : Nat) (w : Wd) : Option (Wd) :=
  (fgI w a0 12 13).bind fun v11 =>
  if (v11 : Int) = 0 then
    (Mo_goesOn a0 w).bind fun r18 =>
    Mo_roomFor_21 r18
  else
    Mo_roomFor_21 w
theorem s_Mo_roomFor_10 {g : Gp} {l : Launch} {D : Nat} (hD : 2 ≤ D) (a0 : Nat) (w : Wd) (r : Wd) (h : Mo_roomFor_10 a0 w = some r) : Rn g l D 167 10 [(0, .inr (.inr a0))] [] w none r := by
  obtain ⟨D, rfl⟩ : ∃ D1, D = D1 + 1 := ⟨D - 1, by omega⟩
  unfold Mo_roomFor_10 at h
  refine fr_aload_n i167_10 rfl ?_
  obtain ⟨v11, h11, h⟩ := Option.bind_eq_some_iff.mp h
  refine fr_gI (k := 13) i167_11 tf12_13 h11 ?_
  by_cases c14 : (v11 : Int) = 0
  · rw [if_pos c14] at h
    refine rn_if_ne_f i167_14 c14 ?_
    refine fr_aload_n i167_17 rfl ?_
    obtain ⟨r18, h18, h⟩ := Option.bind_eq_some_iff.mp h
    obtain ⟨g18, c18⟩ := S_Mo_goesOn a0 w r18 h18
    refine fr_callV (a := a0) (As := []) (st := []) i167_18 (cq162 a0) rfl (Nat.le_of_ble_eq_true rfl) g18 (c18 _ (by omega)) ?_
    exact rn_sub [] rfl (s_Mo_roomFor_21 hD r18 r h)
  · rw [if_neg c14] at h
    refine rn_if_ne_t i167_14 c14 ?_
    exact rn_sub [] rfl (s_Mo_roomFor_21 hD w r h)
def Mo_roomFor_0 (a0 : Nat) (x1 : Int) (x2 : Int) (w : Wd) : Option (Wd) :=
  if (x1 : Int) = x2 then
    (Mo_fail a0 2 w).bind fun r7 =>
    Mo_roomFor_10 a0 r7
  else
    Mo_roomFor_10 a0 w
theorem s_Mo_roomFor_0 {g : Gp} {l : Launch} {D : Nat} (hD : 2 ≤ D) (a0 : Nat) (x1 : Int) (x2 : Int) (w : Wd) (r : Wd) (h : Mo_roomFor_0 a0 x1 x2 w = some r) : Rn g l D 167 0 [(0, .inr (.inr a0)), (1, .inl x1), (2, .inl x2)] [] w none r := by
  obtain ⟨D, rfl⟩ : ∃ D1, D = D1 + 1 := ⟨D - 1, by omega⟩
  unfold Mo_roomFor_0 at h
  refine rn_iload_n i167_0 rfl ?_
  refine rn_iload_n i167_1 rfl ?_
  by_cases c2 : (x1 : Int) = x2
  · rw [if_pos c2] at h
    refine rn_icmp_ne_f i167_2 c2 ?_
    refine fr_aload_n i167_5 rfl ?_
    refine rn_iconst i167_6 ?_
    obtain ⟨r7, h7, h⟩ := Option.bind_eq_some_iff.mp h
    obtain ⟨g7, c7⟩ := S_Mo_fail a0 2 w r7 h7
    refine fr_callV (a := a0) (As := [.inl 2]) (st := []) i167_7 (cq160 a0 2) rfl (Nat.le_of_ble_eq_true rfl) g7 (c7 _ (by omega)) ?_
    exact rn_sub [0] rfl (s_Mo_roomFor_10 hD a0 r7 r h)
  · rw [if_neg c2] at h
    refine rn_icmp_ne_t i167_2 c2 ?_
    exact rn_sub [0] rfl (s_Mo_roomFor_10 hD a0 w r h)
/-- HandHeirsModel.roomFor(II)V -/
def Mo_roomFor (a0 : Nat) (x1 : Int) (x2 : Int) (w : Wd) : Option (Wd) := gd 12 w a0 (Mo_roomFor_0 a0 x1 x2 w)
theorem S_Mo_roomFor {g : Gp} {l : Launch} (a0 : Nat) (x1 : Int) (x2 : Int) (w : Wd) (r : Wd) (h : Mo_roomFor a0 x1 x2 w = some r) : (wsh w a0).1 = 12 ∧ ∀ D, 2 ≤ D → Rn g l D 167 0 [(0, .inr (.inr a0)), (1, .inl x1), (2, .inl x2)] [] w none r := by
  obtain ⟨hg, h⟩ := gd_some h
  exact ⟨hg, fun D hD => rn_sub [0, 1, 2] rfl (s_Mo_roomFor_0 hD a0 x1 x2 w r h)⟩
def Mo_known_54 (a0 : Nat) (x2 : Int) (w : Wd) : Option (Int × Wd) :=
  (fgR w a0 12 22).bind fun v55 =>
  (rdI w v55 x2).bind fun v59 =>
  some (v59, w)
theorem s_Mo_known_54 {g : Gp} {l : Launch} {D : Nat} (hD : 3 ≤ D) (a0 : Nat) (x2 : Int) (w : Wd) (r : Int × Wd) (h : Mo_known_54 a0 x2 w = some r) : Rn g l D 171 54 [(0, .inr (.inr a0)), (2, .inl x2)] [] w (some (.inl r.1)) r.2 := by
  unfold Mo_known_54 at h
  refine fr_aload_n i171_54 rfl ?_
  obtain ⟨v55, h55, h⟩ := Option.bind_eq_some_iff.mp h
  refine fr_gR (k := 22) i171_55 tf12_22 h55 ?_
  refine rn_iload_n i171_58 rfl ?_
  obtain ⟨v59, h59, h⟩ := Option.bind_eq_some_iff.mp h
  refine rn_iald i171_59 h59 ?_
  obtain rfl := Option.some.inj h
  exact rn_retI i171_60 mr171
def Mo_known_61 (k21 : Nat → Int → Int → Wd → Option (Int × Wd)) (a0 : Nat) (x1 : Int) (x2 : Int) (w : Wd) : Option (Int × Wd) :=
  k21 a0 x1 (w32 (x2 + 1)) w
theorem s_Mo_known_61 {g : Gp} {l : Launch} {D : Nat} (hD : 3 ≤ D) (k21 : Nat → Int → Int → Wd → Option (Int × Wd)) (hk21 : ∀ (a0 : Nat) (x1 : Int) (x2 : Int) (w : Wd) (r : Int × Wd), k21 a0 x1 x2 w = some r → Rn g l D 171 21 [(0, .inr (.inr a0)), (1, .inl x1), (2, .inl x2)] [] w (some (.inl r.1)) r.2) (a0 : Nat) (x1 : Int) (x2 : Int) (w : Wd) (r : Int × Wd) (h : Mo_known_61 k21 a0 x1 x2 w = some r) : Rn g l D 171 61 [(0, .inr (.inr a0)), (1, .inl x1), (2, .inl x2)] [] w (some (.inl r.1)) r.2 := by
  unfold Mo_known_61 at h
  refine rn_iinc (ls1 := [(2, .inl (w32 (x2 + 1))), (0, .inr (.inr a0)), (1, .inl x1)]) i171_61 rfl rfl ?_
  refine rn_goto i171_64 ?_
  exact rn_sub [1, 2, 0] rfl (hk21 a0 x1 (w32 (x2 + 1)) w r h)
def Mo_known_67 (a0 : Nat) (x1 : Int) (w : Wd) : Option (Int × Wd) :=
  (Mo_wrong a0 4 x1 w).bind fun r70 =>
  some ((-1), r70)
theorem s_Mo_known_67 {g : Gp} {l : Launch} {D : Nat} (hD : 3 ≤ D) (a0 : Nat) (x1 : Int) (w : Wd) (r : Int × Wd) (h : Mo_known_67 a0 x1 w = some r) : Rn g l D 171 67 [(0, .inr (.inr a0)), (1, .inl x1)] [] w (some (.inl r.1)) r.2 := by
  obtain ⟨D, rfl⟩ : ∃ D1, D = D1 + 1 := ⟨D - 1, by omega⟩
  unfold Mo_known_67 at h
  refine fr_aload_n i171_67 rfl ?_
  refine rn_iconst i171_68 ?_
  refine rn_iload_n i171_69 rfl ?_
  obtain ⟨r70, h70, h⟩ := Option.bind_eq_some_iff.mp h
  obtain ⟨g70, c70⟩ := S_Mo_wrong a0 4 x1 w r70 h70
  refine fr_callV (a := a0) (As := [.inl 4, .inl x1]) (st := []) i171_70 (cq161 a0 4 x1) rfl (Nat.le_of_ble_eq_true rfl) g70 (c70 _ (by omega)) ?_
  refine rn_iconst i171_73 ?_
  obtain rfl := Option.some.inj h
  exact rn_retI i171_74 mr171
def Mo_known_21 : Nat → Nat → Int → Int → Wd → Option (Int × Wd)
  | 0, _, _, _, _ => none
  | n + 1, a0, x1, x2, w =>
    (fgI w a0 12 20).bind fun v23 =>
    if (v23 : Int) ≤ x2 then
      Mo_known_67 a0 x1 w
    else
      (fgR w a0 12 21).bind fun v30 =>
      (rdL w v30 x2).bind fun v34 =>
      (fgR w a0 12 8).bind fun v36 =>
      (rdL w v36 x1).bind fun v40 =>
      if ((ocmp v34 v40) : Int) = 0 then
        (fgR w a0 12 22).bind fun v46 =>
        (rdI w v46 x2).bind fun v50 =>
        if (v50 : Int) < 0 then
          Mo_known_61 (Mo_known_21 n) a0 x1 x2 w
        else
          Mo_known_54 a0 x2 w
      else
        Mo_known_61 (Mo_known_21 n) a0 x1 x2 w
theorem s_Mo_known_21 {g : Gp} {l : Launch} {D : Nat} (hD : 3 ≤ D) : ∀ (n : Nat) (a0 : Nat) (x1 : Int) (x2 : Int) (w : Wd) (r : Int × Wd), Mo_known_21 n a0 x1 x2 w = some r → Rn g l D 171 21 [(0, .inr (.inr a0)), (1, .inl x1), (2, .inl x2)] [] w (some (.inl r.1)) r.2 := by
  intro n
  induction n with
  | zero => intro a0 x1 x2 w r h; cases (show (none : Option (Int × Wd)) = some r from h)
  | succ n ih =>
    intro a0 x1 x2 w r h
    unfold Mo_known_21 at h
    refine rn_iload_n i171_21 rfl ?_
    refine fr_aload_n i171_22 rfl ?_
    obtain ⟨v23, h23, h⟩ := Option.bind_eq_some_iff.mp h
    refine fr_gI (k := 20) i171_23 tf12_20 h23 ?_
    by_cases c26 : (v23 : Int) ≤ x2
    · rw [if_pos c26] at h
      refine rn_icmp_ge_t i171_26 c26 ?_
      exact rn_sub [0, 1] rfl (s_Mo_known_67 hD a0 x1 w r h)
    · rw [if_neg c26] at h
      refine rn_icmp_ge_f i171_26 c26 ?_
      refine fr_aload_n i171_29 rfl ?_
      obtain ⟨v30, h30, h⟩ := Option.bind_eq_some_iff.mp h
      refine fr_gR (k := 21) i171_30 tf12_21 h30 ?_
      refine rn_iload_n i171_33 rfl ?_
      obtain ⟨v34, h34, h⟩ := Option.bind_eq_some_iff.mp h
      refine rn_lald i171_34 h34 ?_
      refine fr_aload_n i171_35 rfl ?_
      obtain ⟨v36, h36, h⟩ := Option.bind_eq_some_iff.mp h
      refine fr_gR (k := 8) i171_36 tf12_8 h36 ?_
      refine rn_iload_n i171_39 rfl ?_
      obtain ⟨v40, h40, h⟩ := Option.bind_eq_some_iff.mp h
      refine rn_lald i171_40 h40 ?_
      refine rn_lcmp i171_41 ?_
      by_cases c42 : ((ocmp v34 v40) : Int) = 0
      · rw [if_pos c42] at h
        refine rn_if_ne_f i171_42 c42 ?_
        refine fr_aload_n i171_45 rfl ?_
        obtain ⟨v46, h46, h⟩ := Option.bind_eq_some_iff.mp h
        refine fr_gR (k := 22) i171_46 tf12_22 h46 ?_
        refine rn_iload_n i171_49 rfl ?_
        obtain ⟨v50, h50, h⟩ := Option.bind_eq_some_iff.mp h
        refine rn_iald i171_50 h50 ?_
        by_cases c51 : (v50 : Int) < 0
        · rw [if_pos c51] at h
          refine rn_if_lt_t i171_51 c51 ?_
          exact rn_sub [0, 1, 2] rfl (s_Mo_known_61 hD (Mo_known_21 n) ih a0 x1 x2 w r h)
        · rw [if_neg c51] at h
          refine rn_if_lt_f i171_51 c51 ?_
          exact rn_sub [0, 2] rfl (s_Mo_known_54 hD a0 x2 w r h)
      · rw [if_neg c42] at h
        refine rn_if_ne_t i171_42 c42 ?_
        exact rn_sub [0, 1, 2] rfl (s_Mo_known_61 hD (Mo_known_21 n) ih a0 x1 x2 w r h)
def Mo_known_0 (a0 : Nat) (w : Wd) : Option (Int × Wd) :=
  (fgI w a0 12 11).bind fun v1 =>
  (Mo_must a0 1 w).bind fun r7 =>
  (fgI r7 a0 12 13).bind fun v11 =>
  if (v11 : Int) ≤ 0 then
    Mo_known_21 FU a0 v1 0 r7
  else
    some ((-1), r7)
theorem s_Mo_known_0 {g : Gp} {l : Launch} {D : Nat} (hD : 3 ≤ D) (a0 : Nat) (w : Wd) (r : Int × Wd) (h : Mo_known_0 a0 w = some r) : Rn g l D 171 0 [(0, .inr (.inr a0))] [] w (some (.inl r.1)) r.2 := by
  obtain ⟨D, rfl⟩ : ∃ D1, D = D1 + 1 := ⟨D - 1, by omega⟩
  unfold Mo_known_0 at h
  refine fr_aload_n i171_0 rfl ?_
  obtain ⟨v1, h1, h⟩ := Option.bind_eq_some_iff.mp h
  refine fr_gI (k := 11) i171_1 tf12_11 h1 ?_
  refine rn_istore_n (ls1 := [(1, .inl v1), (0, .inr (.inr a0))]) i171_4 rfl ?_
  refine fr_aload_n i171_5 rfl ?_
  refine rn_iconst i171_6 ?_
  obtain ⟨r7, h7, h⟩ := Option.bind_eq_some_iff.mp h
  obtain ⟨g7, c7⟩ := S_Mo_must a0 1 w r7 h7
  refine fr_callV (a := a0) (As := [.inl 1]) (st := []) i171_7 (cq163 a0 1) rfl (Nat.le_of_ble_eq_true rfl) g7 (c7 _ (by omega)) ?_
  refine fr_aload_n i171_10 rfl ?_
  obtain ⟨v11, h11, h⟩ := Option.bind_eq_some_iff.mp h
  refine fr_gI (k := 13) i171_11 tf12_13 h11 ?_
  by_cases c14 : (v11 : Int) ≤ 0
  · rw [if_pos c14] at h
    refine rn_if_le_t i171_14 c14 ?_
    refine rn_iconst i171_19 ?_
    refine rn_istore_n (ls1 := [(2, .inl 0), (1, .inl v1), (0, .inr (.inr a0))]) i171_20 rfl ?_
    exact rn_sub [2, 1, 0] rfl (s_Mo_known_21 hD FU a0 v1 0 r7 r h)
  · rw [if_neg c14] at h
    refine rn_if_le_f i171_14 c14 ?_
    refine rn_iconst i171_17 ?_
    obtain rfl := Option.some.inj h
    exact rn_retI i171_18 mr171
/-- HandHeirsModel.known()I -/
def Mo_known (a0 : Nat) (w : Wd) : Option (Int × Wd) := gd 12 w a0 (Mo_known_0 a0 w)
theorem S_Mo_known {g : Gp} {l : Launch} (a0 : Nat) (w : Wd) (r : Int × Wd) (h : Mo_known a0 w = some r) : (wsh w a0).1 = 12 ∧ ∀ D, 3 ≤ D → Rn g l D 171 0 [(0, .inr (.inr a0))] [] w (some (.inl r.1)) r.2 := by
  obtain ⟨hg, h⟩ := gd_some h
  exact ⟨hg, fun D hD => rn_sub [0] rfl (s_Mo_known_0 hD a0 w r h)⟩
